/-! ===== one change of the road: what the law does and what it asks of the answer ===== -/
theorem Dj_xl {T : Nat → ClassId} {z : Nat} {Z : XZ} {S : XS} {la : Nat → Nat} {L : LwS} : Dj (xW T z Z S) (lW T la L) := fun k i q h => by
  unfold lW at h
  split at h
  · rename_i hk
    rw [hk.1]
    rfl
  · cases h
def poR (T : Nat → ClassId) (z a0 : Nat) (la : Nat → Nat) (t : Nat) : Option Value → WD → Prop := fun v w' => v = some (.int 1) ∧ ∃ (Z' : XZ) (S' : XS) (M' : MS) (L' : LwS), RR Z' S' M' L' (t + 1) ∧ Z'.A 0 0 = a0 ∧ w' = jn (xW T z Z' S') (lW T la L')
/-- a number below a bound -/
def nB (x : Int32) (n : Nat) : Prop := ∃ a : Nat, x = nI a ∧ a < n
theorem ix_1 {x g : Int32} {n N : Nat} (hx : nB x N) (hN : N ≤ 100000) (hg : g = nI n) (hn : n ≤ 16) : ∃ k : Nat, x - x / (g + 1) * (g + 1) = nI k ∧ k ≤ n := by
  obtain ⟨a, rfl, ha⟩ := hx
  rw [hg, nI_1, nI_rem (by omega) (by omega)]
  exact ⟨_, rfl, by have := Nat.mod_lt a (show 0 < n + 1 by omega); omega⟩
theorem ix_ne {g : Int32} {n : Nat} (hg : g = nI n) (hn : n ≤ 16) : ¬ g + 1 = 0 := by
  rw [hg, nI_1]
  exact nI_ne0 (by omega) (by omega)
theorem rem_nB {x : Int32} {N b : Nat} {B : Int32} (hx : nB x N) (hN : N ≤ 100000) (hB : B = nI b) (h0 : 0 < b) (hb : b ≤ 100000) : nB (x - x / B * B) b := by
  obtain ⟨a, rfl, ha⟩ := hx
  rw [hB, nI_rem (by omega) (by omega)]
  exact ⟨_, rfl, Nat.mod_lt a h0⟩
theorem div_nB {x : Int32} {N b : Nat} {B : Int32} (hx : nB x N) (hN : N ≤ 100000) (hB : B = nI b) (h0 : 0 < b) (hb : b ≤ 100000) : nB (x / B) N := by
  obtain ⟨a, rfl, ha⟩ := hx
  rw [hB, nI_div (by omega) (by omega)]
  exact ⟨_, rfl, Nat.lt_of_le_of_lt (Nat.div_le_self a b) ha⟩
theorem add_nB {x : Int32} {N b : Nat} {B : Int32} (hx : nB x N) (hN : N ≤ 100000) (hB : B = nI b) (hb : b ≤ 100000) : nB (B + x) (b + N) := by
  obtain ⟨a, rfl, ha⟩ := hx
  rw [hB, nI_add]
  exact ⟨_, rfl, by omega⟩
theorem nB_up {x : Int32} {a b : Nat} (h : nB x a) (hab : a ≤ b) : nB x b := by
  obtain ⟨k, e, hk⟩ := h
  exact ⟨k, e, by omega⟩
theorem nB_lit {x : Int32} {a : Nat} (k : Nat) (h : x = nI k) (hk : k < a) : nB x a := ⟨k, h, hk⟩
theorem nB_0 {x : Int32} {n : Nat} (h : nB x n) (hn : n ≤ 1000000) : 0 ≤ x.toInt := by
  obtain ⟨k, rfl, hk⟩ := h
  rw [nI_toInt (by omega)]
  exact Int.natCast_nonneg _
theorem i_le {x : Int32} {k : Int32} {n : Int} (hk : k.toInt = n) : ¬ x ≤ k ↔ n < x.toInt := by
  rw [Int32.le_iff_toInt_le, hk]
  omega
theorem i_ge {x : Int32} {k : Int32} {n : Int} (hk : k.toInt = n) : ¬ k ≤ x ↔ x.toInt < n := by
  rw [Int32.le_iff_toInt_le, hk]
  omega
theorem nB_ite {c : Prop} [Decidable c] {x a b : Int32} {n : Nat} (e : x = if c then a else b) (ha : nB a n) (hb : nB b n) : nB x n := by
  rw [e]
  split
  · exact ha
  · exact hb
theorem at_tn {M : MS} {L S6 : LwS} {j : Nat} {d : Int32} (h : LRw M L j) (e6 : S6 = lset L 3 j (L 3 j + d)) (hd : (L 3 j / 128 - L 3 j / 128 / 2 * 2 = 1 ∧ d = -128) ∨ (L 3 j / 128 - L 3 j / 128 / 2 * 2 = 0 ∧ d = 128)) : S6 3 j / 8 - S6 3 j / 8 / 16 * 16 = L 3 j / 8 - L 3 j / 8 / 16 * 16 := by
  have ha := h.at_
  have hy := h.way
  obtain ⟨w, a, y, g, q1, q2, q3, q4, e1, e2, e3, e4, e5, -⟩ := h
  rw [ha, e6, lset_s]
  rw [hy, e3] at hd
  obtain ⟨y', hy', ev⟩ : ∃ y' : Nat, y' ≤ 1 ∧ L 3 j + d = nI (w + 8 * a + 128 * y' + 256 * g) := by
    rcases hd with ⟨z, rfl⟩ | ⟨z, rfl⟩
    · have ey : y = 1 := (nI_eq (b := 1) (by omega) (by decide)).mp z
      subst ey
      refine ⟨0, by omega, ?_⟩
      rw [e5, show w + 8 * a + 128 * 1 + 256 * g = (w + 8 * a + 128 * 0 + 256 * g) + 128 by omega, ← nI_add _ 128]
      show nI (w + 8 * a + 128 * 0 + 256 * g) + 128 + -128 = _
      grind
    · have ey : y = 0 := (nI_eq (b := 0) (by omega) (by decide)).mp z
      subst ey
      refine ⟨1, by omega, ?_⟩
      rw [e5, show w + 8 * a + 128 * 1 + 256 * g = (w + 8 * a + 128 * 0 + 256 * g) + 128 by omega, ← nI_add _ 128]
      rfl
  rw [ev, d8 (by omega), r16 (by omega), e2]
  congr 1
  omega
theorem gd_tn {M : MS} {L S6 S7 : LwS} {j : Nat} {d d2 : Int32} (hj : j < 8) (h : LRw M L j) (hw : L 3 j - L 3 j / 8 * 8 = 2) (e6 : S6 = lset L 3 j (L 3 j + d)) (e7 : S7 = lset S6 3 j (S6 3 j + d2)) (hd : (L 3 j / 128 - L 3 j / 128 / 2 * 2 = 1 ∧ d = -128 ∧ d2 = -2) ∨ (L 3 j / 128 - L 3 j / 128 / 2 * 2 = 0 ∧ d = 128 ∧ d2 = 1)) : ¬ (S7 3 (nI j).toNatClampNeg / 256) - 1 < 0 → vp_in ((S7 3 (nI j).toNatClampNeg / 256) - 1) 3 := by
  have hy := h.way
  have hwh := h.wh
  obtain ⟨w, a, y, g, q1, q2, q3, q4, e1, e2, e3, e4, e5, -⟩ := h
  rw [hy, e3] at hd
  have ew : w = 2 := by
    rw [hwh, e1] at hw
    exact (nI_eq (b := 2) (by omega) (by decide)).mp hw
  subst ew
  obtain ⟨r, hr, ev⟩ : ∃ r : Nat, r ≤ 250 ∧ S7 3 j = nI (r + 256 * g) := by
    rw [e7, lset_s, e6, lset_s, e5]
    rcases hd with ⟨z, rfl, rfl⟩ | ⟨z, rfl, rfl⟩
    · have ey : y = 1 := (nI_eq (b := 1) (by omega) (by decide)).mp z
      subst ey
      refine ⟨8 * a, by omega, ?_⟩
      rw [show 2 + 8 * a + 128 * 1 + 256 * g = (8 * a + 256 * g) + 130 by omega, ← nI_add _ 130]
      show nI (8 * a + 256 * g) + 130 + -128 + -2 = _
      grind
    · have ey : y = 0 := (nI_eq (b := 0) (by omega) (by decide)).mp z
      subst ey
      refine ⟨8 * a + 131, by omega, ?_⟩
      rw [show 8 * a + 131 + 256 * g = (2 + 8 * a + 128 * 0 + 256 * g) + 129 by omega, ← nI_add _ 129]
      show _ + 128 + 1 = _ + nI 129
      rw [show nI 129 = (128 : Int32) + 1 by decide]
      grind
  rw [nI_clamp (by omega), ev, d256 (by omega), show (r + 256 * g) / 256 = g by omega]
  intro hneg
  cases g with
  | zero => exact absurd (show nI 0 - 1 < 0 by decide) hneg
  | succ g =>
    rw [nI_pred]
    exact vp_in_nI (by omega) (by decide)
/-- kilos that may be ordered -/
theorem ki_le {two x : Int32} (h2 : nB two 60000) (e : x = if two - two / 9 * 9 = 0 then two / 9 - two / 9 / 2 * 2 else 1 + two) {y : Int32} (ey : y = if two - two / 9 * 9 = 0 then (two / 9 - two / 9 / 2 * 2) * 1000001 else 1 + two) (hr : ¬ 1000001 ≤ y) : y.toInt ≤ 60000 := by
  rw [Int32.le_iff_toInt_le, show (1000001 : Int32).toInt = 1000001 by decide] at hr
  rw [ey] at hr ⊢
  split
  · rename_i c
    rw [if_pos c] at hr
    obtain ⟨k, ek, hk⟩ := rem_nB (B := 2) (b := 2) (div_nB (B := 9) (b := 9) h2 (by decide) rfl (by decide) (by decide)) (by decide) rfl (by decide) (by decide)
    rw [ek] at hr ⊢
    rcases (show k = 0 ∨ k = 1 by omega) with rfl | rfl
    · decide
    · exact absurd (show (nI 1 * 1000001).toInt = 1000001 by decide) (by omega)
  · obtain ⟨k, ek, hk⟩ := h2
    rw [ek, show (1 : Int32) = nI 1 from rfl, nI_add, nI_toInt (by omega)]
    omega
/-- minutes that may pass -/
theorem mi_ok {one two g x : Int32} (h1 : nB one 60000) (h2 : nB two 60000) (hg : 0 ≤ g.toInt) (e : x = if one - one / 9 * 9 = 0 then (two - two / 2 * 2) * 3001 else (if one - one / 2 * 2 = 0 then 1440 - (g - g / 1440 * 1440) else 1 + (two - two / 60 * 60))) (h0 : ¬ x ≤ 0) (hr : ¬ 3001 ≤ x) : ∃ n : Nat, x = nI n ∧ 1 ≤ n ∧ n ≤ 1440 := by
  rw [Int32.le_iff_toInt_le, show (3001 : Int32).toInt = 3001 by decide] at hr
  rw [Int32.le_iff_toInt_le, Int32.toInt_zero] at h0
  rw [e] at hr h0 ⊢
  split
  · rename_i c
    rw [if_pos c] at hr h0
    obtain ⟨k, ek, hk⟩ := rem_nB (B := 2) (b := 2) h2 (by decide) rfl (by decide) (by decide)
    rw [ek] at hr h0
    rcases (show k = 0 ∨ k = 1 by omega) with rfl | rfl
    · exact absurd (show (nI 0 * 3001).toInt = 0 by decide) (by omega)
    · exact absurd (show (nI 1 * 3001).toInt = 3001 by decide) (by omega)
  · split
    · obtain ⟨n, hn, rfl⟩ := nI_of (x := g) (by rw [Int32.lt_iff_toInt_lt, Int32.toInt_zero]; omega)
      rw [show (1440 : Int32) = nI 1440 from rfl, nI_rem hn (by decide), nI_sub' (by have := Nat.mod_lt n (show 0 < 1440 by decide); omega)]
      exact ⟨_, rfl, by have := Nat.mod_lt n (show 0 < 1440 by decide); omega, by omega⟩
    · obtain ⟨k, ek, hk⟩ := rem_nB (B := 60) (b := 60) h2 (by decide) rfl (by decide) (by decide)
      rw [ek, show (1 : Int32) = nI 1 from rfl, nI_add]
      exact ⟨_, rfl, by omega, by omega⟩
set_option maxHeartbeats 4000000 in
set_option maxRecDepth 100000 in
theorem qP_0 (G : GX) (hst : G.1.stackTraces = false) {Z : XZ} {S0 : XS} {M : MS} {L : LwS} {t : Nat} {la : Nat → Nat} (hR : RR Z S0 M L t) (ht : t ≤ 100) (one two : Int32) (h1 : nB one 60000) (h2 : nB two 60000) : FC G yL_isPiece cL_isPiece 13 (some .boolean) { frames := 9, cells := 5, slots := 802, locals := 261 } [.ref (Z.A 0 0), .ref (la 0), .ref (la 1), .ref (la 2), .ref (la 6), .int 0, .int one, .int two] (jn (xW G.2.2.2 G.2.1 Z S0) (lW G.2.2.2 la L)) (poR G.2.2.2 G.2.1 (Z.A 0 0) la t) := by
  refine FC.go (lv := [(0, .ref (Z.A 0 0)), (1, .ref (la 0)), (2, .ref (la 1)), (3, .ref (la 2)), (4, .ref (la 6)), (5, .int 0), (6, .int one), (7, .int two)]) (by decide) (Nat.le_of_ble_eq_true rfl) rfl (fun p e s m args below meth c A H locs ls Q hx hb hr hts hown hml hlocks hnm hK hE hI hA hl hQ => ?_)
  have hown : s.vm.findClass "IcehighwayLaw" = some m.cls := hown
  obtain ⟨np, enp⟩ : ∃ x : Nat, x = Z.N 0 := ⟨_, rfl⟩
  obtain ⟨nv, env⟩ : ∃ x : Nat, x = Z.N 1 := ⟨_, rfl⟩
  have h63 : L 6 3 = nI np := by rw [enp]; exact hR.l.g.2.2.2.1
  have h64 : L 6 4 = nI nv := by rw [env]; exact hR.l.g.2.2.2.2
  have hnp : np ≤ 8 := by rw [enp]; exact hR.np
  have hnv : nv ≤ 8 := by rw [env]; exact hR.nv
  have ht5 : t < 512 := by omega
  refine lv_iload hx hb dL_isPiece_0 (lv_at hl 5 rfl) ?_
  refine lv_if_ne (tgt := 270) hx hb dL_isPiece_2 (by decide) (fun h => absurd h (by decide)) (fun _ => ?_)
  refine lv_aload hx hb dL_isPiece_5 (lv_at hl 4 rfl) ?_
  refine lv_iconst (v := 3) hx hb dL_isPiece_7 (by decide) ?_
  refine gA (k := 6) (n := 5) (q := 3) hx hb hK hI (by decide) rfl (by unfold vp_in; decide) (by decide) dL_isPiece_8 ?_
  rw [h63]
  refine lv_bipush (v := 8) hx hb dL_isPiece_9 (by decide) ?_
  by_cases h80 : 8 ≤ (nI np)
  · skip
    refine lv_icmp_ge (tgt := 270) hx hb dL_isPiece_11 (by decide) (fun _ => ?_) (fun h9 => absurd h80 h9)
    refine lv_iload hx hb dL_isPiece_270 (lv_at hl 5 rfl) ?_
    refine lv_iconst (v := 2) hx hb dL_isPiece_272 (by decide) ?_
    refine lv_icmp_ge (tgt := 394) hx hb dL_isPiece_273 (by decide) (fun h => absurd h (by decide)) (fun _ => ?_)
    refine lv_iload hx hb dL_isPiece_276 (lv_at hl 7 rfl) ?_
    refine lv_bipush (v := 9) hx hb dL_isPiece_278 (by decide) ?_
    refine lv_irem hx hb dL_isPiece_280 (by decide) ?_
    have hJ2 : ∀ (x1 : Int32), (x1 = if (two - two / 9 * 9) = 0 then (((two / 9) - (two / 9) / 3 * 3) * 501) else (1 + (two - two / 60 * 60))) → W p G.1 e ({ frames := 9, cells := 5, slots := 802, locals := 261 }) s m args below meth c H locs 0 0 Q (F0 m 305 ls [.int x1]) := by
      intro x1 ex1
      refine lv_istore (lv' := [(8, .int x1), (0, .ref (Z.A 0 0)), (1, .ref (la 0)), (2, .ref (la 1)), (3, .ref (la 2)), (4, .ref (la 6)), (5, .int 0), (6, .int one), (7, .int two)]) hx hb dL_isPiece_305 hl (by decide) rfl (fun ls hl => ?_)
      refine lv_iload hx hb dL_isPiece_307 (lv_at hl 0 rfl) ?_
      have hJ3 : W p G.1 e ({ frames := 9, cells := 5, slots := 802, locals := 261 }) s m args below meth c H locs 0 0 Q (F0 m 325 ls [.int (bI ((¬ (x1 ≤ 0)) ∧ (¬ (501 ≤ x1))))]) := by
        by_cases hb9 : (¬ (x1 ≤ 0)) ∧ (¬ (501 ≤ x1))
        · rw [bI_t hb9]
          refine lv_istore (lv' := [(9, .int 1), (8, .int x1), (0, .ref (Z.A 0 0)), (1, .ref (la 0)), (2, .ref (la 1)), (3, .ref (la 2)), (4, .ref (la 6)), (5, .int 0), (6, .int one), (7, .int two)]) hx hb dL_isPiece_325 hl (by decide) rfl (fun ls hl => ?_)
          refine lv_iconst (v := 0) hx hb dL_isPiece_327 (by decide) ?_
          refine lv_istore (lv' := [(10, .int 0), (9, .int 1), (8, .int x1), (0, .ref (Z.A 0 0)), (1, .ref (la 0)), (2, .ref (la 1)), (3, .ref (la 2)), (4, .ref (la 6)), (5, .int 0), (6, .int one), (7, .int two)]) hx hb dL_isPiece_328 hl (by decide) rfl (fun ls hl => ?_)
          have hL6 : ∀ (k n : Nat), n + k = np → ∀ (i_ : Int32) (S5 : LwS) (H : Heap) (locs : List Loc) (ls : Array Slot), (i_ = nI n) → (S5 = L_snow_f L x1 n) → (fI G.2.2.1 A s.heap (jn (xW G.2.2.2 G.2.1 Z S0) (lW G.2.2.2 la S5)) H locs) → (lv_has ls 13 [(10, .int i_), (9, .int 1), (8, .int x1), (0, .ref (Z.A 0 0)), (1, .ref (la 0)), (2, .ref (la 1)), (3, .ref (la 2)), (4, .ref (la 6)), (5, .int 0), (6, .int one), (7, .int two)]) → W p G.1 e ({ frames := 9, cells := 5, slots := 802, locals := 261 }) s m args below meth c H locs 0 0 Q (F0 m 330 ls []) := by
            intro k
            induction k with
            | zero =>
              intro n hnk i_ S5 H locs ls ei eS5 hI hl
              subst ei
              have hn3 : S5 6 3 = nI np := by rw [eS5, L_snow_6]; exact h63
              refine lv_iload hx hb dL_isPiece_330 (lv_at hl 0 rfl) ?_
              refine lv_aload hx hb dL_isPiece_332 (lv_at hl 7 rfl) ?_
              refine lv_iconst (v := 3) hx hb dL_isPiece_334 (by decide) ?_
              refine gA (k := 6) (n := 5) (q := 3) hx hb hK hI (by decide) rfl (by unfold vp_in; decide) (by decide) dL_isPiece_335 ?_
              rw [hn3]
              refine lv_icmp_ge (tgt := 362) hx hb dL_isPiece_336 (by decide) (fun _ => ?_) (fun h => absurd (by rw [(show nI np = nI np from rfl)]; exact nI_le (by omega) (by omega)) h)
              have hn9 : n = np := by omega
              rw [hn9] at eS5
              have hl : lv_has ls 13 [(9, .int 1), (8, .int x1), (0, .ref (Z.A 0 0)), (1, .ref (la 0)), (2, .ref (la 1)), (3, .ref (la 2)), (4, .ref (la 6)), (5, .int 0), (6, .int one), (7, .int two)] := lv_sub hl [1, 2, 3, 4, 5, 6, 7, 8, 9, 10] rfl
              refine lv_aload_n hx hb dL_isPiece_362 rfl (lv_at hl 2 rfl) ?_
              refine lv_iconst (v := 2) hx hb dL_isPiece_363 (by decide) ?_
              refine lv_iload hx hb dL_isPiece_364 (lv_at hl 1 rfl) ?_
              refine lv_iconst (v := 0) hx hb dL_isPiece_366 (by decide) ?_
              refine lv_iconst (v := 0) hx hb dL_isPiece_367 (by decide) ?_
              refine jx_callH (rest := []) (as := [.ref (Z.A 0 0), .int 2, .int x1, .int 0, .int 0]) hx hb hml hts hown hK hE Dj_xl hI (qD_snow G hst Z S0 x1 0 0 hR.1.1.1) kw_does ⟨(Nat.le_of_ble_eq_true rfl), (Nat.le_of_ble_eq_true rfl)⟩ hl.1 (Nat.le_of_ble_eq_true rfl) dL_isPiece_368 ⟨(Nat.le_of_ble_eq_true rfl), (Nat.le_of_ble_eq_true rfl)⟩ (fun v w1 H locs hpE hI => ?_)
              obtain ⟨hv, Z99, S99, M99, hR9, hA9, hw9⟩ : FIN G.2.2.2 G.2.1 Z t S5 (nI np) v w1 := by subst eS5 ex1; subst enp env; exact fi1a hR ht5 ⟨by have := (i_le (n := 0) (by decide)).mp hb9.1; omega, by have := (i_ge (n := 501) (by decide)).mp hb9.2; omega⟩ hpE
              subst hv
              subst hw9
              refine lv_iload hx hb dL_isPiece_371 (lv_at hl 0 rfl) ?_
              refine lv_if_eq (tgt := 383) hx hb dL_isPiece_373 (by decide) (fun h => absurd h (by decide)) (fun _ => ?_)
              refine lv_aload hx hb dL_isPiece_376 (lv_at hl 6 rfl) ?_
              refine lv_iconst (v := 3) hx hb dL_isPiece_378 (by decide) ?_
              refine gA (k := 6) (n := 5) (q := 3) hx hb hK hI (by decide) rfl (by unfold vp_in; decide) (by decide) dL_isPiece_379 ?_
              rw [hn3]
              refine lv_goto (tgt := 385) hx hb dL_isPiece_380 (by decide) ?_
              have hm : (nI np : Int32) = nI np := rfl
              refine lv_icmp_ne (tgt := 392) hx hb dL_isPiece_385 (by decide) (fun h9 => absurd hm h9) (fun _ => ?_)
              refine lv_iconst (v := 1) hx hb dL_isPiece_388 (by decide) ?_
              refine lv_goto (tgt := 393) hx hb dL_isPiece_389 (by decide) ?_
              exact rt_z hx hb hr hlocks (by decide) hI hA hQ ⟨rfl, Z99, S99, M99, S5, hR9, hA9, rfl⟩ (Nat.le_of_ble_eq_true rfl) (Nat.le_of_ble_eq_true rfl) dL_isPiece_393
            | succ k ih =>
              intro n hnk i_ S5 H locs ls ei eS5 hI hl
              subst ei
              have hn3 : S5 6 3 = nI np := by rw [eS5, L_snow_6]; exact h63
              refine lv_iload hx hb dL_isPiece_330 (lv_at hl 0 rfl) ?_
              refine lv_aload hx hb dL_isPiece_332 (lv_at hl 7 rfl) ?_
              refine lv_iconst (v := 3) hx hb dL_isPiece_334 (by decide) ?_
              refine gA (k := 6) (n := 5) (q := 3) hx hb hK hI (by decide) rfl (by unfold vp_in; decide) (by decide) dL_isPiece_335 ?_
              rw [hn3]
              refine lv_icmp_ge (tgt := 362) hx hb dL_isPiece_336 (by decide) (fun h => absurd h (by rw [(show nI np = nI np from rfl)]; exact nI_ge (by omega) (by omega))) (fun _ => ?_)
              refine lv_iload hx hb dL_isPiece_339 (lv_at hl 1 rfl) ?_
              refine lv_if_eq (tgt := 362) hx hb dL_isPiece_341 (by decide) (fun h => absurd h (by decide)) (fun _ => ?_)
              refine lv_aload_n hx hb dL_isPiece_344 rfl (lv_at hl 4 rfl) ?_
              refine lv_bipush (v := 24) hx hb dL_isPiece_345 (by decide) ?_
              refine lv_iload hx hb dL_isPiece_347 (lv_at hl 0 rfl) ?_
              refine lv_iadd hx hb dL_isPiece_349 ?_
              refine lv_dup2_11 hx hb dL_isPiece_350 rfl rfl ?_
              refine gA (k := 0) (n := 57) (q := 24 + n) hx hb hK hI (by decide) rfl (vo_n 24 rfl (show n < 8 by omega) (by decide) (by decide)) (vo_nc 24 rfl (show n < 8 by omega) (by decide)) dL_isPiece_351 ?_
              refine lv_iload hx hb dL_isPiece_352 (lv_at hl 2 rfl) ?_
              refine lv_iadd hx hb dL_isPiece_354 ?_
              obtain ⟨S7, eS7⟩ : ∃ z : LwS, z = lset S5 0 (24 + n) ((S5 0 (24 + n)) + x1) := ⟨_, rfl⟩
              refine sA (k := 0) (n := 57) (q := 24 + n) hx hb hK hI (by decide) rfl (vo_n 24 rfl (show n < 8 by omega) (by decide) (by decide)) (vo_nc 24 rfl (show n < 8 by omega) (by decide)) eS7 dL_isPiece_355 (fun H locs hI => ?_)
              obtain ⟨x8, ex8⟩ : ∃ z : Int32, z = (nI n) + 1 := ⟨_, rfl⟩
              refine lv_iinc (v := x8) (lv' := [(10, .int x8), (9, .int 1), (8, .int x1), (0, .ref (Z.A 0 0)), (1, .ref (la 0)), (2, .ref (la 1)), (3, .ref (la 2)), (4, .ref (la 6)), (5, .int 0), (6, .int one), (7, .int two)]) hx hb dL_isPiece_356 hl (k := 0) rfl (by rw [ex8]; rfl) (by decide) rfl (fun ls hl => ?_)
              refine lv_goto (tgt := 330) hx hb dL_isPiece_359 (by decide) ?_
              have HE : L_snow_s S5 x1 n = S7 := by subst ex8 eS7; exact rfl
              exact ih (n + 1) (by omega) x8 S7 H locs ls (by rw [ex8]; exact nI_1 n) (by show _ = L_snow_s (L_snow_f L x1 n) x1 n; rw [← eS5]; exact HE.symm) hI (lv_sub hl [0, 1, 2, 3, 4, 5, 6, 7, 8, 9, 10] rfl)
          exact hL6 np 0 (by omega) 0 L H locs ls nI_0.symm rfl hI (lv_sub hl [0, 1, 2, 3, 4, 5, 6, 7, 8, 9, 10] rfl)
        · rw [bI_f hb9]
          refine lv_istore (lv' := [(9, .int 0), (8, .int x1), (0, .ref (Z.A 0 0)), (1, .ref (la 0)), (2, .ref (la 1)), (3, .ref (la 2)), (4, .ref (la 6)), (5, .int 0), (6, .int one), (7, .int two)]) hx hb dL_isPiece_325 hl (by decide) rfl (fun ls hl => ?_)
          refine lv_iconst (v := 0) hx hb dL_isPiece_327 (by decide) ?_
          refine lv_istore (lv' := [(10, .int 0), (9, .int 0), (8, .int x1), (0, .ref (Z.A 0 0)), (1, .ref (la 0)), (2, .ref (la 1)), (3, .ref (la 2)), (4, .ref (la 6)), (5, .int 0), (6, .int one), (7, .int two)]) hx hb dL_isPiece_328 hl (by decide) rfl (fun ls hl => ?_)
          have hX : W p G.1 e ({ frames := 9, cells := 5, slots := 802, locals := 261 }) s m args below meth c H locs 0 0 Q (F0 m 362 ls []) := by
            refine lv_aload_n hx hb dL_isPiece_362 rfl (lv_at hl 3 rfl) ?_
            refine lv_iconst (v := 2) hx hb dL_isPiece_363 (by decide) ?_
            refine lv_iload hx hb dL_isPiece_364 (lv_at hl 2 rfl) ?_
            refine lv_iconst (v := 0) hx hb dL_isPiece_366 (by decide) ?_
            refine lv_iconst (v := 0) hx hb dL_isPiece_367 (by decide) ?_
            refine jx_callH (rest := []) (as := [.ref (Z.A 0 0), .int 2, .int x1, .int 0, .int 0]) hx hb hml hts hown hK hE Dj_xl hI (qD_snow G hst Z S0 x1 0 0 hR.1.1.1) kw_does ⟨(Nat.le_of_ble_eq_true rfl), (Nat.le_of_ble_eq_true rfl)⟩ hl.1 (Nat.le_of_ble_eq_true rfl) dL_isPiece_368 ⟨(Nat.le_of_ble_eq_true rfl), (Nat.le_of_ble_eq_true rfl)⟩ (fun v w1 H locs hpE hI => ?_)
            obtain ⟨hv, Z99, S99, M99, hR9, hA9, hw9⟩ : FIN G.2.2.2 G.2.1 Z t L (-20000000) v w1 := by subst ex1; subst enp env; exact fi1b hR ht5 (fun z => hb9 ⟨(i_le (n := 0) (by decide)).mpr (by omega), (i_ge (n := 501) (by decide)).mpr (by omega)⟩) hpE
            subst hv
            subst hw9
            refine lv_iload hx hb dL_isPiece_371 (lv_at hl 1 rfl) ?_
            refine lv_if_eq (tgt := 383) hx hb dL_isPiece_373 (by decide) (fun _ => ?_) (fun h => absurd h (by decide))
            refine lv_ldc (v := -20000000) hx hb hown (hts _ q653) dL_isPiece_383 ?_
            have hm : (-20000000 : Int32) = -20000000 := rfl
            refine lv_icmp_ne (tgt := 392) hx hb dL_isPiece_385 (by decide) (fun h9 => absurd hm h9) (fun _ => ?_)
            refine lv_iconst (v := 1) hx hb dL_isPiece_388 (by decide) ?_
            refine lv_goto (tgt := 393) hx hb dL_isPiece_389 (by decide) ?_
            exact rt_z hx hb hr hlocks (by decide) hI hA hQ ⟨rfl, Z99, S99, M99, L, hR9, hA9, rfl⟩ (Nat.le_of_ble_eq_true rfl) (Nat.le_of_ble_eq_true rfl) dL_isPiece_393
          refine lv_iload hx hb dL_isPiece_330 (lv_at hl 0 rfl) ?_
          refine lv_aload hx hb dL_isPiece_332 (lv_at hl 7 rfl) ?_
          refine lv_iconst (v := 3) hx hb dL_isPiece_334 (by decide) ?_
          refine gA (k := 6) (n := 5) (q := 3) hx hb hK hI (by decide) rfl (by unfold vp_in; decide) (by decide) dL_isPiece_335 ?_
          rw [h63]
          refine lv_icmp_ge (tgt := 362) hx hb dL_isPiece_336 (by decide) (fun _ => hX) (fun _ => ?_)
          refine lv_iload hx hb dL_isPiece_339 (lv_at hl 1 rfl) ?_
          refine lv_if_eq (tgt := 362) hx hb dL_isPiece_341 (by decide) (fun _ => ?_) (fun h => absurd h (by decide))
          exact hX
      refine lv_if_le (tgt := 324) hx hb dL_isPiece_309 (by decide) (fun c9 => ?_) (fun c9 => ?_)
      · refine lv_iconst (v := 0) hx hb dL_isPiece_324 (by decide) ?_
        have eb10 : (0 : Int32) = bI ((¬ (x1 ≤ 0)) ∧ (¬ (501 ≤ x1))) := (bI_f (fun k => k.1 c9)).symm
        rw [eb10]
        exact hJ3
      · refine lv_iload hx hb dL_isPiece_312 (lv_at hl 0 rfl) ?_
        refine lv_sipush (v := 501) hx hb dL_isPiece_314 (by decide) ?_
        refine lv_icmp_ge (tgt := 324) hx hb dL_isPiece_317 (by decide) (fun c11 => ?_) (fun c11 => ?_)
        · refine lv_iconst (v := 0) hx hb dL_isPiece_324 (by decide) ?_
          have eb12 : (0 : Int32) = bI ((¬ (x1 ≤ 0)) ∧ (¬ (501 ≤ x1))) := (bI_f (fun k => (fun k => k c11) k.2)).symm
          rw [eb12]
          exact hJ3
        · refine lv_iconst (v := 1) hx hb dL_isPiece_320 (by decide) ?_
          refine lv_goto (tgt := 325) hx hb dL_isPiece_321 (by decide) ?_
          have eb13 : (1 : Int32) = bI ((¬ (x1 ≤ 0)) ∧ (¬ (501 ≤ x1))) := (bI_t ⟨c9, c11⟩).symm
          rw [eb13]
          exact hJ3
    refine lv_if_ne (tgt := 298) hx hb dL_isPiece_281 (by decide) (fun c14 => ?_) (fun c14 => ?_)
    · refine lv_iconst (v := 1) hx hb dL_isPiece_298 (by decide) ?_
      refine lv_iload hx hb dL_isPiece_299 (lv_at hl 7 rfl) ?_
      refine lv_bipush (v := 60) hx hb dL_isPiece_301 (by decide) ?_
      refine lv_irem hx hb dL_isPiece_303 (by decide) ?_
      refine lv_iadd hx hb dL_isPiece_304 ?_
      exact hJ2 (1 + (two - two / 60 * 60)) (by exact (if_neg c14).symm)
    · refine lv_iload hx hb dL_isPiece_284 (lv_at hl 7 rfl) ?_
      refine lv_bipush (v := 9) hx hb dL_isPiece_286 (by decide) ?_
      refine lv_idiv hx hb dL_isPiece_288 (by decide) ?_
      refine lv_iconst (v := 3) hx hb dL_isPiece_289 (by decide) ?_
      refine lv_irem hx hb dL_isPiece_290 (by decide) ?_
      refine lv_sipush (v := 501) hx hb dL_isPiece_291 (by decide) ?_
      refine lv_imul hx hb dL_isPiece_294 ?_
      refine lv_goto (tgt := 305) hx hb dL_isPiece_295 (by decide) ?_
      exact hJ2 (((two / 9) - (two / 9) / 3 * 3) * 501) (by exact (if_pos c14).symm)
  · have h8 : np < 8 := by
      rcases Nat.lt_or_ge np 8 with z | z
      · exact z
      · exact absurd (nI_le (a := 8) z (by omega)) h80
    refine lv_icmp_ge (tgt := 270) hx hb dL_isPiece_11 (by decide) (fun h9 => absurd h9 h80) (fun _ => ?_)
    refine lv_iload hx hb dL_isPiece_14 (lv_at hl 6 rfl) ?_
    refine lv_bipush (v := 9) hx hb dL_isPiece_16 (by decide) ?_
    refine lv_irem hx hb dL_isPiece_18 (by decide) ?_
    refine lv_bipush (v := 8) hx hb dL_isPiece_19 (by decide) ?_
    have hJ16 : ∀ (x15 : Int32), (x15 = if (one - one / 9 * 9) = 8 then 3 else (one - one / 3 * 3)) → W p G.1 e ({ frames := 9, cells := 5, slots := 802, locals := 261 }) s m args below meth c H locs 0 0 Q (F0 m 32 ls [.int x15]) := by
      intro x15 ex15
      refine lv_istore (lv' := [(8, .int x15), (0, .ref (Z.A 0 0)), (1, .ref (la 0)), (2, .ref (la 1)), (3, .ref (la 2)), (4, .ref (la 6)), (5, .int 0), (6, .int one), (7, .int two)]) hx hb dL_isPiece_32 hl (by decide) rfl (fun ls hl => ?_)
      obtain ⟨kk, rfl, hlk⟩ : nB x15 4 := nB_ite ex15 (nB_lit 3 rfl (by decide)) (nB_up (rem_nB (b := 3) h1 (by decide) rfl (by decide) (by decide)) (by decide))
      refine lv_iload hx hb dL_isPiece_34 (lv_at hl 7 rfl) ?_
      refine lv_bipush (v := 9) hx hb dL_isPiece_36 (by decide) ?_
      refine lv_idiv hx hb dL_isPiece_38 (by decide) ?_
      refine lv_bipush (v := 9) hx hb dL_isPiece_39 (by decide) ?_
      refine lv_irem hx hb dL_isPiece_41 (by decide) ?_
      have hJ18 : ∀ (x17 : Int32), (x17 = if ((one / 9) - (one / 9) / 9 * 9) = 0 then (((one / 81) * 30) - ((one / 81) * 30) / 20002 * 20002) else (50 + ((one / 9) - (one / 9) / 3000 * 3000))) → W p G.1 e ({ frames := 9, cells := 5, slots := 802, locals := 261 }) s m args below meth c H locs 0 0 Q (F0 m 72 ls [.int x17]) := by
        intro x17 ex17
        refine lv_istore (lv' := [(9, .int x17), (8, .int (nI kk)), (0, .ref (Z.A 0 0)), (1, .ref (la 0)), (2, .ref (la 1)), (3, .ref (la 2)), (4, .ref (la 6)), (5, .int 0), (6, .int one), (7, .int two)]) hx hb dL_isPiece_72 hl (by decide) rfl (fun ls hl => ?_)
        refine lv_iload hx hb dL_isPiece_74 (lv_at hl 9 rfl) ?_
        refine lv_bipush (v := 9) hx hb dL_isPiece_76 (by decide) ?_
        refine lv_irem hx hb dL_isPiece_78 (by decide) ?_
        have hJ20 : ∀ (x19 : Int32), (x19 = if (two - two / 9 * 9) = 0 then (two - two / 1001 * 1001) else (5 + (two - two / 80 * 80))) → W p G.1 e ({ frames := 9, cells := 5, slots := 802, locals := 261 }) s m args below meth c H locs 0 0 Q (F0 m 98 ls [.int x19]) := by
          intro x19 ex19
          refine lv_istore (lv' := [(10, .int x19), (9, .int x17), (8, .int (nI kk)), (0, .ref (Z.A 0 0)), (1, .ref (la 0)), (2, .ref (la 1)), (3, .ref (la 2)), (4, .ref (la 6)), (5, .int 0), (6, .int one), (7, .int two)]) hx hb dL_isPiece_98 hl (by decide) rfl (fun ls hl => ?_)
          refine lv_iload hx hb dL_isPiece_100 (lv_at hl 2 rfl) ?_
          refine lv_iconst (v := 3) hx hb dL_isPiece_102 (by decide) ?_
          have hJ21 : W p G.1 e ({ frames := 9, cells := 5, slots := 802, locals := 261 }) s m args below meth c H locs 0 0 Q (F0 m 137 ls [.int (bI ((¬ (3 ≤ (nI kk))) ∧ ((¬ (x17 ≤ 0)) ∧ ((¬ (20001 ≤ x17)) ∧ ((¬ (x19 ≤ 0)) ∧ (¬ (1000 ≤ x19)))))))]) := by
            by_cases hb11 : (¬ (3 ≤ (nI kk))) ∧ ((¬ (x17 ≤ 0)) ∧ ((¬ (20001 ≤ x17)) ∧ ((¬ (x19 ≤ 0)) ∧ (¬ (1000 ≤ x19)))))
            · rw [bI_t hb11]
              refine lv_istore (lv' := [(11, .int 1), (10, .int x19), (9, .int x17), (8, .int (nI kk)), (0, .ref (Z.A 0 0)), (1, .ref (la 0)), (2, .ref (la 1)), (3, .ref (la 2)), (4, .ref (la 6)), (5, .int 0), (6, .int one), (7, .int two)]) hx hb dL_isPiece_137 hl (by decide) rfl (fun ls hl => ?_)
              refine lv_iload hx hb dL_isPiece_139 (lv_at hl 0 rfl) ?_
              refine lv_if_eq (tgt := 155) hx hb dL_isPiece_141 (by decide) (fun h => absurd h (by decide)) (fun _ => ?_)
              refine lv_aload hx hb dL_isPiece_144 (lv_at hl 8 rfl) ?_
              refine lv_iconst (v := 4) hx hb dL_isPiece_146 (by decide) ?_
              refine gA (k := 6) (n := 5) (q := 4) hx hb hK hI (by decide) rfl (by unfold vp_in; decide) (by decide) dL_isPiece_147 ?_
              rw [h64]
              have hJ22 : W p G.1 e ({ frames := 9, cells := 5, slots := 802, locals := 261 }) s m args below meth c H locs 0 0 Q (F0 m 156 ls [.int (bI ((nI nv) = 0))]) := by
                by_cases hb12 : (nI nv) = 0
                · rw [bI_t hb12]
                  refine lv_istore (lv' := [(12, .int 1), (11, .int 1), (10, .int x19), (9, .int x17), (8, .int (nI kk)), (0, .ref (Z.A 0 0)), (1, .ref (la 0)), (2, .ref (la 1)), (3, .ref (la 2)), (4, .ref (la 6)), (5, .int 0), (6, .int one), (7, .int two)]) hx hb dL_isPiece_156 hl (by decide) rfl (fun ls hl => ?_)
                  refine lv_iload hx hb dL_isPiece_158 (lv_at hl 0 rfl) ?_
                  refine lv_if_eq (tgt := 224) hx hb dL_isPiece_160 (by decide) (fun h => absurd h (by decide)) (fun _ => ?_)
                  refine lv_aload_n hx hb dL_isPiece_163 rfl (lv_at hl 7 rfl) ?_
                  refine lv_aload hx hb dL_isPiece_164 (lv_at hl 9 rfl) ?_
                  refine lv_iconst (v := 3) hx hb dL_isPiece_166 (by decide) ?_
                  refine gA (k := 6) (n := 5) (q := 3) hx hb hK hI (by decide) rfl (by unfold vp_in; decide) (by decide) dL_isPiece_167 ?_
                  rw [h63]
                  refine lv_iload hx hb dL_isPiece_168 (lv_at hl 4 rfl) ?_
                  refine lv_sipush (v := 6400) hx hb dL_isPiece_170 (by decide) ?_
                  refine lv_iadd hx hb dL_isPiece_173 ?_
                  obtain ⟨S23, eS23⟩ : ∃ z : LwS, z = lset L 1 np ((nI kk) + 6400) := ⟨_, rfl⟩
                  refine sA (k := 1) (n := 9) (q := np) hx hb hK hI (by decide) rfl (vp_in_nI (Nat.lt_of_lt_of_le h8 (by decide)) (by decide)) (nI_clamp (Nat.lt_of_lt_of_le h8 (by decide))) eS23 dL_isPiece_174 (fun H locs hI => ?_)
                  refine lv_aload_n hx hb dL_isPiece_175 rfl (lv_at hl 8 rfl) ?_
                  refine lv_aload hx hb dL_isPiece_176 (lv_at hl 9 rfl) ?_
                  refine lv_iconst (v := 3) hx hb dL_isPiece_178 (by decide) ?_
                  refine gA (k := 6) (n := 5) (q := 3) hx hb hK hI (by decide) rfl (by unfold vp_in; decide) (by decide) dL_isPiece_179 ?_
                  rw [(show S23 6 3 = nI np by rw [eS23, lset_k (by decide)]; exact h63)]
                  refine lv_iload hx hb dL_isPiece_180 (lv_at hl 3 rfl) ?_
                  obtain ⟨S24, eS24⟩ : ∃ z : LwS, z = lset S23 2 np x17 := ⟨_, rfl⟩
                  refine sA (k := 2) (n := 16) (q := np) hx hb hK hI (by decide) rfl (vp_in_nI (Nat.lt_of_lt_of_le h8 (by decide)) (by decide)) (nI_clamp (Nat.lt_of_lt_of_le h8 (by decide))) eS24 dL_isPiece_182 (fun H locs hI => ?_)
                  refine lv_aload_n hx hb dL_isPiece_183 rfl (lv_at hl 8 rfl) ?_
                  refine lv_bipush (v := 8) hx hb dL_isPiece_184 (by decide) ?_
                  refine lv_aload hx hb dL_isPiece_186 (lv_at hl 9 rfl) ?_
                  refine lv_iconst (v := 3) hx hb dL_isPiece_188 (by decide) ?_
                  refine gA (k := 6) (n := 5) (q := 3) hx hb hK hI (by decide) rfl (by unfold vp_in; decide) (by decide) dL_isPiece_189 ?_
                  rw [(show S24 6 3 = nI np by rw [eS24, lset_k (by decide)]; exact (show S23 6 3 = nI np by rw [eS23, lset_k (by decide)]; exact h63))]
                  refine lv_iadd hx hb dL_isPiece_190 ?_
                  refine lv_iload hx hb dL_isPiece_191 (lv_at hl 2 rfl) ?_
                  obtain ⟨S25, eS25⟩ : ∃ z : LwS, z = lset S24 2 (8 + np) x19 := ⟨_, rfl⟩
                  refine sA (k := 2) (n := 16) (q := 8 + np) hx hb hK hI (by decide) rfl (vo_n 8 rfl h8 (by decide) (by decide)) (vo_nc 8 rfl h8 (by decide)) eS25 dL_isPiece_193 (fun H locs hI => ?_)
                  refine lv_aload_n hx hb dL_isPiece_194 rfl (lv_at hl 6 rfl) ?_
                  refine lv_bipush (v := 40) hx hb dL_isPiece_195 (by decide) ?_
                  refine lv_aload hx hb dL_isPiece_197 (lv_at hl 9 rfl) ?_
                  refine lv_iconst (v := 3) hx hb dL_isPiece_199 (by decide) ?_
                  refine gA (k := 6) (n := 5) (q := 3) hx hb hK hI (by decide) rfl (by unfold vp_in; decide) (by decide) dL_isPiece_200 ?_
                  rw [(show S25 6 3 = nI np by rw [eS25, lset_k (by decide)]; exact (show S24 6 3 = nI np by rw [eS24, lset_k (by decide)]; exact (show S23 6 3 = nI np by rw [eS23, lset_k (by decide)]; exact h63)))]
                  refine lv_iadd hx hb dL_isPiece_201 ?_
                  refine lv_ldc (v := -1000000) hx hb hown (hts _ q715) dL_isPiece_202 ?_
                  obtain ⟨S26, eS26⟩ : ∃ z : LwS, z = lset S25 0 (40 + np) (-1000000) := ⟨_, rfl⟩
                  refine sA (k := 0) (n := 57) (q := 40 + np) hx hb hK hI (by decide) rfl (vo_n 40 rfl h8 (by decide) (by decide)) (vo_nc 40 rfl h8 (by decide)) eS26 dL_isPiece_204 (fun H locs hI => ?_)
                  refine lv_aload_n hx hb dL_isPiece_205 rfl (lv_at hl 6 rfl) ?_
                  refine lv_bipush (v := 48) hx hb dL_isPiece_206 (by decide) ?_
                  refine lv_aload hx hb dL_isPiece_208 (lv_at hl 9 rfl) ?_
                  refine lv_iconst (v := 3) hx hb dL_isPiece_210 (by decide) ?_
                  refine gA (k := 6) (n := 5) (q := 3) hx hb hK hI (by decide) rfl (by unfold vp_in; decide) (by decide) dL_isPiece_211 ?_
                  rw [(show S26 6 3 = nI np by rw [eS26, lset_k (by decide)]; exact (show S25 6 3 = nI np by rw [eS25, lset_k (by decide)]; exact (show S24 6 3 = nI np by rw [eS24, lset_k (by decide)]; exact (show S23 6 3 = nI np by rw [eS23, lset_k (by decide)]; exact h63))))]
                  refine lv_iadd hx hb dL_isPiece_212 ?_
                  refine lv_ldc (v := -1000000) hx hb hown (hts _ q715) dL_isPiece_213 ?_
                  obtain ⟨S27, eS27⟩ : ∃ z : LwS, z = lset S26 0 (48 + np) (-1000000) := ⟨_, rfl⟩
                  refine sA (k := 0) (n := 57) (q := 48 + np) hx hb hK hI (by decide) rfl (vo_n 48 rfl h8 (by decide) (by decide)) (vo_nc 48 rfl h8 (by decide)) eS27 dL_isPiece_215 (fun H locs hI => ?_)
                  refine lv_aload hx hb dL_isPiece_216 (lv_at hl 9 rfl) ?_
                  refine lv_iconst (v := 3) hx hb dL_isPiece_218 (by decide) ?_
                  refine lv_dup2_11 hx hb dL_isPiece_219 rfl rfl ?_
                  refine gA (k := 6) (n := 5) (q := 3) hx hb hK hI (by decide) rfl (by unfold vp_in; decide) (by decide) dL_isPiece_220 ?_
                  rw [(show S27 6 3 = nI np by rw [eS27, lset_k (by decide)]; exact (show S26 6 3 = nI np by rw [eS26, lset_k (by decide)]; exact (show S25 6 3 = nI np by rw [eS25, lset_k (by decide)]; exact (show S24 6 3 = nI np by rw [eS24, lset_k (by decide)]; exact (show S23 6 3 = nI np by rw [eS23, lset_k (by decide)]; exact h63)))))]
                  refine lv_iconst (v := 1) hx hb dL_isPiece_221 (by decide) ?_
                  refine lv_iadd hx hb dL_isPiece_222 ?_
                  obtain ⟨S28, eS28⟩ : ∃ z : LwS, z = lset S27 6 3 ((nI np) + 1) := ⟨_, rfl⟩
                  refine sA (k := 6) (n := 5) (q := 3) hx hb hK hI (by decide) rfl (by unfold vp_in; decide) (by decide) eS28 dL_isPiece_223 (fun H locs hI => ?_)
                  refine lv_aload_n hx hb dL_isPiece_224 rfl (lv_at hl 5 rfl) ?_
                  refine lv_iconst (v := 0) hx hb dL_isPiece_225 (by decide) ?_
                  refine lv_iload hx hb dL_isPiece_226 (lv_at hl 4 rfl) ?_
                  refine lv_iload hx hb dL_isPiece_228 (lv_at hl 3 rfl) ?_
                  refine lv_iload hx hb dL_isPiece_230 (lv_at hl 2 rfl) ?_
                  refine jx_callH (rest := []) (as := [.ref (Z.A 0 0), .int 0, .int (nI kk), .int x17, .int x19]) hx hb hml hts hown hK hE Dj_xl hI (qD_piece G hst Z S0 (nI kk) x17 x19 hR.1.1.1 hR.1.1.2.1) kw_does ⟨(Nat.le_of_ble_eq_true rfl), (Nat.le_of_ble_eq_true rfl)⟩ hl.1 (Nat.le_of_ble_eq_true rfl) dL_isPiece_232 ⟨(Nat.le_of_ble_eq_true rfl), (Nat.le_of_ble_eq_true rfl)⟩ (fun v w1 H locs hpE hI => ?_)
                  obtain ⟨hv, Z99, S99, M99, hR9, hA9, hw9⟩ : FIN G.2.2.2 G.2.1 Z t S28 (nI np) v w1 := by subst eS28 eS27 eS26 eS25 eS24 eS23 ex19 ex17; subst enp env; exact fi0b hR ht5 h8 (show kk ≤ 2 by have := (i_ge (n := 3) (by decide)).mp hb11.1; rw [nI_toInt (by omega)] at this; omega) ⟨⟨by have := (i_le (n := 0) (by decide)).mp hb11.2.1; omega, by have := (i_ge (n := 20001) (by decide)).mp hb11.2.2.1; omega⟩, ⟨by have := (i_le (n := 0) (by decide)).mp hb11.2.2.2.1; omega, by have := (i_ge (n := 1000) (by decide)).mp hb11.2.2.2.2; omega⟩⟩ ((nI_eq (b := 0) (by omega) (by decide)).mp hb12) hpE
                  subst hv
                  subst hw9
                  refine lv_iload hx hb dL_isPiece_235 (lv_at hl 1 rfl) ?_
                  refine lv_if_ne (tgt := 245) hx hb dL_isPiece_237 (by decide) (fun _ => ?_) (fun h => absurd h (by decide))
                  refine lv_iload hx hb dL_isPiece_245 (lv_at hl 0 rfl) ?_
                  refine lv_if_eq (tgt := 259) hx hb dL_isPiece_247 (by decide) (fun h => absurd h (by decide)) (fun _ => ?_)
                  refine lv_aload hx hb dL_isPiece_250 (lv_at hl 9 rfl) ?_
                  refine lv_iconst (v := 3) hx hb dL_isPiece_252 (by decide) ?_
                  refine gA (k := 6) (n := 5) (q := 3) hx hb hK hI (by decide) rfl (by unfold vp_in; decide) (by decide) dL_isPiece_253 ?_
                  refine lv_iconst (v := 1) hx hb dL_isPiece_254 (by decide) ?_
                  refine lv_isub hx hb dL_isPiece_255 ?_
                  refine lv_goto (tgt := 261) hx hb dL_isPiece_256 (by decide) ?_
                  have hm : (nI np : Int32) = (S28 6 3) - 1 := by rw [eS28, lset_s]; exact (Int32.add_sub_cancel _ _).symm
                  refine lv_icmp_ne (tgt := 268) hx hb dL_isPiece_261 (by decide) (fun h9 => absurd hm h9) (fun _ => ?_)
                  refine lv_iconst (v := 1) hx hb dL_isPiece_264 (by decide) ?_
                  refine lv_goto (tgt := 269) hx hb dL_isPiece_265 (by decide) ?_
                  exact rt_z hx hb hr hlocks (by decide) hI hA hQ ⟨rfl, Z99, S99, M99, S28, hR9, hA9, rfl⟩ (Nat.le_of_ble_eq_true rfl) (Nat.le_of_ble_eq_true rfl) dL_isPiece_269
                · rw [bI_f hb12]
                  refine lv_istore (lv' := [(12, .int 0), (11, .int 1), (10, .int x19), (9, .int x17), (8, .int (nI kk)), (0, .ref (Z.A 0 0)), (1, .ref (la 0)), (2, .ref (la 1)), (3, .ref (la 2)), (4, .ref (la 6)), (5, .int 0), (6, .int one), (7, .int two)]) hx hb dL_isPiece_156 hl (by decide) rfl (fun ls hl => ?_)
                  refine lv_iload hx hb dL_isPiece_158 (lv_at hl 0 rfl) ?_
                  refine lv_if_eq (tgt := 224) hx hb dL_isPiece_160 (by decide) (fun _ => ?_) (fun h => absurd h (by decide))
                  refine lv_aload_n hx hb dL_isPiece_224 rfl (lv_at hl 5 rfl) ?_
                  refine lv_iconst (v := 0) hx hb dL_isPiece_225 (by decide) ?_
                  refine lv_iload hx hb dL_isPiece_226 (lv_at hl 4 rfl) ?_
                  refine lv_iload hx hb dL_isPiece_228 (lv_at hl 3 rfl) ?_
                  refine lv_iload hx hb dL_isPiece_230 (lv_at hl 2 rfl) ?_
                  refine jx_callH (rest := []) (as := [.ref (Z.A 0 0), .int 0, .int (nI kk), .int x17, .int x19]) hx hb hml hts hown hK hE Dj_xl hI (qD_piece G hst Z S0 (nI kk) x17 x19 hR.1.1.1 hR.1.1.2.1) kw_does ⟨(Nat.le_of_ble_eq_true rfl), (Nat.le_of_ble_eq_true rfl)⟩ hl.1 (Nat.le_of_ble_eq_true rfl) dL_isPiece_232 ⟨(Nat.le_of_ble_eq_true rfl), (Nat.le_of_ble_eq_true rfl)⟩ (fun v w1 H locs hpE hI => ?_)
                  obtain ⟨hv, Z99, S99, M99, hR9, hA9, hw9⟩ : FIN G.2.2.2 G.2.1 Z t L (-10000000) v w1 := by subst ex19 ex17; subst enp env; exact fi0c hR ht5 ⟨⟨by rw [nI_toInt (by omega)]; exact Int.natCast_nonneg _, by have := (i_ge (n := 3) (by decide)).mp hb11.1; omega⟩, ⟨by have := (i_le (n := 0) (by decide)).mp hb11.2.1; omega, by have := (i_ge (n := 20001) (by decide)).mp hb11.2.2.1; omega⟩, ⟨by have := (i_le (n := 0) (by decide)).mp hb11.2.2.2.1; omega, by have := (i_ge (n := 1000) (by decide)).mp hb11.2.2.2.2; omega⟩⟩ (Nat.pos_of_ne_zero (fun z => hb12 (by rw [z]; rfl))) hpE
                  subst hv
                  subst hw9
                  refine lv_iload hx hb dL_isPiece_235 (lv_at hl 1 rfl) ?_
                  refine lv_if_ne (tgt := 245) hx hb dL_isPiece_237 (by decide) (fun _ => ?_) (fun h => absurd h (by decide))
                  refine lv_iload hx hb dL_isPiece_245 (lv_at hl 0 rfl) ?_
                  refine lv_if_eq (tgt := 259) hx hb dL_isPiece_247 (by decide) (fun _ => ?_) (fun h => absurd h (by decide))
                  refine lv_ldc (v := -10000000) hx hb hown (hts _ q654) dL_isPiece_259 ?_
                  have hm : (-10000000 : Int32) = -10000000 := rfl
                  refine lv_icmp_ne (tgt := 268) hx hb dL_isPiece_261 (by decide) (fun h9 => absurd hm h9) (fun _ => ?_)
                  refine lv_iconst (v := 1) hx hb dL_isPiece_264 (by decide) ?_
                  refine lv_goto (tgt := 269) hx hb dL_isPiece_265 (by decide) ?_
                  exact rt_z hx hb hr hlocks (by decide) hI hA hQ ⟨rfl, Z99, S99, M99, L, hR9, hA9, rfl⟩ (Nat.le_of_ble_eq_true rfl) (Nat.le_of_ble_eq_true rfl) dL_isPiece_269
              refine lv_if_ne (tgt := 155) hx hb dL_isPiece_148 (by decide) (fun c29 => ?_) (fun c29 => ?_)
              · refine lv_iconst (v := 0) hx hb dL_isPiece_155 (by decide) ?_
                have eb30 : (0 : Int32) = bI ((nI nv) = 0) := (bI_f c29).symm
                rw [eb30]
                exact hJ22
              · refine lv_iconst (v := 1) hx hb dL_isPiece_151 (by decide) ?_
                refine lv_goto (tgt := 156) hx hb dL_isPiece_152 (by decide) ?_
                have eb31 : (1 : Int32) = bI ((nI nv) = 0) := (bI_t c29).symm
                rw [eb31]
                exact hJ22
            · rw [bI_f hb11]
              refine lv_istore (lv' := [(11, .int 0), (10, .int x19), (9, .int x17), (8, .int (nI kk)), (0, .ref (Z.A 0 0)), (1, .ref (la 0)), (2, .ref (la 1)), (3, .ref (la 2)), (4, .ref (la 6)), (5, .int 0), (6, .int one), (7, .int two)]) hx hb dL_isPiece_137 hl (by decide) rfl (fun ls hl => ?_)
              refine lv_iload hx hb dL_isPiece_139 (lv_at hl 0 rfl) ?_
              refine lv_if_eq (tgt := 155) hx hb dL_isPiece_141 (by decide) (fun _ => ?_) (fun h => absurd h (by decide))
              refine lv_iconst (v := 0) hx hb dL_isPiece_155 (by decide) ?_
              refine lv_istore (lv' := [(12, .int 0), (11, .int 0), (10, .int x19), (9, .int x17), (8, .int (nI kk)), (0, .ref (Z.A 0 0)), (1, .ref (la 0)), (2, .ref (la 1)), (3, .ref (la 2)), (4, .ref (la 6)), (5, .int 0), (6, .int one), (7, .int two)]) hx hb dL_isPiece_156 hl (by decide) rfl (fun ls hl => ?_)
              refine lv_iload hx hb dL_isPiece_158 (lv_at hl 0 rfl) ?_
              refine lv_if_eq (tgt := 224) hx hb dL_isPiece_160 (by decide) (fun _ => ?_) (fun h => absurd h (by decide))
              refine lv_aload_n hx hb dL_isPiece_224 rfl (lv_at hl 5 rfl) ?_
              refine lv_iconst (v := 0) hx hb dL_isPiece_225 (by decide) ?_
              refine lv_iload hx hb dL_isPiece_226 (lv_at hl 4 rfl) ?_
              refine lv_iload hx hb dL_isPiece_228 (lv_at hl 3 rfl) ?_
              refine lv_iload hx hb dL_isPiece_230 (lv_at hl 2 rfl) ?_
              refine jx_callH (rest := []) (as := [.ref (Z.A 0 0), .int 0, .int (nI kk), .int x17, .int x19]) hx hb hml hts hown hK hE Dj_xl hI (qD_piece G hst Z S0 (nI kk) x17 x19 hR.1.1.1 hR.1.1.2.1) kw_does ⟨(Nat.le_of_ble_eq_true rfl), (Nat.le_of_ble_eq_true rfl)⟩ hl.1 (Nat.le_of_ble_eq_true rfl) dL_isPiece_232 ⟨(Nat.le_of_ble_eq_true rfl), (Nat.le_of_ble_eq_true rfl)⟩ (fun v w1 H locs hpE hI => ?_)
              obtain ⟨hv, Z99, S99, M99, hR9, hA9, hw9⟩ : FIN G.2.2.2 G.2.1 Z t L (-20000000) v w1 := by subst ex19 ex17; subst enp env; exact fi0a hR ht5 (fun z => hb11 ⟨(i_ge (n := 3) (by decide)).mpr (by omega), (i_le (n := 0) (by decide)).mpr (by omega), (i_ge (n := 20001) (by decide)).mpr (by omega), (i_le (n := 0) (by decide)).mpr (by omega), (i_ge (n := 1000) (by decide)).mpr (by omega)⟩) hpE
              subst hv
              subst hw9
              refine lv_iload hx hb dL_isPiece_235 (lv_at hl 1 rfl) ?_
              refine lv_if_ne (tgt := 245) hx hb dL_isPiece_237 (by decide) (fun h => absurd h (by decide)) (fun _ => ?_)
              refine lv_ldc (v := -20000000) hx hb hown (hts _ q653) dL_isPiece_240 ?_
              refine lv_goto (tgt := 261) hx hb dL_isPiece_242 (by decide) ?_
              have hm : (-20000000 : Int32) = -20000000 := rfl
              refine lv_icmp_ne (tgt := 268) hx hb dL_isPiece_261 (by decide) (fun h9 => absurd hm h9) (fun _ => ?_)
              refine lv_iconst (v := 1) hx hb dL_isPiece_264 (by decide) ?_
              refine lv_goto (tgt := 269) hx hb dL_isPiece_265 (by decide) ?_
              exact rt_z hx hb hr hlocks (by decide) hI hA hQ ⟨rfl, Z99, S99, M99, L, hR9, hA9, rfl⟩ (Nat.le_of_ble_eq_true rfl) (Nat.le_of_ble_eq_true rfl) dL_isPiece_269
          refine lv_icmp_ge (tgt := 136) hx hb dL_isPiece_103 (by decide) (fun c32 => ?_) (fun c32 => ?_)
          · refine lv_iconst (v := 0) hx hb dL_isPiece_136 (by decide) ?_
            have eb33 : (0 : Int32) = bI ((¬ (3 ≤ (nI kk))) ∧ ((¬ (x17 ≤ 0)) ∧ ((¬ (20001 ≤ x17)) ∧ ((¬ (x19 ≤ 0)) ∧ (¬ (1000 ≤ x19)))))) := (bI_f (fun k => k.1 c32)).symm
            rw [eb33]
            exact hJ21
          · refine lv_iload hx hb dL_isPiece_106 (lv_at hl 1 rfl) ?_
            refine lv_if_le (tgt := 136) hx hb dL_isPiece_108 (by decide) (fun c34 => ?_) (fun c34 => ?_)
            · refine lv_iconst (v := 0) hx hb dL_isPiece_136 (by decide) ?_
              have eb35 : (0 : Int32) = bI ((¬ (3 ≤ (nI kk))) ∧ ((¬ (x17 ≤ 0)) ∧ ((¬ (20001 ≤ x17)) ∧ ((¬ (x19 ≤ 0)) ∧ (¬ (1000 ≤ x19)))))) := (bI_f (fun k => (fun k => k.1 c34) k.2)).symm
              rw [eb35]
              exact hJ21
            · refine lv_iload hx hb dL_isPiece_111 (lv_at hl 1 rfl) ?_
              refine lv_sipush (v := 20001) hx hb dL_isPiece_113 (by decide) ?_
              refine lv_icmp_ge (tgt := 136) hx hb dL_isPiece_116 (by decide) (fun c36 => ?_) (fun c36 => ?_)
              · refine lv_iconst (v := 0) hx hb dL_isPiece_136 (by decide) ?_
                have eb37 : (0 : Int32) = bI ((¬ (3 ≤ (nI kk))) ∧ ((¬ (x17 ≤ 0)) ∧ ((¬ (20001 ≤ x17)) ∧ ((¬ (x19 ≤ 0)) ∧ (¬ (1000 ≤ x19)))))) := (bI_f (fun k => (fun k => (fun k => k.1 c36) k.2) k.2)).symm
                rw [eb37]
                exact hJ21
              · refine lv_iload hx hb dL_isPiece_119 (lv_at hl 0 rfl) ?_
                refine lv_if_le (tgt := 136) hx hb dL_isPiece_121 (by decide) (fun c38 => ?_) (fun c38 => ?_)
                · refine lv_iconst (v := 0) hx hb dL_isPiece_136 (by decide) ?_
                  have eb39 : (0 : Int32) = bI ((¬ (3 ≤ (nI kk))) ∧ ((¬ (x17 ≤ 0)) ∧ ((¬ (20001 ≤ x17)) ∧ ((¬ (x19 ≤ 0)) ∧ (¬ (1000 ≤ x19)))))) := (bI_f (fun k => (fun k => (fun k => (fun k => k.1 c38) k.2) k.2) k.2)).symm
                  rw [eb39]
                  exact hJ21
                · refine lv_iload hx hb dL_isPiece_124 (lv_at hl 0 rfl) ?_
                  refine lv_sipush (v := 1000) hx hb dL_isPiece_126 (by decide) ?_
                  refine lv_icmp_ge (tgt := 136) hx hb dL_isPiece_129 (by decide) (fun c40 => ?_) (fun c40 => ?_)
                  · refine lv_iconst (v := 0) hx hb dL_isPiece_136 (by decide) ?_
                    have eb41 : (0 : Int32) = bI ((¬ (3 ≤ (nI kk))) ∧ ((¬ (x17 ≤ 0)) ∧ ((¬ (20001 ≤ x17)) ∧ ((¬ (x19 ≤ 0)) ∧ (¬ (1000 ≤ x19)))))) := (bI_f (fun k => (fun k => (fun k => (fun k => (fun k => k c40) k.2) k.2) k.2) k.2)).symm
                    rw [eb41]
                    exact hJ21
                  · refine lv_iconst (v := 1) hx hb dL_isPiece_132 (by decide) ?_
                    refine lv_goto (tgt := 137) hx hb dL_isPiece_133 (by decide) ?_
                    have eb42 : (1 : Int32) = bI ((¬ (3 ≤ (nI kk))) ∧ ((¬ (x17 ≤ 0)) ∧ ((¬ (20001 ≤ x17)) ∧ ((¬ (x19 ≤ 0)) ∧ (¬ (1000 ≤ x19)))))) := (bI_t ⟨c32, ⟨c34, ⟨c36, ⟨c38, c40⟩⟩⟩⟩).symm
                    rw [eb42]
                    exact hJ21
        refine lv_if_ne (tgt := 91) hx hb dL_isPiece_79 (by decide) (fun c43 => ?_) (fun c43 => ?_)
        · refine lv_iconst (v := 5) hx hb dL_isPiece_91 (by decide) ?_
          refine lv_iload hx hb dL_isPiece_92 (lv_at hl 9 rfl) ?_
          refine lv_bipush (v := 80) hx hb dL_isPiece_94 (by decide) ?_
          refine lv_irem hx hb dL_isPiece_96 (by decide) ?_
          refine lv_iadd hx hb dL_isPiece_97 ?_
          exact hJ20 (5 + (two - two / 80 * 80)) (by exact (if_neg c43).symm)
        · refine lv_iload hx hb dL_isPiece_82 (lv_at hl 9 rfl) ?_
          refine lv_sipush (v := 1001) hx hb dL_isPiece_84 (by decide) ?_
          refine lv_irem hx hb dL_isPiece_87 (by decide) ?_
          refine lv_goto (tgt := 98) hx hb dL_isPiece_88 (by decide) ?_
          exact hJ20 (two - two / 1001 * 1001) (by exact (if_pos c43).symm)
      refine lv_if_ne (tgt := 60) hx hb dL_isPiece_42 (by decide) (fun c44 => ?_) (fun c44 => ?_)
      · refine lv_bipush (v := 50) hx hb dL_isPiece_60 (by decide) ?_
        refine lv_iload hx hb dL_isPiece_62 (lv_at hl 7 rfl) ?_
        refine lv_bipush (v := 9) hx hb dL_isPiece_64 (by decide) ?_
        refine lv_idiv hx hb dL_isPiece_66 (by decide) ?_
        refine lv_sipush (v := 3000) hx hb dL_isPiece_67 (by decide) ?_
        refine lv_irem hx hb dL_isPiece_70 (by decide) ?_
        refine lv_iadd hx hb dL_isPiece_71 ?_
        exact hJ18 (50 + ((one / 9) - (one / 9) / 3000 * 3000)) (by exact (if_neg c44).symm)
      · refine lv_iload hx hb dL_isPiece_45 (lv_at hl 7 rfl) ?_
        refine lv_bipush (v := 81) hx hb dL_isPiece_47 (by decide) ?_
        refine lv_idiv hx hb dL_isPiece_49 (by decide) ?_
        refine lv_bipush (v := 30) hx hb dL_isPiece_50 (by decide) ?_
        refine lv_imul hx hb dL_isPiece_52 ?_
        refine lv_sipush (v := 20002) hx hb dL_isPiece_53 (by decide) ?_
        refine lv_irem hx hb dL_isPiece_56 (by decide) ?_
        refine lv_goto (tgt := 72) hx hb dL_isPiece_57 (by decide) ?_
        exact hJ18 (((one / 81) * 30) - ((one / 81) * 30) / 20002 * 20002) (by exact (if_pos c44).symm)
    refine lv_icmp_ne (tgt := 28) hx hb dL_isPiece_21 (by decide) (fun c45 => ?_) (fun c45 => ?_)
    · refine lv_iload hx hb dL_isPiece_28 (lv_at hl 6 rfl) ?_
      refine lv_iconst (v := 3) hx hb dL_isPiece_30 (by decide) ?_
      refine lv_irem hx hb dL_isPiece_31 (by decide) ?_
      exact hJ16 (one - one / 3 * 3) (by exact (if_neg c45).symm)
    · refine lv_iconst (v := 3) hx hb dL_isPiece_24 (by decide) ?_
      refine lv_goto (tgt := 32) hx hb dL_isPiece_25 (by decide) ?_
      exact hJ16 3 (by exact (if_pos c45).symm)
set_option maxHeartbeats 4000000 in
set_option maxRecDepth 100000 in
theorem qP_1 (G : GX) (hst : G.1.stackTraces = false) {Z : XZ} {S0 : XS} {M : MS} {L : LwS} {t : Nat} {la : Nat → Nat} (hR : RR Z S0 M L t) (ht : t ≤ 100) (one two : Int32) (h1 : nB one 60000) (h2 : nB two 60000) : FC G yL_isPiece cL_isPiece 13 (some .boolean) { frames := 9, cells := 5, slots := 802, locals := 261 } [.ref (Z.A 0 0), .ref (la 0), .ref (la 1), .ref (la 2), .ref (la 6), .int 1, .int one, .int two] (jn (xW G.2.2.2 G.2.1 Z S0) (lW G.2.2.2 la L)) (poR G.2.2.2 G.2.1 (Z.A 0 0) la t) := by
  refine FC.go (lv := [(0, .ref (Z.A 0 0)), (1, .ref (la 0)), (2, .ref (la 1)), (3, .ref (la 2)), (4, .ref (la 6)), (5, .int 1), (6, .int one), (7, .int two)]) (by decide) (Nat.le_of_ble_eq_true rfl) rfl (fun p e s m args below meth c A H locs ls Q hx hb hr hts hown hml hlocks hnm hK hE hI hA hl hQ => ?_)
  have hown : s.vm.findClass "IcehighwayLaw" = some m.cls := hown
  obtain ⟨np, enp⟩ : ∃ x : Nat, x = Z.N 0 := ⟨_, rfl⟩
  obtain ⟨nv, env⟩ : ∃ x : Nat, x = Z.N 1 := ⟨_, rfl⟩
  have h63 : L 6 3 = nI np := by rw [enp]; exact hR.l.g.2.2.2.1
  have h64 : L 6 4 = nI nv := by rw [env]; exact hR.l.g.2.2.2.2
  have hnp : np ≤ 8 := by rw [enp]; exact hR.np
  have hnv : nv ≤ 8 := by rw [env]; exact hR.nv
  have ht5 : t < 512 := by omega
  refine lv_iload hx hb dL_isPiece_0 (lv_at hl 5 rfl) ?_
  refine lv_if_ne (tgt := 270) hx hb dL_isPiece_2 (by decide) (fun _ => ?_) (fun h => absurd h (by decide))
  refine lv_iload hx hb dL_isPiece_270 (lv_at hl 5 rfl) ?_
  refine lv_iconst (v := 2) hx hb dL_isPiece_272 (by decide) ?_
  refine lv_icmp_ge (tgt := 394) hx hb dL_isPiece_273 (by decide) (fun h => absurd h (by decide)) (fun _ => ?_)
  refine lv_iload hx hb dL_isPiece_276 (lv_at hl 7 rfl) ?_
  refine lv_bipush (v := 9) hx hb dL_isPiece_278 (by decide) ?_
  refine lv_irem hx hb dL_isPiece_280 (by decide) ?_
  have hJ2 : ∀ (x1 : Int32), (x1 = if (two - two / 9 * 9) = 0 then (((two / 9) - (two / 9) / 3 * 3) * 501) else (1 + (two - two / 60 * 60))) → W p G.1 e ({ frames := 9, cells := 5, slots := 802, locals := 261 }) s m args below meth c H locs 0 0 Q (F0 m 305 ls [.int x1]) := by
    intro x1 ex1
    refine lv_istore (lv' := [(8, .int x1), (0, .ref (Z.A 0 0)), (1, .ref (la 0)), (2, .ref (la 1)), (3, .ref (la 2)), (4, .ref (la 6)), (5, .int 1), (6, .int one), (7, .int two)]) hx hb dL_isPiece_305 hl (by decide) rfl (fun ls hl => ?_)
    refine lv_iload hx hb dL_isPiece_307 (lv_at hl 0 rfl) ?_
    have hJ3 : W p G.1 e ({ frames := 9, cells := 5, slots := 802, locals := 261 }) s m args below meth c H locs 0 0 Q (F0 m 325 ls [.int (bI ((¬ (x1 ≤ 0)) ∧ (¬ (501 ≤ x1))))]) := by
      by_cases hb9 : (¬ (x1 ≤ 0)) ∧ (¬ (501 ≤ x1))
      · rw [bI_t hb9]
        refine lv_istore (lv' := [(9, .int 1), (8, .int x1), (0, .ref (Z.A 0 0)), (1, .ref (la 0)), (2, .ref (la 1)), (3, .ref (la 2)), (4, .ref (la 6)), (5, .int 1), (6, .int one), (7, .int two)]) hx hb dL_isPiece_325 hl (by decide) rfl (fun ls hl => ?_)
        refine lv_iconst (v := 0) hx hb dL_isPiece_327 (by decide) ?_
        refine lv_istore (lv' := [(10, .int 0), (9, .int 1), (8, .int x1), (0, .ref (Z.A 0 0)), (1, .ref (la 0)), (2, .ref (la 1)), (3, .ref (la 2)), (4, .ref (la 6)), (5, .int 1), (6, .int one), (7, .int two)]) hx hb dL_isPiece_328 hl (by decide) rfl (fun ls hl => ?_)
        have hL6 : ∀ (k n : Nat), n + k = np → ∀ (i_ : Int32) (S5 : LwS) (H : Heap) (locs : List Loc) (ls : Array Slot), (i_ = nI n) → (S5 = L_snow_f L x1 n) → (fI G.2.2.1 A s.heap (jn (xW G.2.2.2 G.2.1 Z S0) (lW G.2.2.2 la S5)) H locs) → (lv_has ls 13 [(10, .int i_), (9, .int 1), (8, .int x1), (0, .ref (Z.A 0 0)), (1, .ref (la 0)), (2, .ref (la 1)), (3, .ref (la 2)), (4, .ref (la 6)), (5, .int 1), (6, .int one), (7, .int two)]) → W p G.1 e ({ frames := 9, cells := 5, slots := 802, locals := 261 }) s m args below meth c H locs 0 0 Q (F0 m 330 ls []) := by
          intro k
          induction k with
          | zero =>
            intro n hnk i_ S5 H locs ls ei eS5 hI hl
            subst ei
            have hn3 : S5 6 3 = nI np := by rw [eS5, L_snow_6]; exact h63
            refine lv_iload hx hb dL_isPiece_330 (lv_at hl 0 rfl) ?_
            refine lv_aload hx hb dL_isPiece_332 (lv_at hl 7 rfl) ?_
            refine lv_iconst (v := 3) hx hb dL_isPiece_334 (by decide) ?_
            refine gA (k := 6) (n := 5) (q := 3) hx hb hK hI (by decide) rfl (by unfold vp_in; decide) (by decide) dL_isPiece_335 ?_
            rw [hn3]
            refine lv_icmp_ge (tgt := 362) hx hb dL_isPiece_336 (by decide) (fun _ => ?_) (fun h => absurd (by rw [(show nI np = nI np from rfl)]; exact nI_le (by omega) (by omega)) h)
            have hn9 : n = np := by omega
            rw [hn9] at eS5
            have hl : lv_has ls 13 [(9, .int 1), (8, .int x1), (0, .ref (Z.A 0 0)), (1, .ref (la 0)), (2, .ref (la 1)), (3, .ref (la 2)), (4, .ref (la 6)), (5, .int 1), (6, .int one), (7, .int two)] := lv_sub hl [1, 2, 3, 4, 5, 6, 7, 8, 9, 10] rfl
            refine lv_aload_n hx hb dL_isPiece_362 rfl (lv_at hl 2 rfl) ?_
            refine lv_iconst (v := 2) hx hb dL_isPiece_363 (by decide) ?_
            refine lv_iload hx hb dL_isPiece_364 (lv_at hl 1 rfl) ?_
            refine lv_iconst (v := 0) hx hb dL_isPiece_366 (by decide) ?_
            refine lv_iconst (v := 0) hx hb dL_isPiece_367 (by decide) ?_
            refine jx_callH (rest := []) (as := [.ref (Z.A 0 0), .int 2, .int x1, .int 0, .int 0]) hx hb hml hts hown hK hE Dj_xl hI (qD_snow G hst Z S0 x1 0 0 hR.1.1.1) kw_does ⟨(Nat.le_of_ble_eq_true rfl), (Nat.le_of_ble_eq_true rfl)⟩ hl.1 (Nat.le_of_ble_eq_true rfl) dL_isPiece_368 ⟨(Nat.le_of_ble_eq_true rfl), (Nat.le_of_ble_eq_true rfl)⟩ (fun v w1 H locs hpE hI => ?_)
            obtain ⟨hv, Z99, S99, M99, hR9, hA9, hw9⟩ : FIN G.2.2.2 G.2.1 Z t S5 (nI np) v w1 := by subst eS5 ex1; subst enp env; exact fi1a hR ht5 ⟨by have := (i_le (n := 0) (by decide)).mp hb9.1; omega, by have := (i_ge (n := 501) (by decide)).mp hb9.2; omega⟩ hpE
            subst hv
            subst hw9
            refine lv_iload hx hb dL_isPiece_371 (lv_at hl 0 rfl) ?_
            refine lv_if_eq (tgt := 383) hx hb dL_isPiece_373 (by decide) (fun h => absurd h (by decide)) (fun _ => ?_)
            refine lv_aload hx hb dL_isPiece_376 (lv_at hl 6 rfl) ?_
            refine lv_iconst (v := 3) hx hb dL_isPiece_378 (by decide) ?_
            refine gA (k := 6) (n := 5) (q := 3) hx hb hK hI (by decide) rfl (by unfold vp_in; decide) (by decide) dL_isPiece_379 ?_
            rw [hn3]
            refine lv_goto (tgt := 385) hx hb dL_isPiece_380 (by decide) ?_
            have hm : (nI np : Int32) = nI np := rfl
            refine lv_icmp_ne (tgt := 392) hx hb dL_isPiece_385 (by decide) (fun h9 => absurd hm h9) (fun _ => ?_)
            refine lv_iconst (v := 1) hx hb dL_isPiece_388 (by decide) ?_
            refine lv_goto (tgt := 393) hx hb dL_isPiece_389 (by decide) ?_
            exact rt_z hx hb hr hlocks (by decide) hI hA hQ ⟨rfl, Z99, S99, M99, S5, hR9, hA9, rfl⟩ (Nat.le_of_ble_eq_true rfl) (Nat.le_of_ble_eq_true rfl) dL_isPiece_393
          | succ k ih =>
            intro n hnk i_ S5 H locs ls ei eS5 hI hl
            subst ei
            have hn3 : S5 6 3 = nI np := by rw [eS5, L_snow_6]; exact h63
            refine lv_iload hx hb dL_isPiece_330 (lv_at hl 0 rfl) ?_
            refine lv_aload hx hb dL_isPiece_332 (lv_at hl 7 rfl) ?_
            refine lv_iconst (v := 3) hx hb dL_isPiece_334 (by decide) ?_
            refine gA (k := 6) (n := 5) (q := 3) hx hb hK hI (by decide) rfl (by unfold vp_in; decide) (by decide) dL_isPiece_335 ?_
            rw [hn3]
            refine lv_icmp_ge (tgt := 362) hx hb dL_isPiece_336 (by decide) (fun h => absurd h (by rw [(show nI np = nI np from rfl)]; exact nI_ge (by omega) (by omega))) (fun _ => ?_)
            refine lv_iload hx hb dL_isPiece_339 (lv_at hl 1 rfl) ?_
            refine lv_if_eq (tgt := 362) hx hb dL_isPiece_341 (by decide) (fun h => absurd h (by decide)) (fun _ => ?_)
            refine lv_aload_n hx hb dL_isPiece_344 rfl (lv_at hl 4 rfl) ?_
            refine lv_bipush (v := 24) hx hb dL_isPiece_345 (by decide) ?_
            refine lv_iload hx hb dL_isPiece_347 (lv_at hl 0 rfl) ?_
            refine lv_iadd hx hb dL_isPiece_349 ?_
            refine lv_dup2_11 hx hb dL_isPiece_350 rfl rfl ?_
            refine gA (k := 0) (n := 57) (q := 24 + n) hx hb hK hI (by decide) rfl (vo_n 24 rfl (show n < 8 by omega) (by decide) (by decide)) (vo_nc 24 rfl (show n < 8 by omega) (by decide)) dL_isPiece_351 ?_
            refine lv_iload hx hb dL_isPiece_352 (lv_at hl 2 rfl) ?_
            refine lv_iadd hx hb dL_isPiece_354 ?_
            obtain ⟨S7, eS7⟩ : ∃ z : LwS, z = lset S5 0 (24 + n) ((S5 0 (24 + n)) + x1) := ⟨_, rfl⟩
            refine sA (k := 0) (n := 57) (q := 24 + n) hx hb hK hI (by decide) rfl (vo_n 24 rfl (show n < 8 by omega) (by decide) (by decide)) (vo_nc 24 rfl (show n < 8 by omega) (by decide)) eS7 dL_isPiece_355 (fun H locs hI => ?_)
            obtain ⟨x8, ex8⟩ : ∃ z : Int32, z = (nI n) + 1 := ⟨_, rfl⟩
            refine lv_iinc (v := x8) (lv' := [(10, .int x8), (9, .int 1), (8, .int x1), (0, .ref (Z.A 0 0)), (1, .ref (la 0)), (2, .ref (la 1)), (3, .ref (la 2)), (4, .ref (la 6)), (5, .int 1), (6, .int one), (7, .int two)]) hx hb dL_isPiece_356 hl (k := 0) rfl (by rw [ex8]; rfl) (by decide) rfl (fun ls hl => ?_)
            refine lv_goto (tgt := 330) hx hb dL_isPiece_359 (by decide) ?_
            have HE : L_snow_s S5 x1 n = S7 := by subst ex8 eS7; exact rfl
            exact ih (n + 1) (by omega) x8 S7 H locs ls (by rw [ex8]; exact nI_1 n) (by show _ = L_snow_s (L_snow_f L x1 n) x1 n; rw [← eS5]; exact HE.symm) hI (lv_sub hl [0, 1, 2, 3, 4, 5, 6, 7, 8, 9, 10] rfl)
        exact hL6 np 0 (by omega) 0 L H locs ls nI_0.symm rfl hI (lv_sub hl [0, 1, 2, 3, 4, 5, 6, 7, 8, 9, 10] rfl)
      · rw [bI_f hb9]
        refine lv_istore (lv' := [(9, .int 0), (8, .int x1), (0, .ref (Z.A 0 0)), (1, .ref (la 0)), (2, .ref (la 1)), (3, .ref (la 2)), (4, .ref (la 6)), (5, .int 1), (6, .int one), (7, .int two)]) hx hb dL_isPiece_325 hl (by decide) rfl (fun ls hl => ?_)
        refine lv_iconst (v := 0) hx hb dL_isPiece_327 (by decide) ?_
        refine lv_istore (lv' := [(10, .int 0), (9, .int 0), (8, .int x1), (0, .ref (Z.A 0 0)), (1, .ref (la 0)), (2, .ref (la 1)), (3, .ref (la 2)), (4, .ref (la 6)), (5, .int 1), (6, .int one), (7, .int two)]) hx hb dL_isPiece_328 hl (by decide) rfl (fun ls hl => ?_)
        have hX : W p G.1 e ({ frames := 9, cells := 5, slots := 802, locals := 261 }) s m args below meth c H locs 0 0 Q (F0 m 362 ls []) := by
          refine lv_aload_n hx hb dL_isPiece_362 rfl (lv_at hl 3 rfl) ?_
          refine lv_iconst (v := 2) hx hb dL_isPiece_363 (by decide) ?_
          refine lv_iload hx hb dL_isPiece_364 (lv_at hl 2 rfl) ?_
          refine lv_iconst (v := 0) hx hb dL_isPiece_366 (by decide) ?_
          refine lv_iconst (v := 0) hx hb dL_isPiece_367 (by decide) ?_
          refine jx_callH (rest := []) (as := [.ref (Z.A 0 0), .int 2, .int x1, .int 0, .int 0]) hx hb hml hts hown hK hE Dj_xl hI (qD_snow G hst Z S0 x1 0 0 hR.1.1.1) kw_does ⟨(Nat.le_of_ble_eq_true rfl), (Nat.le_of_ble_eq_true rfl)⟩ hl.1 (Nat.le_of_ble_eq_true rfl) dL_isPiece_368 ⟨(Nat.le_of_ble_eq_true rfl), (Nat.le_of_ble_eq_true rfl)⟩ (fun v w1 H locs hpE hI => ?_)
          obtain ⟨hv, Z99, S99, M99, hR9, hA9, hw9⟩ : FIN G.2.2.2 G.2.1 Z t L (-20000000) v w1 := by subst ex1; subst enp env; exact fi1b hR ht5 (fun z => hb9 ⟨(i_le (n := 0) (by decide)).mpr (by omega), (i_ge (n := 501) (by decide)).mpr (by omega)⟩) hpE
          subst hv
          subst hw9
          refine lv_iload hx hb dL_isPiece_371 (lv_at hl 1 rfl) ?_
          refine lv_if_eq (tgt := 383) hx hb dL_isPiece_373 (by decide) (fun _ => ?_) (fun h => absurd h (by decide))
          refine lv_ldc (v := -20000000) hx hb hown (hts _ q653) dL_isPiece_383 ?_
          have hm : (-20000000 : Int32) = -20000000 := rfl
          refine lv_icmp_ne (tgt := 392) hx hb dL_isPiece_385 (by decide) (fun h9 => absurd hm h9) (fun _ => ?_)
          refine lv_iconst (v := 1) hx hb dL_isPiece_388 (by decide) ?_
          refine lv_goto (tgt := 393) hx hb dL_isPiece_389 (by decide) ?_
          exact rt_z hx hb hr hlocks (by decide) hI hA hQ ⟨rfl, Z99, S99, M99, L, hR9, hA9, rfl⟩ (Nat.le_of_ble_eq_true rfl) (Nat.le_of_ble_eq_true rfl) dL_isPiece_393
        refine lv_iload hx hb dL_isPiece_330 (lv_at hl 0 rfl) ?_
        refine lv_aload hx hb dL_isPiece_332 (lv_at hl 7 rfl) ?_
        refine lv_iconst (v := 3) hx hb dL_isPiece_334 (by decide) ?_
        refine gA (k := 6) (n := 5) (q := 3) hx hb hK hI (by decide) rfl (by unfold vp_in; decide) (by decide) dL_isPiece_335 ?_
        rw [h63]
        refine lv_icmp_ge (tgt := 362) hx hb dL_isPiece_336 (by decide) (fun _ => hX) (fun _ => ?_)
        refine lv_iload hx hb dL_isPiece_339 (lv_at hl 1 rfl) ?_
        refine lv_if_eq (tgt := 362) hx hb dL_isPiece_341 (by decide) (fun _ => ?_) (fun h => absurd h (by decide))
        exact hX
    refine lv_if_le (tgt := 324) hx hb dL_isPiece_309 (by decide) (fun c9 => ?_) (fun c9 => ?_)
    · refine lv_iconst (v := 0) hx hb dL_isPiece_324 (by decide) ?_
      have eb10 : (0 : Int32) = bI ((¬ (x1 ≤ 0)) ∧ (¬ (501 ≤ x1))) := (bI_f (fun k => k.1 c9)).symm
      rw [eb10]
      exact hJ3
    · refine lv_iload hx hb dL_isPiece_312 (lv_at hl 0 rfl) ?_
      refine lv_sipush (v := 501) hx hb dL_isPiece_314 (by decide) ?_
      refine lv_icmp_ge (tgt := 324) hx hb dL_isPiece_317 (by decide) (fun c11 => ?_) (fun c11 => ?_)
      · refine lv_iconst (v := 0) hx hb dL_isPiece_324 (by decide) ?_
        have eb12 : (0 : Int32) = bI ((¬ (x1 ≤ 0)) ∧ (¬ (501 ≤ x1))) := (bI_f (fun k => (fun k => k c11) k.2)).symm
        rw [eb12]
        exact hJ3
      · refine lv_iconst (v := 1) hx hb dL_isPiece_320 (by decide) ?_
        refine lv_goto (tgt := 325) hx hb dL_isPiece_321 (by decide) ?_
        have eb13 : (1 : Int32) = bI ((¬ (x1 ≤ 0)) ∧ (¬ (501 ≤ x1))) := (bI_t ⟨c9, c11⟩).symm
        rw [eb13]
        exact hJ3
  refine lv_if_ne (tgt := 298) hx hb dL_isPiece_281 (by decide) (fun c14 => ?_) (fun c14 => ?_)
  · refine lv_iconst (v := 1) hx hb dL_isPiece_298 (by decide) ?_
    refine lv_iload hx hb dL_isPiece_299 (lv_at hl 7 rfl) ?_
    refine lv_bipush (v := 60) hx hb dL_isPiece_301 (by decide) ?_
    refine lv_irem hx hb dL_isPiece_303 (by decide) ?_
    refine lv_iadd hx hb dL_isPiece_304 ?_
    exact hJ2 (1 + (two - two / 60 * 60)) (by exact (if_neg c14).symm)
  · refine lv_iload hx hb dL_isPiece_284 (lv_at hl 7 rfl) ?_
    refine lv_bipush (v := 9) hx hb dL_isPiece_286 (by decide) ?_
    refine lv_idiv hx hb dL_isPiece_288 (by decide) ?_
    refine lv_iconst (v := 3) hx hb dL_isPiece_289 (by decide) ?_
    refine lv_irem hx hb dL_isPiece_290 (by decide) ?_
    refine lv_sipush (v := 501) hx hb dL_isPiece_291 (by decide) ?_
    refine lv_imul hx hb dL_isPiece_294 ?_
    refine lv_goto (tgt := 305) hx hb dL_isPiece_295 (by decide) ?_
    exact hJ2 (((two / 9) - (two / 9) / 3 * 3) * 501) (by exact (if_pos c14).symm)
set_option maxHeartbeats 4000000 in
set_option maxRecDepth 100000 in
theorem qP_2 (G : GX) (hst : G.1.stackTraces = false) {Z : XZ} {S0 : XS} {M : MS} {L : LwS} {t : Nat} {la : Nat → Nat} (hR : RR Z S0 M L t) (ht : t ≤ 100) (one two : Int32) (h1 : nB one 60000) (h2 : nB two 60000) : FC G yL_isPiece cL_isPiece 13 (some .boolean) { frames := 9, cells := 5, slots := 802, locals := 261 } [.ref (Z.A 0 0), .ref (la 0), .ref (la 1), .ref (la 2), .ref (la 6), .int 2, .int one, .int two] (jn (xW G.2.2.2 G.2.1 Z S0) (lW G.2.2.2 la L)) (poR G.2.2.2 G.2.1 (Z.A 0 0) la t) := by
  refine FC.go (lv := [(0, .ref (Z.A 0 0)), (1, .ref (la 0)), (2, .ref (la 1)), (3, .ref (la 2)), (4, .ref (la 6)), (5, .int 2), (6, .int one), (7, .int two)]) (by decide) (Nat.le_of_ble_eq_true rfl) rfl (fun p e s m args below meth c A H locs ls Q hx hb hr hts hown hml hlocks hnm hK hE hI hA hl hQ => ?_)
  have hown : s.vm.findClass "IcehighwayLaw" = some m.cls := hown
  obtain ⟨np, enp⟩ : ∃ x : Nat, x = Z.N 0 := ⟨_, rfl⟩
  obtain ⟨nv, env⟩ : ∃ x : Nat, x = Z.N 1 := ⟨_, rfl⟩
  have h63 : L 6 3 = nI np := by rw [enp]; exact hR.l.g.2.2.2.1
  have h64 : L 6 4 = nI nv := by rw [env]; exact hR.l.g.2.2.2.2
  have hnp : np ≤ 8 := by rw [enp]; exact hR.np
  have hnv : nv ≤ 8 := by rw [env]; exact hR.nv
  have ht5 : t < 512 := by omega
  refine lv_iload hx hb dL_isPiece_0 (lv_at hl 5 rfl) ?_
  refine lv_if_ne (tgt := 270) hx hb dL_isPiece_2 (by decide) (fun _ => ?_) (fun h => absurd h (by decide))
  refine lv_iload hx hb dL_isPiece_270 (lv_at hl 5 rfl) ?_
  refine lv_iconst (v := 2) hx hb dL_isPiece_272 (by decide) ?_
  refine lv_icmp_ge (tgt := 394) hx hb dL_isPiece_273 (by decide) (fun _ => ?_) (fun h => absurd (by decide) h)
  refine lv_iload hx hb dL_isPiece_394 (lv_at hl 6 rfl) ?_
  refine lv_aload hx hb dL_isPiece_396 (lv_at hl 4 rfl) ?_
  refine lv_iconst (v := 3) hx hb dL_isPiece_398 (by decide) ?_
  refine gA (k := 6) (n := 5) (q := 3) hx hb hK hI (by decide) rfl (by unfold vp_in; decide) (by decide) dL_isPiece_399 ?_
  rw [h63]
  refine lv_iconst (v := 1) hx hb dL_isPiece_400 (by decide) ?_
  refine lv_iadd hx hb dL_isPiece_401 ?_
  refine lv_irem hx hb dL_isPiece_402 (ix_ne (n := np) rfl (by omega)) ?_
  obtain ⟨pp, hpp, hle⟩ := ix_1 (g := nI np) (n := np) h1 (by decide) rfl (by omega)
  rw [hpp]
  rcases Nat.lt_or_ge pp np with hp | hp
  · skip
    refine lv_istore (lv' := [(8, .int (nI pp)), (0, .ref (Z.A 0 0)), (1, .ref (la 0)), (2, .ref (la 1)), (3, .ref (la 2)), (4, .ref (la 6)), (5, .int 2), (6, .int one), (7, .int two)]) hx hb dL_isPiece_403 hl (by decide) rfl (fun ls hl => ?_)
    refine lv_iload hx hb dL_isPiece_405 (lv_at hl 0 rfl) ?_
    refine lv_aload hx hb dL_isPiece_407 (lv_at hl 5 rfl) ?_
    refine lv_iconst (v := 3) hx hb dL_isPiece_409 (by decide) ?_
    refine gA (k := 6) (n := 5) (q := 3) hx hb hK hI (by decide) rfl (by unfold vp_in; decide) (by decide) dL_isPiece_410 ?_
    rw [h63]
    refine lv_icmp_ge (tgt := 418) hx hb dL_isPiece_411 (by decide) (fun h9 => absurd h9 (show ¬ nI np ≤ nI pp from fun z => absurd ((nI_leI (by omega) (by omega)).mp z) (by omega))) (fun _ => ?_)
    refine lv_iconst (v := 1) hx hb dL_isPiece_414 (by decide) ?_
    refine lv_goto (tgt := 419) hx hb dL_isPiece_415 (by decide) ?_
    refine lv_istore (lv' := [(9, .int 1), (8, .int (nI pp)), (0, .ref (Z.A 0 0)), (1, .ref (la 0)), (2, .ref (la 1)), (3, .ref (la 2)), (4, .ref (la 6)), (5, .int 2), (6, .int one), (7, .int two)]) hx hb dL_isPiece_419 hl (by decide) rfl (fun ls hl => ?_)
    refine lv_iload hx hb dL_isPiece_421 (lv_at hl 7 rfl) ?_
    refine lv_iconst (v := 2) hx hb dL_isPiece_423 (by decide) ?_
    refine lv_icmp_ne (tgt := 493) hx hb dL_isPiece_424 (by decide) (fun h => absurd (by decide) h) (fun _ => ?_)
    refine lv_iload hx hb dL_isPiece_427 (lv_at hl 0 rfl) ?_
    refine lv_if_eq (tgt := 442) hx hb dL_isPiece_429 (by decide) (fun h => absurd h (by decide)) (fun _ => ?_)
    refine lv_aload_n hx hb dL_isPiece_432 rfl (lv_at hl 3 rfl) ?_
    refine lv_bipush (v := 24) hx hb dL_isPiece_433 (by decide) ?_
    refine lv_iload hx hb dL_isPiece_435 (lv_at hl 1 rfl) ?_
    refine lv_iadd hx hb dL_isPiece_437 ?_
    refine gA (k := 0) (n := 57) (q := 24 + pp) hx hb hK hI (by decide) rfl (vo_n 24 rfl (show pp < 8 by omega) (by decide) (by decide)) (vo_nc 24 rfl (show pp < 8 by omega) (by decide)) dL_isPiece_438 ?_
    refine lv_goto (tgt := 443) hx hb dL_isPiece_439 (by decide) ?_
    refine lv_istore (lv' := [(10, .int (L 0 (24 + pp))), (9, .int 1), (8, .int (nI pp)), (0, .ref (Z.A 0 0)), (1, .ref (la 0)), (2, .ref (la 1)), (3, .ref (la 2)), (4, .ref (la 6)), (5, .int 2), (6, .int one), (7, .int two)]) hx hb dL_isPiece_443 hl (by decide) rfl (fun ls hl => ?_)
    refine lv_aload_n hx hb dL_isPiece_445 rfl (lv_at hl 4 rfl) ?_
    refine lv_iload hx hb dL_isPiece_446 (lv_at hl 1 rfl) ?_
    refine lv_if_eq (tgt := 459) hx hb dL_isPiece_448 (by decide) (fun h => absurd h (by decide)) (fun _ => ?_)
    refine lv_bipush (v := 24) hx hb dL_isPiece_451 (by decide) ?_
    refine lv_iload hx hb dL_isPiece_453 (lv_at hl 2 rfl) ?_
    refine lv_iadd hx hb dL_isPiece_455 ?_
    refine lv_goto (tgt := 461) hx hb dL_isPiece_456 (by decide) ?_
    refine lv_iconst (v := 0) hx hb dL_isPiece_461 (by decide) ?_
    obtain ⟨S1, eS1⟩ : ∃ z : LwS, z = lset L 0 (24 + pp) 0 := ⟨_, rfl⟩
    refine sA (k := 0) (n := 57) (q := 24 + pp) hx hb hK hI (by decide) rfl (vo_n 24 rfl (show pp < 8 by omega) (by decide) (by decide)) (vo_nc 24 rfl (show pp < 8 by omega) (by decide)) eS1 dL_isPiece_462 (fun H locs hI => ?_)
    refine lv_aload_n hx hb dL_isPiece_463 rfl (lv_at hl 3 rfl) ?_
    refine lv_iconst (v := 3) hx hb dL_isPiece_464 (by decide) ?_
    refine lv_iload hx hb dL_isPiece_465 (lv_at hl 2 rfl) ?_
    refine lv_iconst (v := 0) hx hb dL_isPiece_467 (by decide) ?_
    refine lv_iconst (v := 0) hx hb dL_isPiece_468 (by decide) ?_
    refine jx_callH (rest := []) (as := [.ref (Z.A 0 0), .int 3, .int (nI pp), .int 0, .int 0]) hx hb hml hts hown hK hE Dj_xl hI (qD_plough G hst Z S0 (nI pp) 0 0 hR.1.1.1) kw_does ⟨(Nat.le_of_ble_eq_true rfl), (Nat.le_of_ble_eq_true rfl)⟩ hl.1 (Nat.le_of_ble_eq_true rfl) dL_isPiece_469 ⟨(Nat.le_of_ble_eq_true rfl), (Nat.le_of_ble_eq_true rfl)⟩ (fun v w1 H locs hpE hI => ?_)
    obtain ⟨hv, Z99, S99, M99, hR9, hA9, hw9⟩ : FIN G.2.2.2 G.2.1 Z t S1 (L 0 (24 + pp)) v w1 := by subst eS1; subst enp env; exact fi2a hR ht5 hp hpE
    subst hv
    subst hw9
    refine lv_iload hx hb dL_isPiece_472 (lv_at hl 1 rfl) ?_
    refine lv_if_eq (tgt := 482) hx hb dL_isPiece_474 (by decide) (fun h => absurd h (by decide)) (fun _ => ?_)
    refine lv_iload hx hb dL_isPiece_477 (lv_at hl 0 rfl) ?_
    refine lv_goto (tgt := 484) hx hb dL_isPiece_479 (by decide) ?_
    have hm : (L 0 (24 + pp) : Int32) = L 0 (24 + pp) := rfl
    refine lv_icmp_ne (tgt := 491) hx hb dL_isPiece_484 (by decide) (fun h9 => absurd hm h9) (fun _ => ?_)
    refine lv_iconst (v := 1) hx hb dL_isPiece_487 (by decide) ?_
    refine lv_goto (tgt := 492) hx hb dL_isPiece_488 (by decide) ?_
    exact rt_z hx hb hr hlocks (by decide) hI hA hQ ⟨rfl, Z99, S99, M99, S1, hR9, hA9, rfl⟩ (Nat.le_of_ble_eq_true rfl) (Nat.le_of_ble_eq_true rfl) dL_isPiece_492
  · have epp : pp = np := by omega
    rw [epp]
    refine lv_istore (lv' := [(8, .int (nI np)), (0, .ref (Z.A 0 0)), (1, .ref (la 0)), (2, .ref (la 1)), (3, .ref (la 2)), (4, .ref (la 6)), (5, .int 2), (6, .int one), (7, .int two)]) hx hb dL_isPiece_403 hl (by decide) rfl (fun ls hl => ?_)
    refine lv_iload hx hb dL_isPiece_405 (lv_at hl 0 rfl) ?_
    refine lv_aload hx hb dL_isPiece_407 (lv_at hl 5 rfl) ?_
    refine lv_iconst (v := 3) hx hb dL_isPiece_409 (by decide) ?_
    refine gA (k := 6) (n := 5) (q := 3) hx hb hK hI (by decide) rfl (by unfold vp_in; decide) (by decide) dL_isPiece_410 ?_
    rw [h63]
    refine lv_icmp_ge (tgt := 418) hx hb dL_isPiece_411 (by decide) (fun _ => ?_) (fun h9 => absurd (nI_le (Nat.le_refl np) (by omega)) h9)
    refine lv_iconst (v := 0) hx hb dL_isPiece_418 (by decide) ?_
    refine lv_istore (lv' := [(9, .int 0), (8, .int (nI np)), (0, .ref (Z.A 0 0)), (1, .ref (la 0)), (2, .ref (la 1)), (3, .ref (la 2)), (4, .ref (la 6)), (5, .int 2), (6, .int one), (7, .int two)]) hx hb dL_isPiece_419 hl (by decide) rfl (fun ls hl => ?_)
    refine lv_iload hx hb dL_isPiece_421 (lv_at hl 7 rfl) ?_
    refine lv_iconst (v := 2) hx hb dL_isPiece_423 (by decide) ?_
    refine lv_icmp_ne (tgt := 493) hx hb dL_isPiece_424 (by decide) (fun h => absurd (by decide) h) (fun _ => ?_)
    refine lv_iload hx hb dL_isPiece_427 (lv_at hl 0 rfl) ?_
    refine lv_if_eq (tgt := 442) hx hb dL_isPiece_429 (by decide) (fun _ => ?_) (fun h => absurd h (by decide))
    refine lv_iconst (v := 0) hx hb dL_isPiece_442 (by decide) ?_
    refine lv_istore (lv' := [(10, .int 0), (9, .int 0), (8, .int (nI np)), (0, .ref (Z.A 0 0)), (1, .ref (la 0)), (2, .ref (la 1)), (3, .ref (la 2)), (4, .ref (la 6)), (5, .int 2), (6, .int one), (7, .int two)]) hx hb dL_isPiece_443 hl (by decide) rfl (fun ls hl => ?_)
    refine lv_aload_n hx hb dL_isPiece_445 rfl (lv_at hl 4 rfl) ?_
    refine lv_iload hx hb dL_isPiece_446 (lv_at hl 1 rfl) ?_
    refine lv_if_eq (tgt := 459) hx hb dL_isPiece_448 (by decide) (fun _ => ?_) (fun h => absurd h (by decide))
    refine lv_bipush (v := 56) hx hb dL_isPiece_459 (by decide) ?_
    refine lv_iconst (v := 0) hx hb dL_isPiece_461 (by decide) ?_
    obtain ⟨S2, eS2⟩ : ∃ z : LwS, z = lset L 0 56 0 := ⟨_, rfl⟩
    refine sA (k := 0) (n := 57) (q := 56) hx hb hK hI (by decide) rfl (by unfold vp_in; decide) (by decide) eS2 dL_isPiece_462 (fun H locs hI => ?_)
    refine lv_aload_n hx hb dL_isPiece_463 rfl (lv_at hl 3 rfl) ?_
    refine lv_iconst (v := 3) hx hb dL_isPiece_464 (by decide) ?_
    refine lv_iload hx hb dL_isPiece_465 (lv_at hl 2 rfl) ?_
    refine lv_iconst (v := 0) hx hb dL_isPiece_467 (by decide) ?_
    refine lv_iconst (v := 0) hx hb dL_isPiece_468 (by decide) ?_
    refine jx_callH (rest := []) (as := [.ref (Z.A 0 0), .int 3, .int (nI np), .int 0, .int 0]) hx hb hml hts hown hK hE Dj_xl hI (qD_plough G hst Z S0 (nI np) 0 0 hR.1.1.1) kw_does ⟨(Nat.le_of_ble_eq_true rfl), (Nat.le_of_ble_eq_true rfl)⟩ hl.1 (Nat.le_of_ble_eq_true rfl) dL_isPiece_469 ⟨(Nat.le_of_ble_eq_true rfl), (Nat.le_of_ble_eq_true rfl)⟩ (fun v w1 H locs hpE hI => ?_)
    obtain ⟨hv, Z99, S99, M99, hR9, hA9, hw9⟩ : FIN G.2.2.2 G.2.1 Z t S2 (-30000000) v w1 := by subst eS2; subst enp env; exact fi2b hR ht5 hpE
    subst hv
    subst hw9
    refine lv_iload hx hb dL_isPiece_472 (lv_at hl 1 rfl) ?_
    refine lv_if_eq (tgt := 482) hx hb dL_isPiece_474 (by decide) (fun _ => ?_) (fun h => absurd h (by decide))
    refine lv_ldc (v := -30000000) hx hb hown (hts _ q652) dL_isPiece_482 ?_
    have hm : (-30000000 : Int32) = -30000000 := rfl
    refine lv_icmp_ne (tgt := 491) hx hb dL_isPiece_484 (by decide) (fun h9 => absurd hm h9) (fun _ => ?_)
    refine lv_iconst (v := 1) hx hb dL_isPiece_487 (by decide) ?_
    refine lv_goto (tgt := 492) hx hb dL_isPiece_488 (by decide) ?_
    exact rt_z hx hb hr hlocks (by decide) hI hA hQ ⟨rfl, Z99, S99, M99, S2, hR9, hA9, rfl⟩ (Nat.le_of_ble_eq_true rfl) (Nat.le_of_ble_eq_true rfl) dL_isPiece_492
set_option maxHeartbeats 4000000 in
set_option maxRecDepth 100000 in
theorem qP_3 (G : GX) (hst : G.1.stackTraces = false) {Z : XZ} {S0 : XS} {M : MS} {L : LwS} {t : Nat} {la : Nat → Nat} (hR : RR Z S0 M L t) (ht : t ≤ 100) (one two : Int32) (h1 : nB one 60000) (h2 : nB two 60000) : FC G yL_isPiece cL_isPiece 13 (some .boolean) { frames := 9, cells := 5, slots := 802, locals := 261 } [.ref (Z.A 0 0), .ref (la 0), .ref (la 1), .ref (la 2), .ref (la 6), .int 3, .int one, .int two] (jn (xW G.2.2.2 G.2.1 Z S0) (lW G.2.2.2 la L)) (poR G.2.2.2 G.2.1 (Z.A 0 0) la t) := by
  refine FC.go (lv := [(0, .ref (Z.A 0 0)), (1, .ref (la 0)), (2, .ref (la 1)), (3, .ref (la 2)), (4, .ref (la 6)), (5, .int 3), (6, .int one), (7, .int two)]) (by decide) (Nat.le_of_ble_eq_true rfl) rfl (fun p e s m args below meth c A H locs ls Q hx hb hr hts hown hml hlocks hnm hK hE hI hA hl hQ => ?_)
  have hown : s.vm.findClass "IcehighwayLaw" = some m.cls := hown
  obtain ⟨np, enp⟩ : ∃ x : Nat, x = Z.N 0 := ⟨_, rfl⟩
  obtain ⟨nv, env⟩ : ∃ x : Nat, x = Z.N 1 := ⟨_, rfl⟩
  have h63 : L 6 3 = nI np := by rw [enp]; exact hR.l.g.2.2.2.1
  have h64 : L 6 4 = nI nv := by rw [env]; exact hR.l.g.2.2.2.2
  have hnp : np ≤ 8 := by rw [enp]; exact hR.np
  have hnv : nv ≤ 8 := by rw [env]; exact hR.nv
  have ht5 : t < 512 := by omega
  refine lv_iload hx hb dL_isPiece_0 (lv_at hl 5 rfl) ?_
  refine lv_if_ne (tgt := 270) hx hb dL_isPiece_2 (by decide) (fun _ => ?_) (fun h => absurd h (by decide))
  refine lv_iload hx hb dL_isPiece_270 (lv_at hl 5 rfl) ?_
  refine lv_iconst (v := 2) hx hb dL_isPiece_272 (by decide) ?_
  refine lv_icmp_ge (tgt := 394) hx hb dL_isPiece_273 (by decide) (fun _ => ?_) (fun h => absurd (by decide) h)
  refine lv_iload hx hb dL_isPiece_394 (lv_at hl 6 rfl) ?_
  refine lv_aload hx hb dL_isPiece_396 (lv_at hl 4 rfl) ?_
  refine lv_iconst (v := 3) hx hb dL_isPiece_398 (by decide) ?_
  refine gA (k := 6) (n := 5) (q := 3) hx hb hK hI (by decide) rfl (by unfold vp_in; decide) (by decide) dL_isPiece_399 ?_
  rw [h63]
  refine lv_iconst (v := 1) hx hb dL_isPiece_400 (by decide) ?_
  refine lv_iadd hx hb dL_isPiece_401 ?_
  refine lv_irem hx hb dL_isPiece_402 (ix_ne (n := np) rfl (by omega)) ?_
  obtain ⟨pp, hpp, hle⟩ := ix_1 (g := nI np) (n := np) h1 (by decide) rfl (by omega)
  rw [hpp]
  rcases Nat.lt_or_ge pp np with hp | hp
  · skip
    refine lv_istore (lv' := [(8, .int (nI pp)), (0, .ref (Z.A 0 0)), (1, .ref (la 0)), (2, .ref (la 1)), (3, .ref (la 2)), (4, .ref (la 6)), (5, .int 3), (6, .int one), (7, .int two)]) hx hb dL_isPiece_403 hl (by decide) rfl (fun ls hl => ?_)
    refine lv_iload hx hb dL_isPiece_405 (lv_at hl 0 rfl) ?_
    refine lv_aload hx hb dL_isPiece_407 (lv_at hl 5 rfl) ?_
    refine lv_iconst (v := 3) hx hb dL_isPiece_409 (by decide) ?_
    refine gA (k := 6) (n := 5) (q := 3) hx hb hK hI (by decide) rfl (by unfold vp_in; decide) (by decide) dL_isPiece_410 ?_
    rw [h63]
    refine lv_icmp_ge (tgt := 418) hx hb dL_isPiece_411 (by decide) (fun h9 => absurd h9 (show ¬ nI np ≤ nI pp from fun z => absurd ((nI_leI (by omega) (by omega)).mp z) (by omega))) (fun _ => ?_)
    refine lv_iconst (v := 1) hx hb dL_isPiece_414 (by decide) ?_
    refine lv_goto (tgt := 419) hx hb dL_isPiece_415 (by decide) ?_
    refine lv_istore (lv' := [(9, .int 1), (8, .int (nI pp)), (0, .ref (Z.A 0 0)), (1, .ref (la 0)), (2, .ref (la 1)), (3, .ref (la 2)), (4, .ref (la 6)), (5, .int 3), (6, .int one), (7, .int two)]) hx hb dL_isPiece_419 hl (by decide) rfl (fun ls hl => ?_)
    refine lv_iload hx hb dL_isPiece_421 (lv_at hl 7 rfl) ?_
    refine lv_iconst (v := 2) hx hb dL_isPiece_423 (by decide) ?_
    refine lv_icmp_ne (tgt := 493) hx hb dL_isPiece_424 (by decide) (fun _ => ?_) (fun h => absurd h (by decide))
    refine lv_iload hx hb dL_isPiece_493 (lv_at hl 7 rfl) ?_
    refine lv_iconst (v := 3) hx hb dL_isPiece_495 (by decide) ?_
    refine lv_icmp_ne (tgt := 686) hx hb dL_isPiece_496 (by decide) (fun h => absurd (by decide) h) (fun _ => ?_)
    refine lv_iload hx hb dL_isPiece_499 (lv_at hl 9 rfl) ?_
    refine lv_bipush (v := 9) hx hb dL_isPiece_501 (by decide) ?_
    refine lv_irem hx hb dL_isPiece_503 (by decide) ?_
    have hJ2 : ∀ (x1 : Int32), (x1 = if (two - two / 9 * 9) = 0 then ((two / 9) - (two / 9) / 102 * 102) else (20 + (two - two / 80 * 80))) → W p G.1 e ({ frames := 9, cells := 5, slots := 802, locals := 261 }) s m args below meth c H locs 0 0 Q (F0 m 526 ls [.int x1]) := by
      intro x1 ex1
      refine lv_istore (lv' := [(10, .int x1), (9, .int 1), (8, .int (nI pp)), (0, .ref (Z.A 0 0)), (1, .ref (la 0)), (2, .ref (la 1)), (3, .ref (la 2)), (4, .ref (la 6)), (5, .int 3), (6, .int one), (7, .int two)]) hx hb dL_isPiece_526 hl (by decide) rfl (fun ls hl => ?_)
      refine lv_iload hx hb dL_isPiece_528 (lv_at hl 0 rfl) ?_
      have hJ3 : W p G.1 e ({ frames := 9, cells := 5, slots := 802, locals := 261 }) s m args below meth c H locs 0 0 Q (F0 m 545 ls [.int (bI ((¬ (x1 ≤ 0)) ∧ (¬ (101 ≤ x1))))]) := by
        by_cases hb11 : (¬ (x1 ≤ 0)) ∧ (¬ (101 ≤ x1))
        · rw [bI_t hb11]
          refine lv_istore (lv' := [(11, .int 1), (10, .int x1), (9, .int 1), (8, .int (nI pp)), (0, .ref (Z.A 0 0)), (1, .ref (la 0)), (2, .ref (la 1)), (3, .ref (la 2)), (4, .ref (la 6)), (5, .int 3), (6, .int one), (7, .int two)]) hx hb dL_isPiece_545 hl (by decide) rfl (fun ls hl => ?_)
          refine lv_iload hx hb dL_isPiece_547 (lv_at hl 2 rfl) ?_
          refine lv_if_eq (tgt := 602) hx hb dL_isPiece_549 (by decide) (fun h => absurd h (by decide)) (fun _ => ?_)
          refine lv_iload hx hb dL_isPiece_552 (lv_at hl 0 rfl) ?_
          refine lv_if_eq (tgt := 602) hx hb dL_isPiece_554 (by decide) (fun h => absurd h (by decide)) (fun _ => ?_)
          refine lv_aload_n hx hb dL_isPiece_557 rfl (lv_at hl 6 rfl) ?_
          refine lv_iload hx hb dL_isPiece_558 (lv_at hl 3 rfl) ?_
          refine gA (k := 1) (n := 9) (q := pp) hx hb hK hI (by decide) rfl (vp_in_nI (Nat.lt_of_lt_of_le (show pp < 8 by omega) (by decide)) (by decide)) (nI_clamp (Nat.lt_of_lt_of_le (show pp < 8 by omega) (by decide))) dL_isPiece_560 ?_
          refine lv_iconst (v := 4) hx hb dL_isPiece_561 (by decide) ?_
          refine lv_irem hx hb dL_isPiece_562 (by decide) ?_
          refine lv_iconst (v := 2) hx hb dL_isPiece_563 (by decide) ?_
          have hJ4 : W p G.1 e ({ frames := 9, cells := 5, slots := 802, locals := 261 }) s m args below meth c H locs 0 0 Q (F0 m 603 ls [.int (bI ((¬ (2 ≤ ((L 1 pp) - (L 1 pp) / 4 * 4))) ∧ ((¬ (((L 0 pp) + (L 0 (8 + pp))) ≤ 0)) ∧ (¬ (501 ≤ ((L 0 (16 + pp)) + x1))))))]) := by
            by_cases hb12 : (¬ (2 ≤ ((L 1 pp) - (L 1 pp) / 4 * 4))) ∧ ((¬ (((L 0 pp) + (L 0 (8 + pp))) ≤ 0)) ∧ (¬ (501 ≤ ((L 0 (16 + pp)) + x1))))
            · rw [bI_t hb12]
              refine lv_istore (lv' := [(12, .int 1), (11, .int 1), (10, .int x1), (9, .int 1), (8, .int (nI pp)), (0, .ref (Z.A 0 0)), (1, .ref (la 0)), (2, .ref (la 1)), (3, .ref (la 2)), (4, .ref (la 6)), (5, .int 3), (6, .int one), (7, .int two)]) hx hb dL_isPiece_603 hl (by decide) rfl (fun ls hl => ?_)
              refine lv_iload hx hb dL_isPiece_605 (lv_at hl 0 rfl) ?_
              refine lv_if_eq (tgt := 630) hx hb dL_isPiece_607 (by decide) (fun h => absurd h (by decide)) (fun _ => ?_)
              refine lv_aload_n hx hb dL_isPiece_610 rfl (lv_at hl 6 rfl) ?_
              refine lv_bipush (v := 24) hx hb dL_isPiece_611 (by decide) ?_
              refine lv_iload hx hb dL_isPiece_613 (lv_at hl 4 rfl) ?_
              refine lv_iadd hx hb dL_isPiece_615 ?_
              refine lv_iconst (v := 0) hx hb dL_isPiece_616 (by decide) ?_
              obtain ⟨S5, eS5⟩ : ∃ z : LwS, z = lset L 0 (24 + pp) 0 := ⟨_, rfl⟩
              refine sA (k := 0) (n := 57) (q := 24 + pp) hx hb hK hI (by decide) rfl (vo_n 24 rfl (show pp < 8 by omega) (by decide) (by decide)) (vo_nc 24 rfl (show pp < 8 by omega) (by decide)) eS5 dL_isPiece_617 (fun H locs hI => ?_)
              refine lv_aload_n hx hb dL_isPiece_618 rfl (lv_at hl 6 rfl) ?_
              refine lv_bipush (v := 16) hx hb dL_isPiece_619 (by decide) ?_
              refine lv_iload hx hb dL_isPiece_621 (lv_at hl 4 rfl) ?_
              refine lv_iadd hx hb dL_isPiece_623 ?_
              refine lv_dup2_11 hx hb dL_isPiece_624 rfl rfl ?_
              refine gA (k := 0) (n := 57) (q := 16 + pp) hx hb hK hI (by decide) rfl (vo_n 16 rfl (show pp < 8 by omega) (by decide) (by decide)) (vo_nc 16 rfl (show pp < 8 by omega) (by decide)) dL_isPiece_625 ?_
              refine lv_iload hx hb dL_isPiece_626 (lv_at hl 2 rfl) ?_
              refine lv_iadd hx hb dL_isPiece_628 ?_
              obtain ⟨S6, eS6⟩ : ∃ z : LwS, z = lset S5 0 (16 + pp) ((S5 0 (16 + pp)) + x1) := ⟨_, rfl⟩
              refine sA (k := 0) (n := 57) (q := 16 + pp) hx hb hK hI (by decide) rfl (vo_n 16 rfl (show pp < 8 by omega) (by decide) (by decide)) (vo_nc 16 rfl (show pp < 8 by omega) (by decide)) eS6 dL_isPiece_629 (fun H locs hI => ?_)
              refine lv_aload_n hx hb dL_isPiece_630 rfl (lv_at hl 5 rfl) ?_
              refine lv_iconst (v := 4) hx hb dL_isPiece_631 (by decide) ?_
              refine lv_iload hx hb dL_isPiece_632 (lv_at hl 4 rfl) ?_
              refine lv_iload hx hb dL_isPiece_634 (lv_at hl 2 rfl) ?_
              refine lv_iconst (v := 0) hx hb dL_isPiece_636 (by decide) ?_
              refine jx_callH (rest := []) (as := [.ref (Z.A 0 0), .int 4, .int (nI pp), .int x1, .int 0]) hx hb hml hts hown hK hE Dj_xl hI (qD_flood G hst Z S0 (nI pp) x1 0 hR.1.1.1) kw_does ⟨(Nat.le_of_ble_eq_true rfl), (Nat.le_of_ble_eq_true rfl)⟩ hl.1 (Nat.le_of_ble_eq_true rfl) dL_isPiece_637 ⟨(Nat.le_of_ble_eq_true rfl), (Nat.le_of_ble_eq_true rfl)⟩ (fun v w1 H locs hpE hI => ?_)
              obtain ⟨hv, Z99, S99, M99, hR9, hA9, hw9⟩ : FIN G.2.2.2 G.2.1 Z t S6 (S6 0 (16 + pp)) v w1 := by subst eS6 eS5 ex1; subst enp env; exact fi3c hR ht5 hp ⟨by have := (i_le (n := 0) (by decide)).mp hb11.1; omega, by have := (i_ge (n := 101) (by decide)).mp hb11.2; omega⟩ hb12 hpE
              subst hv
              subst hw9
              refine lv_iload hx hb dL_isPiece_640 (lv_at hl 3 rfl) ?_
              refine lv_if_ne (tgt := 650) hx hb dL_isPiece_642 (by decide) (fun _ => ?_) (fun h => absurd h (by decide))
              refine lv_iload hx hb dL_isPiece_650 (lv_at hl 1 rfl) ?_
              refine lv_if_ne (tgt := 660) hx hb dL_isPiece_652 (by decide) (fun _ => ?_) (fun h => absurd h (by decide))
              refine lv_iload hx hb dL_isPiece_660 (lv_at hl 0 rfl) ?_
              refine lv_if_eq (tgt := 675) hx hb dL_isPiece_662 (by decide) (fun h => absurd h (by decide)) (fun _ => ?_)
              refine lv_aload_n hx hb dL_isPiece_665 rfl (lv_at hl 6 rfl) ?_
              refine lv_bipush (v := 16) hx hb dL_isPiece_666 (by decide) ?_
              refine lv_iload hx hb dL_isPiece_668 (lv_at hl 4 rfl) ?_
              refine lv_iadd hx hb dL_isPiece_670 ?_
              refine gA (k := 0) (n := 57) (q := 16 + pp) hx hb hK hI (by decide) rfl (vo_n 16 rfl (show pp < 8 by omega) (by decide) (by decide)) (vo_nc 16 rfl (show pp < 8 by omega) (by decide)) dL_isPiece_671 ?_
              refine lv_goto (tgt := 677) hx hb dL_isPiece_672 (by decide) ?_
              have hm : (S6 0 (16 + pp) : Int32) = S6 0 (16 + pp) := rfl
              refine lv_icmp_ne (tgt := 684) hx hb dL_isPiece_677 (by decide) (fun h9 => absurd hm h9) (fun _ => ?_)
              refine lv_iconst (v := 1) hx hb dL_isPiece_680 (by decide) ?_
              refine lv_goto (tgt := 685) hx hb dL_isPiece_681 (by decide) ?_
              exact rt_z hx hb hr hlocks (by decide) hI hA hQ ⟨rfl, Z99, S99, M99, S6, hR9, hA9, rfl⟩ (Nat.le_of_ble_eq_true rfl) (Nat.le_of_ble_eq_true rfl) dL_isPiece_685
            · rw [bI_f hb12]
              refine lv_istore (lv' := [(12, .int 0), (11, .int 1), (10, .int x1), (9, .int 1), (8, .int (nI pp)), (0, .ref (Z.A 0 0)), (1, .ref (la 0)), (2, .ref (la 1)), (3, .ref (la 2)), (4, .ref (la 6)), (5, .int 3), (6, .int one), (7, .int two)]) hx hb dL_isPiece_603 hl (by decide) rfl (fun ls hl => ?_)
              refine lv_iload hx hb dL_isPiece_605 (lv_at hl 0 rfl) ?_
              refine lv_if_eq (tgt := 630) hx hb dL_isPiece_607 (by decide) (fun _ => ?_) (fun h => absurd h (by decide))
              refine lv_aload_n hx hb dL_isPiece_630 rfl (lv_at hl 5 rfl) ?_
              refine lv_iconst (v := 4) hx hb dL_isPiece_631 (by decide) ?_
              refine lv_iload hx hb dL_isPiece_632 (lv_at hl 4 rfl) ?_
              refine lv_iload hx hb dL_isPiece_634 (lv_at hl 2 rfl) ?_
              refine lv_iconst (v := 0) hx hb dL_isPiece_636 (by decide) ?_
              refine jx_callH (rest := []) (as := [.ref (Z.A 0 0), .int 4, .int (nI pp), .int x1, .int 0]) hx hb hml hts hown hK hE Dj_xl hI (qD_flood G hst Z S0 (nI pp) x1 0 hR.1.1.1) kw_does ⟨(Nat.le_of_ble_eq_true rfl), (Nat.le_of_ble_eq_true rfl)⟩ hl.1 (Nat.le_of_ble_eq_true rfl) dL_isPiece_637 ⟨(Nat.le_of_ble_eq_true rfl), (Nat.le_of_ble_eq_true rfl)⟩ (fun v w1 H locs hpE hI => ?_)
              obtain ⟨hv, Z99, S99, M99, hR9, hA9, hw9⟩ : FIN G.2.2.2 G.2.1 Z t L (-10000000) v w1 := by subst ex1; subst enp env; exact fi3d hR ht5 hp ⟨by have := (i_le (n := 0) (by decide)).mp hb11.1; omega, by have := (i_ge (n := 101) (by decide)).mp hb11.2; omega⟩ hb12 hpE
              subst hv
              subst hw9
              refine lv_iload hx hb dL_isPiece_640 (lv_at hl 3 rfl) ?_
              refine lv_if_ne (tgt := 650) hx hb dL_isPiece_642 (by decide) (fun _ => ?_) (fun h => absurd h (by decide))
              refine lv_iload hx hb dL_isPiece_650 (lv_at hl 1 rfl) ?_
              refine lv_if_ne (tgt := 660) hx hb dL_isPiece_652 (by decide) (fun _ => ?_) (fun h => absurd h (by decide))
              refine lv_iload hx hb dL_isPiece_660 (lv_at hl 0 rfl) ?_
              refine lv_if_eq (tgt := 675) hx hb dL_isPiece_662 (by decide) (fun _ => ?_) (fun h => absurd h (by decide))
              refine lv_ldc (v := -10000000) hx hb hown (hts _ q654) dL_isPiece_675 ?_
              have hm : (-10000000 : Int32) = -10000000 := rfl
              refine lv_icmp_ne (tgt := 684) hx hb dL_isPiece_677 (by decide) (fun h9 => absurd hm h9) (fun _ => ?_)
              refine lv_iconst (v := 1) hx hb dL_isPiece_680 (by decide) ?_
              refine lv_goto (tgt := 685) hx hb dL_isPiece_681 (by decide) ?_
              exact rt_z hx hb hr hlocks (by decide) hI hA hQ ⟨rfl, Z99, S99, M99, L, hR9, hA9, rfl⟩ (Nat.le_of_ble_eq_true rfl) (Nat.le_of_ble_eq_true rfl) dL_isPiece_685
          refine lv_icmp_ge (tgt := 602) hx hb dL_isPiece_564 (by decide) (fun c7 => ?_) (fun c7 => ?_)
          · refine lv_iconst (v := 0) hx hb dL_isPiece_602 (by decide) ?_
            have eb8 : (0 : Int32) = bI ((¬ (2 ≤ ((L 1 pp) - (L 1 pp) / 4 * 4))) ∧ ((¬ (((L 0 pp) + (L 0 (8 + pp))) ≤ 0)) ∧ (¬ (501 ≤ ((L 0 (16 + pp)) + x1))))) := (bI_f (fun k => k.1 c7)).symm
            rw [eb8]
            exact hJ4
          · refine lv_aload_n hx hb dL_isPiece_567 rfl (lv_at hl 5 rfl) ?_
            refine lv_iload hx hb dL_isPiece_568 (lv_at hl 3 rfl) ?_
            refine gA (k := 0) (n := 57) (q := pp) hx hb hK hI (by decide) rfl (vp_in_nI (Nat.lt_of_lt_of_le (show pp < 8 by omega) (by decide)) (by decide)) (nI_clamp (Nat.lt_of_lt_of_le (show pp < 8 by omega) (by decide))) dL_isPiece_570 ?_
            refine lv_aload_n hx hb dL_isPiece_571 rfl (lv_at hl 5 rfl) ?_
            refine lv_bipush (v := 8) hx hb dL_isPiece_572 (by decide) ?_
            refine lv_iload hx hb dL_isPiece_574 (lv_at hl 3 rfl) ?_
            refine lv_iadd hx hb dL_isPiece_576 ?_
            refine gA (k := 0) (n := 57) (q := 8 + pp) hx hb hK hI (by decide) rfl (vo_n 8 rfl (show pp < 8 by omega) (by decide) (by decide)) (vo_nc 8 rfl (show pp < 8 by omega) (by decide)) dL_isPiece_577 ?_
            refine lv_iadd hx hb dL_isPiece_578 ?_
            refine lv_if_le (tgt := 602) hx hb dL_isPiece_579 (by decide) (fun c9 => ?_) (fun c9 => ?_)
            · refine lv_iconst (v := 0) hx hb dL_isPiece_602 (by decide) ?_
              have eb10 : (0 : Int32) = bI ((¬ (2 ≤ ((L 1 pp) - (L 1 pp) / 4 * 4))) ∧ ((¬ (((L 0 pp) + (L 0 (8 + pp))) ≤ 0)) ∧ (¬ (501 ≤ ((L 0 (16 + pp)) + x1))))) := (bI_f (fun k => (fun k => k.1 c9) k.2)).symm
              rw [eb10]
              exact hJ4
            · refine lv_aload_n hx hb dL_isPiece_582 rfl (lv_at hl 5 rfl) ?_
              refine lv_bipush (v := 16) hx hb dL_isPiece_583 (by decide) ?_
              refine lv_iload hx hb dL_isPiece_585 (lv_at hl 3 rfl) ?_
              refine lv_iadd hx hb dL_isPiece_587 ?_
              refine gA (k := 0) (n := 57) (q := 16 + pp) hx hb hK hI (by decide) rfl (vo_n 16 rfl (show pp < 8 by omega) (by decide) (by decide)) (vo_nc 16 rfl (show pp < 8 by omega) (by decide)) dL_isPiece_588 ?_
              refine lv_iload hx hb dL_isPiece_589 (lv_at hl 1 rfl) ?_
              refine lv_iadd hx hb dL_isPiece_591 ?_
              refine lv_sipush (v := 501) hx hb dL_isPiece_592 (by decide) ?_
              refine lv_icmp_ge (tgt := 602) hx hb dL_isPiece_595 (by decide) (fun c11 => ?_) (fun c11 => ?_)
              · refine lv_iconst (v := 0) hx hb dL_isPiece_602 (by decide) ?_
                have eb12 : (0 : Int32) = bI ((¬ (2 ≤ ((L 1 pp) - (L 1 pp) / 4 * 4))) ∧ ((¬ (((L 0 pp) + (L 0 (8 + pp))) ≤ 0)) ∧ (¬ (501 ≤ ((L 0 (16 + pp)) + x1))))) := (bI_f (fun k => (fun k => (fun k => k c11) k.2) k.2)).symm
                rw [eb12]
                exact hJ4
              · refine lv_iconst (v := 1) hx hb dL_isPiece_598 (by decide) ?_
                refine lv_goto (tgt := 603) hx hb dL_isPiece_599 (by decide) ?_
                have eb13 : (1 : Int32) = bI ((¬ (2 ≤ ((L 1 pp) - (L 1 pp) / 4 * 4))) ∧ ((¬ (((L 0 pp) + (L 0 (8 + pp))) ≤ 0)) ∧ (¬ (501 ≤ ((L 0 (16 + pp)) + x1))))) := (bI_t ⟨c7, ⟨c9, c11⟩⟩).symm
                rw [eb13]
                exact hJ4
        · rw [bI_f hb11]
          refine lv_istore (lv' := [(11, .int 0), (10, .int x1), (9, .int 1), (8, .int (nI pp)), (0, .ref (Z.A 0 0)), (1, .ref (la 0)), (2, .ref (la 1)), (3, .ref (la 2)), (4, .ref (la 6)), (5, .int 3), (6, .int one), (7, .int two)]) hx hb dL_isPiece_545 hl (by decide) rfl (fun ls hl => ?_)
          refine lv_iload hx hb dL_isPiece_547 (lv_at hl 2 rfl) ?_
          refine lv_if_eq (tgt := 602) hx hb dL_isPiece_549 (by decide) (fun h => absurd h (by decide)) (fun _ => ?_)
          refine lv_iload hx hb dL_isPiece_552 (lv_at hl 0 rfl) ?_
          refine lv_if_eq (tgt := 602) hx hb dL_isPiece_554 (by decide) (fun _ => ?_) (fun h => absurd h (by decide))
          refine lv_iconst (v := 0) hx hb dL_isPiece_602 (by decide) ?_
          refine lv_istore (lv' := [(12, .int 0), (11, .int 0), (10, .int x1), (9, .int 1), (8, .int (nI pp)), (0, .ref (Z.A 0 0)), (1, .ref (la 0)), (2, .ref (la 1)), (3, .ref (la 2)), (4, .ref (la 6)), (5, .int 3), (6, .int one), (7, .int two)]) hx hb dL_isPiece_603 hl (by decide) rfl (fun ls hl => ?_)
          refine lv_iload hx hb dL_isPiece_605 (lv_at hl 0 rfl) ?_
          refine lv_if_eq (tgt := 630) hx hb dL_isPiece_607 (by decide) (fun _ => ?_) (fun h => absurd h (by decide))
          refine lv_aload_n hx hb dL_isPiece_630 rfl (lv_at hl 5 rfl) ?_
          refine lv_iconst (v := 4) hx hb dL_isPiece_631 (by decide) ?_
          refine lv_iload hx hb dL_isPiece_632 (lv_at hl 4 rfl) ?_
          refine lv_iload hx hb dL_isPiece_634 (lv_at hl 2 rfl) ?_
          refine lv_iconst (v := 0) hx hb dL_isPiece_636 (by decide) ?_
          refine jx_callH (rest := []) (as := [.ref (Z.A 0 0), .int 4, .int (nI pp), .int x1, .int 0]) hx hb hml hts hown hK hE Dj_xl hI (qD_flood G hst Z S0 (nI pp) x1 0 hR.1.1.1) kw_does ⟨(Nat.le_of_ble_eq_true rfl), (Nat.le_of_ble_eq_true rfl)⟩ hl.1 (Nat.le_of_ble_eq_true rfl) dL_isPiece_637 ⟨(Nat.le_of_ble_eq_true rfl), (Nat.le_of_ble_eq_true rfl)⟩ (fun v w1 H locs hpE hI => ?_)
          obtain ⟨hv, Z99, S99, M99, hR9, hA9, hw9⟩ : FIN G.2.2.2 G.2.1 Z t L (-20000000) v w1 := by subst ex1; subst enp env; exact fi3b hR ht5 hp (fun z => hb11 ⟨(i_le (n := 0) (by decide)).mpr (by omega), (i_ge (n := 101) (by decide)).mpr (by omega)⟩) hpE
          subst hv
          subst hw9
          refine lv_iload hx hb dL_isPiece_640 (lv_at hl 3 rfl) ?_
          refine lv_if_ne (tgt := 650) hx hb dL_isPiece_642 (by decide) (fun _ => ?_) (fun h => absurd h (by decide))
          refine lv_iload hx hb dL_isPiece_650 (lv_at hl 1 rfl) ?_
          refine lv_if_ne (tgt := 660) hx hb dL_isPiece_652 (by decide) (fun h => absurd h (by decide)) (fun _ => ?_)
          refine lv_ldc (v := -20000000) hx hb hown (hts _ q653) dL_isPiece_655 ?_
          refine lv_goto (tgt := 677) hx hb dL_isPiece_657 (by decide) ?_
          have hm : (-20000000 : Int32) = -20000000 := rfl
          refine lv_icmp_ne (tgt := 684) hx hb dL_isPiece_677 (by decide) (fun h9 => absurd hm h9) (fun _ => ?_)
          refine lv_iconst (v := 1) hx hb dL_isPiece_680 (by decide) ?_
          refine lv_goto (tgt := 685) hx hb dL_isPiece_681 (by decide) ?_
          exact rt_z hx hb hr hlocks (by decide) hI hA hQ ⟨rfl, Z99, S99, M99, L, hR9, hA9, rfl⟩ (Nat.le_of_ble_eq_true rfl) (Nat.le_of_ble_eq_true rfl) dL_isPiece_685
      refine lv_if_le (tgt := 544) hx hb dL_isPiece_530 (by decide) (fun c14 => ?_) (fun c14 => ?_)
      · refine lv_iconst (v := 0) hx hb dL_isPiece_544 (by decide) ?_
        have eb15 : (0 : Int32) = bI ((¬ (x1 ≤ 0)) ∧ (¬ (101 ≤ x1))) := (bI_f (fun k => k.1 c14)).symm
        rw [eb15]
        exact hJ3
      · refine lv_iload hx hb dL_isPiece_533 (lv_at hl 0 rfl) ?_
        refine lv_bipush (v := 101) hx hb dL_isPiece_535 (by decide) ?_
        refine lv_icmp_ge (tgt := 544) hx hb dL_isPiece_537 (by decide) (fun c16 => ?_) (fun c16 => ?_)
        · refine lv_iconst (v := 0) hx hb dL_isPiece_544 (by decide) ?_
          have eb17 : (0 : Int32) = bI ((¬ (x1 ≤ 0)) ∧ (¬ (101 ≤ x1))) := (bI_f (fun k => (fun k => k c16) k.2)).symm
          rw [eb17]
          exact hJ3
        · refine lv_iconst (v := 1) hx hb dL_isPiece_540 (by decide) ?_
          refine lv_goto (tgt := 545) hx hb dL_isPiece_541 (by decide) ?_
          have eb18 : (1 : Int32) = bI ((¬ (x1 ≤ 0)) ∧ (¬ (101 ≤ x1))) := (bI_t ⟨c14, c16⟩).symm
          rw [eb18]
          exact hJ3
    refine lv_if_ne (tgt := 518) hx hb dL_isPiece_504 (by decide) (fun c19 => ?_) (fun c19 => ?_)
    · refine lv_bipush (v := 20) hx hb dL_isPiece_518 (by decide) ?_
      refine lv_iload hx hb dL_isPiece_520 (lv_at hl 9 rfl) ?_
      refine lv_bipush (v := 80) hx hb dL_isPiece_522 (by decide) ?_
      refine lv_irem hx hb dL_isPiece_524 (by decide) ?_
      refine lv_iadd hx hb dL_isPiece_525 ?_
      exact hJ2 (20 + (two - two / 80 * 80)) (by exact (if_neg c19).symm)
    · refine lv_iload hx hb dL_isPiece_507 (lv_at hl 9 rfl) ?_
      refine lv_bipush (v := 9) hx hb dL_isPiece_509 (by decide) ?_
      refine lv_idiv hx hb dL_isPiece_511 (by decide) ?_
      refine lv_bipush (v := 102) hx hb dL_isPiece_512 (by decide) ?_
      refine lv_irem hx hb dL_isPiece_514 (by decide) ?_
      refine lv_goto (tgt := 526) hx hb dL_isPiece_515 (by decide) ?_
      exact hJ2 ((two / 9) - (two / 9) / 102 * 102) (by exact (if_pos c19).symm)
  · have epp : pp = np := by omega
    rw [epp]
    refine lv_istore (lv' := [(8, .int (nI np)), (0, .ref (Z.A 0 0)), (1, .ref (la 0)), (2, .ref (la 1)), (3, .ref (la 2)), (4, .ref (la 6)), (5, .int 3), (6, .int one), (7, .int two)]) hx hb dL_isPiece_403 hl (by decide) rfl (fun ls hl => ?_)
    refine lv_iload hx hb dL_isPiece_405 (lv_at hl 0 rfl) ?_
    refine lv_aload hx hb dL_isPiece_407 (lv_at hl 5 rfl) ?_
    refine lv_iconst (v := 3) hx hb dL_isPiece_409 (by decide) ?_
    refine gA (k := 6) (n := 5) (q := 3) hx hb hK hI (by decide) rfl (by unfold vp_in; decide) (by decide) dL_isPiece_410 ?_
    rw [h63]
    refine lv_icmp_ge (tgt := 418) hx hb dL_isPiece_411 (by decide) (fun _ => ?_) (fun h9 => absurd (nI_le (Nat.le_refl np) (by omega)) h9)
    refine lv_iconst (v := 0) hx hb dL_isPiece_418 (by decide) ?_
    refine lv_istore (lv' := [(9, .int 0), (8, .int (nI np)), (0, .ref (Z.A 0 0)), (1, .ref (la 0)), (2, .ref (la 1)), (3, .ref (la 2)), (4, .ref (la 6)), (5, .int 3), (6, .int one), (7, .int two)]) hx hb dL_isPiece_419 hl (by decide) rfl (fun ls hl => ?_)
    refine lv_iload hx hb dL_isPiece_421 (lv_at hl 7 rfl) ?_
    refine lv_iconst (v := 2) hx hb dL_isPiece_423 (by decide) ?_
    refine lv_icmp_ne (tgt := 493) hx hb dL_isPiece_424 (by decide) (fun _ => ?_) (fun h => absurd h (by decide))
    refine lv_iload hx hb dL_isPiece_493 (lv_at hl 7 rfl) ?_
    refine lv_iconst (v := 3) hx hb dL_isPiece_495 (by decide) ?_
    refine lv_icmp_ne (tgt := 686) hx hb dL_isPiece_496 (by decide) (fun h => absurd (by decide) h) (fun _ => ?_)
    refine lv_iload hx hb dL_isPiece_499 (lv_at hl 9 rfl) ?_
    refine lv_bipush (v := 9) hx hb dL_isPiece_501 (by decide) ?_
    refine lv_irem hx hb dL_isPiece_503 (by decide) ?_
    have hJ21 : ∀ (x20 : Int32), (x20 = if (two - two / 9 * 9) = 0 then ((two / 9) - (two / 9) / 102 * 102) else (20 + (two - two / 80 * 80))) → W p G.1 e ({ frames := 9, cells := 5, slots := 802, locals := 261 }) s m args below meth c H locs 0 0 Q (F0 m 526 ls [.int x20]) := by
      intro x20 ex20
      refine lv_istore (lv' := [(10, .int x20), (9, .int 0), (8, .int (nI np)), (0, .ref (Z.A 0 0)), (1, .ref (la 0)), (2, .ref (la 1)), (3, .ref (la 2)), (4, .ref (la 6)), (5, .int 3), (6, .int one), (7, .int two)]) hx hb dL_isPiece_526 hl (by decide) rfl (fun ls hl => ?_)
      refine lv_iload hx hb dL_isPiece_528 (lv_at hl 0 rfl) ?_
      have hJ22 : W p G.1 e ({ frames := 9, cells := 5, slots := 802, locals := 261 }) s m args below meth c H locs 0 0 Q (F0 m 545 ls [.int (bI ((¬ (x20 ≤ 0)) ∧ (¬ (101 ≤ x20))))]) := by
        by_cases hb11 : (¬ (x20 ≤ 0)) ∧ (¬ (101 ≤ x20))
        · rw [bI_t hb11]
          refine lv_istore (lv' := [(11, .int 1), (10, .int x20), (9, .int 0), (8, .int (nI np)), (0, .ref (Z.A 0 0)), (1, .ref (la 0)), (2, .ref (la 1)), (3, .ref (la 2)), (4, .ref (la 6)), (5, .int 3), (6, .int one), (7, .int two)]) hx hb dL_isPiece_545 hl (by decide) rfl (fun ls hl => ?_)
          refine lv_iload hx hb dL_isPiece_547 (lv_at hl 2 rfl) ?_
          refine lv_if_eq (tgt := 602) hx hb dL_isPiece_549 (by decide) (fun _ => ?_) (fun h => absurd h (by decide))
          refine lv_iconst (v := 0) hx hb dL_isPiece_602 (by decide) ?_
          refine lv_istore (lv' := [(12, .int 0), (11, .int 1), (10, .int x20), (9, .int 0), (8, .int (nI np)), (0, .ref (Z.A 0 0)), (1, .ref (la 0)), (2, .ref (la 1)), (3, .ref (la 2)), (4, .ref (la 6)), (5, .int 3), (6, .int one), (7, .int two)]) hx hb dL_isPiece_603 hl (by decide) rfl (fun ls hl => ?_)
          refine lv_iload hx hb dL_isPiece_605 (lv_at hl 0 rfl) ?_
          refine lv_if_eq (tgt := 630) hx hb dL_isPiece_607 (by decide) (fun _ => ?_) (fun h => absurd h (by decide))
          refine lv_aload_n hx hb dL_isPiece_630 rfl (lv_at hl 5 rfl) ?_
          refine lv_iconst (v := 4) hx hb dL_isPiece_631 (by decide) ?_
          refine lv_iload hx hb dL_isPiece_632 (lv_at hl 4 rfl) ?_
          refine lv_iload hx hb dL_isPiece_634 (lv_at hl 2 rfl) ?_
          refine lv_iconst (v := 0) hx hb dL_isPiece_636 (by decide) ?_
          refine jx_callH (rest := []) (as := [.ref (Z.A 0 0), .int 4, .int (nI np), .int x20, .int 0]) hx hb hml hts hown hK hE Dj_xl hI (qD_flood G hst Z S0 (nI np) x20 0 hR.1.1.1) kw_does ⟨(Nat.le_of_ble_eq_true rfl), (Nat.le_of_ble_eq_true rfl)⟩ hl.1 (Nat.le_of_ble_eq_true rfl) dL_isPiece_637 ⟨(Nat.le_of_ble_eq_true rfl), (Nat.le_of_ble_eq_true rfl)⟩ (fun v w1 H locs hpE hI => ?_)
          obtain ⟨hv, Z99, S99, M99, hR9, hA9, hw9⟩ : FIN G.2.2.2 G.2.1 Z t L (-30000000) v w1 := by subst ex20; subst enp env; exact fi3a hR ht5 hpE
          subst hv
          subst hw9
          refine lv_iload hx hb dL_isPiece_640 (lv_at hl 3 rfl) ?_
          refine lv_if_ne (tgt := 650) hx hb dL_isPiece_642 (by decide) (fun h => absurd h (by decide)) (fun _ => ?_)
          refine lv_ldc (v := -30000000) hx hb hown (hts _ q652) dL_isPiece_645 ?_
          refine lv_goto (tgt := 677) hx hb dL_isPiece_647 (by decide) ?_
          have hm : (-30000000 : Int32) = -30000000 := rfl
          refine lv_icmp_ne (tgt := 684) hx hb dL_isPiece_677 (by decide) (fun h9 => absurd hm h9) (fun _ => ?_)
          refine lv_iconst (v := 1) hx hb dL_isPiece_680 (by decide) ?_
          refine lv_goto (tgt := 685) hx hb dL_isPiece_681 (by decide) ?_
          exact rt_z hx hb hr hlocks (by decide) hI hA hQ ⟨rfl, Z99, S99, M99, L, hR9, hA9, rfl⟩ (Nat.le_of_ble_eq_true rfl) (Nat.le_of_ble_eq_true rfl) dL_isPiece_685
        · rw [bI_f hb11]
          refine lv_istore (lv' := [(11, .int 0), (10, .int x20), (9, .int 0), (8, .int (nI np)), (0, .ref (Z.A 0 0)), (1, .ref (la 0)), (2, .ref (la 1)), (3, .ref (la 2)), (4, .ref (la 6)), (5, .int 3), (6, .int one), (7, .int two)]) hx hb dL_isPiece_545 hl (by decide) rfl (fun ls hl => ?_)
          refine lv_iload hx hb dL_isPiece_547 (lv_at hl 2 rfl) ?_
          refine lv_if_eq (tgt := 602) hx hb dL_isPiece_549 (by decide) (fun _ => ?_) (fun h => absurd h (by decide))
          refine lv_iconst (v := 0) hx hb dL_isPiece_602 (by decide) ?_
          refine lv_istore (lv' := [(12, .int 0), (11, .int 0), (10, .int x20), (9, .int 0), (8, .int (nI np)), (0, .ref (Z.A 0 0)), (1, .ref (la 0)), (2, .ref (la 1)), (3, .ref (la 2)), (4, .ref (la 6)), (5, .int 3), (6, .int one), (7, .int two)]) hx hb dL_isPiece_603 hl (by decide) rfl (fun ls hl => ?_)
          refine lv_iload hx hb dL_isPiece_605 (lv_at hl 0 rfl) ?_
          refine lv_if_eq (tgt := 630) hx hb dL_isPiece_607 (by decide) (fun _ => ?_) (fun h => absurd h (by decide))
          refine lv_aload_n hx hb dL_isPiece_630 rfl (lv_at hl 5 rfl) ?_
          refine lv_iconst (v := 4) hx hb dL_isPiece_631 (by decide) ?_
          refine lv_iload hx hb dL_isPiece_632 (lv_at hl 4 rfl) ?_
          refine lv_iload hx hb dL_isPiece_634 (lv_at hl 2 rfl) ?_
          refine lv_iconst (v := 0) hx hb dL_isPiece_636 (by decide) ?_
          refine jx_callH (rest := []) (as := [.ref (Z.A 0 0), .int 4, .int (nI np), .int x20, .int 0]) hx hb hml hts hown hK hE Dj_xl hI (qD_flood G hst Z S0 (nI np) x20 0 hR.1.1.1) kw_does ⟨(Nat.le_of_ble_eq_true rfl), (Nat.le_of_ble_eq_true rfl)⟩ hl.1 (Nat.le_of_ble_eq_true rfl) dL_isPiece_637 ⟨(Nat.le_of_ble_eq_true rfl), (Nat.le_of_ble_eq_true rfl)⟩ (fun v w1 H locs hpE hI => ?_)
          obtain ⟨hv, Z99, S99, M99, hR9, hA9, hw9⟩ : FIN G.2.2.2 G.2.1 Z t L (-30000000) v w1 := by subst ex20; subst enp env; exact fi3a hR ht5 hpE
          subst hv
          subst hw9
          refine lv_iload hx hb dL_isPiece_640 (lv_at hl 3 rfl) ?_
          refine lv_if_ne (tgt := 650) hx hb dL_isPiece_642 (by decide) (fun h => absurd h (by decide)) (fun _ => ?_)
          refine lv_ldc (v := -30000000) hx hb hown (hts _ q652) dL_isPiece_645 ?_
          refine lv_goto (tgt := 677) hx hb dL_isPiece_647 (by decide) ?_
          have hm : (-30000000 : Int32) = -30000000 := rfl
          refine lv_icmp_ne (tgt := 684) hx hb dL_isPiece_677 (by decide) (fun h9 => absurd hm h9) (fun _ => ?_)
          refine lv_iconst (v := 1) hx hb dL_isPiece_680 (by decide) ?_
          refine lv_goto (tgt := 685) hx hb dL_isPiece_681 (by decide) ?_
          exact rt_z hx hb hr hlocks (by decide) hI hA hQ ⟨rfl, Z99, S99, M99, L, hR9, hA9, rfl⟩ (Nat.le_of_ble_eq_true rfl) (Nat.le_of_ble_eq_true rfl) dL_isPiece_685
      refine lv_if_le (tgt := 544) hx hb dL_isPiece_530 (by decide) (fun c23 => ?_) (fun c23 => ?_)
      · refine lv_iconst (v := 0) hx hb dL_isPiece_544 (by decide) ?_
        have eb24 : (0 : Int32) = bI ((¬ (x20 ≤ 0)) ∧ (¬ (101 ≤ x20))) := (bI_f (fun k => k.1 c23)).symm
        rw [eb24]
        exact hJ22
      · refine lv_iload hx hb dL_isPiece_533 (lv_at hl 0 rfl) ?_
        refine lv_bipush (v := 101) hx hb dL_isPiece_535 (by decide) ?_
        refine lv_icmp_ge (tgt := 544) hx hb dL_isPiece_537 (by decide) (fun c25 => ?_) (fun c25 => ?_)
        · refine lv_iconst (v := 0) hx hb dL_isPiece_544 (by decide) ?_
          have eb26 : (0 : Int32) = bI ((¬ (x20 ≤ 0)) ∧ (¬ (101 ≤ x20))) := (bI_f (fun k => (fun k => k c25) k.2)).symm
          rw [eb26]
          exact hJ22
        · refine lv_iconst (v := 1) hx hb dL_isPiece_540 (by decide) ?_
          refine lv_goto (tgt := 545) hx hb dL_isPiece_541 (by decide) ?_
          have eb27 : (1 : Int32) = bI ((¬ (x20 ≤ 0)) ∧ (¬ (101 ≤ x20))) := (bI_t ⟨c23, c25⟩).symm
          rw [eb27]
          exact hJ22
    refine lv_if_ne (tgt := 518) hx hb dL_isPiece_504 (by decide) (fun c28 => ?_) (fun c28 => ?_)
    · refine lv_bipush (v := 20) hx hb dL_isPiece_518 (by decide) ?_
      refine lv_iload hx hb dL_isPiece_520 (lv_at hl 9 rfl) ?_
      refine lv_bipush (v := 80) hx hb dL_isPiece_522 (by decide) ?_
      refine lv_irem hx hb dL_isPiece_524 (by decide) ?_
      refine lv_iadd hx hb dL_isPiece_525 ?_
      exact hJ21 (20 + (two - two / 80 * 80)) (by exact (if_neg c28).symm)
    · refine lv_iload hx hb dL_isPiece_507 (lv_at hl 9 rfl) ?_
      refine lv_bipush (v := 9) hx hb dL_isPiece_509 (by decide) ?_
      refine lv_idiv hx hb dL_isPiece_511 (by decide) ?_
      refine lv_bipush (v := 102) hx hb dL_isPiece_512 (by decide) ?_
      refine lv_irem hx hb dL_isPiece_514 (by decide) ?_
      refine lv_goto (tgt := 526) hx hb dL_isPiece_515 (by decide) ?_
      exact hJ21 ((two / 9) - (two / 9) / 102 * 102) (by exact (if_pos c28).symm)
set_option maxHeartbeats 4000000 in
set_option maxRecDepth 100000 in
theorem qP_4 (G : GX) (hst : G.1.stackTraces = false) {Z : XZ} {S0 : XS} {M : MS} {L : LwS} {t : Nat} {la : Nat → Nat} (hR : RR Z S0 M L t) (ht : t ≤ 100) (one two : Int32) (h1 : nB one 60000) (h2 : nB two 60000) : FC G yL_isPiece cL_isPiece 13 (some .boolean) { frames := 9, cells := 5, slots := 802, locals := 261 } [.ref (Z.A 0 0), .ref (la 0), .ref (la 1), .ref (la 2), .ref (la 6), .int 4, .int one, .int two] (jn (xW G.2.2.2 G.2.1 Z S0) (lW G.2.2.2 la L)) (poR G.2.2.2 G.2.1 (Z.A 0 0) la t) := by
  refine FC.go (lv := [(0, .ref (Z.A 0 0)), (1, .ref (la 0)), (2, .ref (la 1)), (3, .ref (la 2)), (4, .ref (la 6)), (5, .int 4), (6, .int one), (7, .int two)]) (by decide) (Nat.le_of_ble_eq_true rfl) rfl (fun p e s m args below meth c A H locs ls Q hx hb hr hts hown hml hlocks hnm hK hE hI hA hl hQ => ?_)
  have hown : s.vm.findClass "IcehighwayLaw" = some m.cls := hown
  obtain ⟨np, enp⟩ : ∃ x : Nat, x = Z.N 0 := ⟨_, rfl⟩
  obtain ⟨nv, env⟩ : ∃ x : Nat, x = Z.N 1 := ⟨_, rfl⟩
  have h63 : L 6 3 = nI np := by rw [enp]; exact hR.l.g.2.2.2.1
  have h64 : L 6 4 = nI nv := by rw [env]; exact hR.l.g.2.2.2.2
  have hnp : np ≤ 8 := by rw [enp]; exact hR.np
  have hnv : nv ≤ 8 := by rw [env]; exact hR.nv
  have ht5 : t < 512 := by omega
  refine lv_iload hx hb dL_isPiece_0 (lv_at hl 5 rfl) ?_
  refine lv_if_ne (tgt := 270) hx hb dL_isPiece_2 (by decide) (fun _ => ?_) (fun h => absurd h (by decide))
  refine lv_iload hx hb dL_isPiece_270 (lv_at hl 5 rfl) ?_
  refine lv_iconst (v := 2) hx hb dL_isPiece_272 (by decide) ?_
  refine lv_icmp_ge (tgt := 394) hx hb dL_isPiece_273 (by decide) (fun _ => ?_) (fun h => absurd (by decide) h)
  refine lv_iload hx hb dL_isPiece_394 (lv_at hl 6 rfl) ?_
  refine lv_aload hx hb dL_isPiece_396 (lv_at hl 4 rfl) ?_
  refine lv_iconst (v := 3) hx hb dL_isPiece_398 (by decide) ?_
  refine gA (k := 6) (n := 5) (q := 3) hx hb hK hI (by decide) rfl (by unfold vp_in; decide) (by decide) dL_isPiece_399 ?_
  rw [h63]
  refine lv_iconst (v := 1) hx hb dL_isPiece_400 (by decide) ?_
  refine lv_iadd hx hb dL_isPiece_401 ?_
  refine lv_irem hx hb dL_isPiece_402 (ix_ne (n := np) rfl (by omega)) ?_
  obtain ⟨pp, hpp, hle⟩ := ix_1 (g := nI np) (n := np) h1 (by decide) rfl (by omega)
  rw [hpp]
  rcases Nat.lt_or_ge pp np with hp | hp
  · skip
    refine lv_istore (lv' := [(8, .int (nI pp)), (0, .ref (Z.A 0 0)), (1, .ref (la 0)), (2, .ref (la 1)), (3, .ref (la 2)), (4, .ref (la 6)), (5, .int 4), (6, .int one), (7, .int two)]) hx hb dL_isPiece_403 hl (by decide) rfl (fun ls hl => ?_)
    refine lv_iload hx hb dL_isPiece_405 (lv_at hl 0 rfl) ?_
    refine lv_aload hx hb dL_isPiece_407 (lv_at hl 5 rfl) ?_
    refine lv_iconst (v := 3) hx hb dL_isPiece_409 (by decide) ?_
    refine gA (k := 6) (n := 5) (q := 3) hx hb hK hI (by decide) rfl (by unfold vp_in; decide) (by decide) dL_isPiece_410 ?_
    rw [h63]
    refine lv_icmp_ge (tgt := 418) hx hb dL_isPiece_411 (by decide) (fun h9 => absurd h9 (show ¬ nI np ≤ nI pp from fun z => absurd ((nI_leI (by omega) (by omega)).mp z) (by omega))) (fun _ => ?_)
    refine lv_iconst (v := 1) hx hb dL_isPiece_414 (by decide) ?_
    refine lv_goto (tgt := 419) hx hb dL_isPiece_415 (by decide) ?_
    refine lv_istore (lv' := [(9, .int 1), (8, .int (nI pp)), (0, .ref (Z.A 0 0)), (1, .ref (la 0)), (2, .ref (la 1)), (3, .ref (la 2)), (4, .ref (la 6)), (5, .int 4), (6, .int one), (7, .int two)]) hx hb dL_isPiece_419 hl (by decide) rfl (fun ls hl => ?_)
    refine lv_iload hx hb dL_isPiece_421 (lv_at hl 7 rfl) ?_
    refine lv_iconst (v := 2) hx hb dL_isPiece_423 (by decide) ?_
    refine lv_icmp_ne (tgt := 493) hx hb dL_isPiece_424 (by decide) (fun _ => ?_) (fun h => absurd h (by decide))
    refine lv_iload hx hb dL_isPiece_493 (lv_at hl 7 rfl) ?_
    refine lv_iconst (v := 3) hx hb dL_isPiece_495 (by decide) ?_
    refine lv_icmp_ne (tgt := 686) hx hb dL_isPiece_496 (by decide) (fun _ => ?_) (fun h => absurd h (by decide))
    refine lv_iload hx hb dL_isPiece_686 (lv_at hl 7 rfl) ?_
    refine lv_iconst (v := 4) hx hb dL_isPiece_688 (by decide) ?_
    refine lv_icmp_ne (tgt := 758) hx hb dL_isPiece_689 (by decide) (fun h => absurd (by decide) h) (fun _ => ?_)
    refine lv_aload_n hx hb dL_isPiece_692 rfl (lv_at hl 3 rfl) ?_
    refine lv_iload hx hb dL_isPiece_693 (lv_at hl 0 rfl) ?_
    refine lv_if_eq (tgt := 706) hx hb dL_isPiece_695 (by decide) (fun h => absurd h (by decide)) (fun _ => ?_)
    refine lv_bipush (v := 32) hx hb dL_isPiece_698 (by decide) ?_
    refine lv_iload hx hb dL_isPiece_700 (lv_at hl 1 rfl) ?_
    refine lv_iadd hx hb dL_isPiece_702 ?_
    refine lv_goto (tgt := 708) hx hb dL_isPiece_703 (by decide) ?_
    refine lv_iload hx hb dL_isPiece_708 (lv_at hl 0 rfl) ?_
    refine lv_if_eq (tgt := 722) hx hb dL_isPiece_710 (by decide) (fun h => absurd h (by decide)) (fun _ => ?_)
    refine lv_aload_n hx hb dL_isPiece_713 rfl (lv_at hl 3 rfl) ?_
    refine lv_iload hx hb dL_isPiece_714 (lv_at hl 1 rfl) ?_
    refine cSv (rest := [.int (32 + (nI pp)), .ref (la 0)]) hx hb hml hts hown hK hE hI (qL_twice G _ la L (nI pp) (vp_in_nI (Nat.lt_of_lt_of_le (show pp < 8 by omega) (by decide)) (by decide))) kw_119 ⟨Nat.le_of_ble_eq_true rfl, Nat.le_of_ble_eq_true rfl⟩ rfl rfl hl.1 rfl (Nat.le_of_ble_eq_true rfl) dL_isPiece_716 ⟨Nat.le_of_ble_eq_true rfl, Nat.le_of_ble_eq_true rfl⟩ (fun H locs hI => ?_)
    refine lv_goto (tgt := 723) hx hb dL_isPiece_719 (by decide) ?_
    obtain ⟨S1, eS1⟩ : ∃ z : LwS, z = lset L 0 (32 + pp) (L_twice L (nI pp)) := ⟨_, rfl⟩
    refine sA (k := 0) (n := 57) (q := 32 + pp) hx hb hK hI (by decide) rfl (vo_n 32 rfl (show pp < 8 by omega) (by decide) (by decide)) (vo_nc 32 rfl (show pp < 8 by omega) (by decide)) eS1 dL_isPiece_723 (fun H locs hI => ?_)
    refine lv_aload_n hx hb dL_isPiece_724 rfl (lv_at hl 2 rfl) ?_
    refine lv_iconst (v := 5) hx hb dL_isPiece_725 (by decide) ?_
    refine lv_iload hx hb dL_isPiece_726 (lv_at hl 1 rfl) ?_
    refine lv_iconst (v := 0) hx hb dL_isPiece_728 (by decide) ?_
    refine lv_iconst (v := 0) hx hb dL_isPiece_729 (by decide) ?_
    refine jx_callH (rest := []) (as := [.ref (Z.A 0 0), .int 5, .int (nI pp), .int 0, .int 0]) hx hb hml hts hown hK hE Dj_xl hI (qD_drill G hst Z S0 (nI pp) 0 0 hR.1.1.1) kw_does ⟨(Nat.le_of_ble_eq_true rfl), (Nat.le_of_ble_eq_true rfl)⟩ hl.1 (Nat.le_of_ble_eq_true rfl) dL_isPiece_730 ⟨(Nat.le_of_ble_eq_true rfl), (Nat.le_of_ble_eq_true rfl)⟩ (fun v w1 H locs hpE hI => ?_)
    obtain ⟨hv, Z99, S99, M99, hR9, hA9, hw9⟩ : FIN G.2.2.2 G.2.1 Z t S1 (L_twice S1 (nI pp)) v w1 := by subst eS1; subst enp env; exact fi4a hR ht5 hp hpE
    subst hv
    subst hw9
    refine lv_iload hx hb dL_isPiece_733 (lv_at hl 0 rfl) ?_
    refine lv_if_eq (tgt := 747) hx hb dL_isPiece_735 (by decide) (fun h => absurd h (by decide)) (fun _ => ?_)
    refine lv_aload_n hx hb dL_isPiece_738 rfl (lv_at hl 3 rfl) ?_
    refine lv_iload hx hb dL_isPiece_739 (lv_at hl 1 rfl) ?_
    refine cSv (rest := [.int (L_twice S1 (nI pp))]) hx hb hml hts hown hK hE hI (qL_twice G _ la S1 (nI pp) (vp_in_nI (Nat.lt_of_lt_of_le (show pp < 8 by omega) (by decide)) (by decide))) kw_119 ⟨Nat.le_of_ble_eq_true rfl, Nat.le_of_ble_eq_true rfl⟩ rfl rfl hl.1 rfl (Nat.le_of_ble_eq_true rfl) dL_isPiece_741 ⟨Nat.le_of_ble_eq_true rfl, Nat.le_of_ble_eq_true rfl⟩ (fun H locs hI => ?_)
    refine lv_goto (tgt := 749) hx hb dL_isPiece_744 (by decide) ?_
    have hm : (L_twice S1 (nI pp) : Int32) = L_twice S1 (nI pp) := rfl
    refine lv_icmp_ne (tgt := 756) hx hb dL_isPiece_749 (by decide) (fun h9 => absurd hm h9) (fun _ => ?_)
    refine lv_iconst (v := 1) hx hb dL_isPiece_752 (by decide) ?_
    refine lv_goto (tgt := 757) hx hb dL_isPiece_753 (by decide) ?_
    exact rt_z hx hb hr hlocks (by decide) hI hA hQ ⟨rfl, Z99, S99, M99, S1, hR9, hA9, rfl⟩ (Nat.le_of_ble_eq_true rfl) (Nat.le_of_ble_eq_true rfl) dL_isPiece_757
  · have epp : pp = np := by omega
    rw [epp]
    refine lv_istore (lv' := [(8, .int (nI np)), (0, .ref (Z.A 0 0)), (1, .ref (la 0)), (2, .ref (la 1)), (3, .ref (la 2)), (4, .ref (la 6)), (5, .int 4), (6, .int one), (7, .int two)]) hx hb dL_isPiece_403 hl (by decide) rfl (fun ls hl => ?_)
    refine lv_iload hx hb dL_isPiece_405 (lv_at hl 0 rfl) ?_
    refine lv_aload hx hb dL_isPiece_407 (lv_at hl 5 rfl) ?_
    refine lv_iconst (v := 3) hx hb dL_isPiece_409 (by decide) ?_
    refine gA (k := 6) (n := 5) (q := 3) hx hb hK hI (by decide) rfl (by unfold vp_in; decide) (by decide) dL_isPiece_410 ?_
    rw [h63]
    refine lv_icmp_ge (tgt := 418) hx hb dL_isPiece_411 (by decide) (fun _ => ?_) (fun h9 => absurd (nI_le (Nat.le_refl np) (by omega)) h9)
    refine lv_iconst (v := 0) hx hb dL_isPiece_418 (by decide) ?_
    refine lv_istore (lv' := [(9, .int 0), (8, .int (nI np)), (0, .ref (Z.A 0 0)), (1, .ref (la 0)), (2, .ref (la 1)), (3, .ref (la 2)), (4, .ref (la 6)), (5, .int 4), (6, .int one), (7, .int two)]) hx hb dL_isPiece_419 hl (by decide) rfl (fun ls hl => ?_)
    refine lv_iload hx hb dL_isPiece_421 (lv_at hl 7 rfl) ?_
    refine lv_iconst (v := 2) hx hb dL_isPiece_423 (by decide) ?_
    refine lv_icmp_ne (tgt := 493) hx hb dL_isPiece_424 (by decide) (fun _ => ?_) (fun h => absurd h (by decide))
    refine lv_iload hx hb dL_isPiece_493 (lv_at hl 7 rfl) ?_
    refine lv_iconst (v := 3) hx hb dL_isPiece_495 (by decide) ?_
    refine lv_icmp_ne (tgt := 686) hx hb dL_isPiece_496 (by decide) (fun _ => ?_) (fun h => absurd h (by decide))
    refine lv_iload hx hb dL_isPiece_686 (lv_at hl 7 rfl) ?_
    refine lv_iconst (v := 4) hx hb dL_isPiece_688 (by decide) ?_
    refine lv_icmp_ne (tgt := 758) hx hb dL_isPiece_689 (by decide) (fun h => absurd (by decide) h) (fun _ => ?_)
    refine lv_aload_n hx hb dL_isPiece_692 rfl (lv_at hl 3 rfl) ?_
    refine lv_iload hx hb dL_isPiece_693 (lv_at hl 0 rfl) ?_
    refine lv_if_eq (tgt := 706) hx hb dL_isPiece_695 (by decide) (fun _ => ?_) (fun h => absurd h (by decide))
    refine lv_bipush (v := 56) hx hb dL_isPiece_706 (by decide) ?_
    refine lv_iload hx hb dL_isPiece_708 (lv_at hl 0 rfl) ?_
    refine lv_if_eq (tgt := 722) hx hb dL_isPiece_710 (by decide) (fun _ => ?_) (fun h => absurd h (by decide))
    refine lv_iconst (v := 0) hx hb dL_isPiece_722 (by decide) ?_
    obtain ⟨S2, eS2⟩ : ∃ z : LwS, z = lset L 0 56 0 := ⟨_, rfl⟩
    refine sA (k := 0) (n := 57) (q := 56) hx hb hK hI (by decide) rfl (by unfold vp_in; decide) (by decide) eS2 dL_isPiece_723 (fun H locs hI => ?_)
    refine lv_aload_n hx hb dL_isPiece_724 rfl (lv_at hl 2 rfl) ?_
    refine lv_iconst (v := 5) hx hb dL_isPiece_725 (by decide) ?_
    refine lv_iload hx hb dL_isPiece_726 (lv_at hl 1 rfl) ?_
    refine lv_iconst (v := 0) hx hb dL_isPiece_728 (by decide) ?_
    refine lv_iconst (v := 0) hx hb dL_isPiece_729 (by decide) ?_
    refine jx_callH (rest := []) (as := [.ref (Z.A 0 0), .int 5, .int (nI np), .int 0, .int 0]) hx hb hml hts hown hK hE Dj_xl hI (qD_drill G hst Z S0 (nI np) 0 0 hR.1.1.1) kw_does ⟨(Nat.le_of_ble_eq_true rfl), (Nat.le_of_ble_eq_true rfl)⟩ hl.1 (Nat.le_of_ble_eq_true rfl) dL_isPiece_730 ⟨(Nat.le_of_ble_eq_true rfl), (Nat.le_of_ble_eq_true rfl)⟩ (fun v w1 H locs hpE hI => ?_)
    obtain ⟨hv, Z99, S99, M99, hR9, hA9, hw9⟩ : FIN G.2.2.2 G.2.1 Z t S2 (-30000000) v w1 := by subst eS2; subst enp env; exact fi4b hR ht5 hpE
    subst hv
    subst hw9
    refine lv_iload hx hb dL_isPiece_733 (lv_at hl 0 rfl) ?_
    refine lv_if_eq (tgt := 747) hx hb dL_isPiece_735 (by decide) (fun _ => ?_) (fun h => absurd h (by decide))
    refine lv_ldc (v := -30000000) hx hb hown (hts _ q652) dL_isPiece_747 ?_
    have hm : (-30000000 : Int32) = -30000000 := rfl
    refine lv_icmp_ne (tgt := 756) hx hb dL_isPiece_749 (by decide) (fun h9 => absurd hm h9) (fun _ => ?_)
    refine lv_iconst (v := 1) hx hb dL_isPiece_752 (by decide) ?_
    refine lv_goto (tgt := 757) hx hb dL_isPiece_753 (by decide) ?_
    exact rt_z hx hb hr hlocks (by decide) hI hA hQ ⟨rfl, Z99, S99, M99, S2, hR9, hA9, rfl⟩ (Nat.le_of_ble_eq_true rfl) (Nat.le_of_ble_eq_true rfl) dL_isPiece_757
set_option maxHeartbeats 4000000 in
set_option maxRecDepth 100000 in
theorem qP_5 (G : GX) (hst : G.1.stackTraces = false) {Z : XZ} {S0 : XS} {M : MS} {L : LwS} {t : Nat} {la : Nat → Nat} (hR : RR Z S0 M L t) (ht : t ≤ 100) (one two : Int32) (h1 : nB one 60000) (h2 : nB two 60000) : FC G yL_isPiece cL_isPiece 13 (some .boolean) { frames := 9, cells := 5, slots := 802, locals := 261 } [.ref (Z.A 0 0), .ref (la 0), .ref (la 1), .ref (la 2), .ref (la 6), .int 5, .int one, .int two] (jn (xW G.2.2.2 G.2.1 Z S0) (lW G.2.2.2 la L)) (poR G.2.2.2 G.2.1 (Z.A 0 0) la t) := by
  refine FC.go (lv := [(0, .ref (Z.A 0 0)), (1, .ref (la 0)), (2, .ref (la 1)), (3, .ref (la 2)), (4, .ref (la 6)), (5, .int 5), (6, .int one), (7, .int two)]) (by decide) (Nat.le_of_ble_eq_true rfl) rfl (fun p e s m args below meth c A H locs ls Q hx hb hr hts hown hml hlocks hnm hK hE hI hA hl hQ => ?_)
  have hown : s.vm.findClass "IcehighwayLaw" = some m.cls := hown
  obtain ⟨np, enp⟩ : ∃ x : Nat, x = Z.N 0 := ⟨_, rfl⟩
  obtain ⟨nv, env⟩ : ∃ x : Nat, x = Z.N 1 := ⟨_, rfl⟩
  have h63 : L 6 3 = nI np := by rw [enp]; exact hR.l.g.2.2.2.1
  have h64 : L 6 4 = nI nv := by rw [env]; exact hR.l.g.2.2.2.2
  have hnp : np ≤ 8 := by rw [enp]; exact hR.np
  have hnv : nv ≤ 8 := by rw [env]; exact hR.nv
  have ht5 : t < 512 := by omega
  refine lv_iload hx hb dL_isPiece_0 (lv_at hl 5 rfl) ?_
  refine lv_if_ne (tgt := 270) hx hb dL_isPiece_2 (by decide) (fun _ => ?_) (fun h => absurd h (by decide))
  refine lv_iload hx hb dL_isPiece_270 (lv_at hl 5 rfl) ?_
  refine lv_iconst (v := 2) hx hb dL_isPiece_272 (by decide) ?_
  refine lv_icmp_ge (tgt := 394) hx hb dL_isPiece_273 (by decide) (fun _ => ?_) (fun h => absurd (by decide) h)
  refine lv_iload hx hb dL_isPiece_394 (lv_at hl 6 rfl) ?_
  refine lv_aload hx hb dL_isPiece_396 (lv_at hl 4 rfl) ?_
  refine lv_iconst (v := 3) hx hb dL_isPiece_398 (by decide) ?_
  refine gA (k := 6) (n := 5) (q := 3) hx hb hK hI (by decide) rfl (by unfold vp_in; decide) (by decide) dL_isPiece_399 ?_
  rw [h63]
  refine lv_iconst (v := 1) hx hb dL_isPiece_400 (by decide) ?_
  refine lv_iadd hx hb dL_isPiece_401 ?_
  refine lv_irem hx hb dL_isPiece_402 (ix_ne (n := np) rfl (by omega)) ?_
  obtain ⟨pp, hpp, hle⟩ := ix_1 (g := nI np) (n := np) h1 (by decide) rfl (by omega)
  rw [hpp]
  rcases Nat.lt_or_ge pp np with hp | hp
  · skip
    refine lv_istore (lv' := [(8, .int (nI pp)), (0, .ref (Z.A 0 0)), (1, .ref (la 0)), (2, .ref (la 1)), (3, .ref (la 2)), (4, .ref (la 6)), (5, .int 5), (6, .int one), (7, .int two)]) hx hb dL_isPiece_403 hl (by decide) rfl (fun ls hl => ?_)
    refine lv_iload hx hb dL_isPiece_405 (lv_at hl 0 rfl) ?_
    refine lv_aload hx hb dL_isPiece_407 (lv_at hl 5 rfl) ?_
    refine lv_iconst (v := 3) hx hb dL_isPiece_409 (by decide) ?_
    refine gA (k := 6) (n := 5) (q := 3) hx hb hK hI (by decide) rfl (by unfold vp_in; decide) (by decide) dL_isPiece_410 ?_
    rw [h63]
    refine lv_icmp_ge (tgt := 418) hx hb dL_isPiece_411 (by decide) (fun h9 => absurd h9 (show ¬ nI np ≤ nI pp from fun z => absurd ((nI_leI (by omega) (by omega)).mp z) (by omega))) (fun _ => ?_)
    refine lv_iconst (v := 1) hx hb dL_isPiece_414 (by decide) ?_
    refine lv_goto (tgt := 419) hx hb dL_isPiece_415 (by decide) ?_
    refine lv_istore (lv' := [(9, .int 1), (8, .int (nI pp)), (0, .ref (Z.A 0 0)), (1, .ref (la 0)), (2, .ref (la 1)), (3, .ref (la 2)), (4, .ref (la 6)), (5, .int 5), (6, .int one), (7, .int two)]) hx hb dL_isPiece_419 hl (by decide) rfl (fun ls hl => ?_)
    refine lv_iload hx hb dL_isPiece_421 (lv_at hl 7 rfl) ?_
    refine lv_iconst (v := 2) hx hb dL_isPiece_423 (by decide) ?_
    refine lv_icmp_ne (tgt := 493) hx hb dL_isPiece_424 (by decide) (fun _ => ?_) (fun h => absurd h (by decide))
    refine lv_iload hx hb dL_isPiece_493 (lv_at hl 7 rfl) ?_
    refine lv_iconst (v := 3) hx hb dL_isPiece_495 (by decide) ?_
    refine lv_icmp_ne (tgt := 686) hx hb dL_isPiece_496 (by decide) (fun _ => ?_) (fun h => absurd h (by decide))
    refine lv_iload hx hb dL_isPiece_686 (lv_at hl 7 rfl) ?_
    refine lv_iconst (v := 4) hx hb dL_isPiece_688 (by decide) ?_
    refine lv_icmp_ne (tgt := 758) hx hb dL_isPiece_689 (by decide) (fun _ => ?_) (fun h => absurd h (by decide))
    refine lv_iload hx hb dL_isPiece_758 (lv_at hl 7 rfl) ?_
    refine lv_iconst (v := 5) hx hb dL_isPiece_760 (by decide) ?_
    refine lv_icmp_ne (tgt := 892) hx hb dL_isPiece_761 (by decide) (fun h => absurd (by decide) h) (fun _ => ?_)
    refine lv_iload hx hb dL_isPiece_764 (lv_at hl 9 rfl) ?_
    refine lv_bipush (v := 9) hx hb dL_isPiece_766 (by decide) ?_
    refine lv_irem hx hb dL_isPiece_768 (by decide) ?_
    refine lv_bipush (v := 8) hx hb dL_isPiece_769 (by decide) ?_
    have hJ2 : ∀ (x1 : Int32), (x1 = if (two - two / 9 * 9) = 8 then 3 else (if (two - two / 3 * 3) = 0 then ((two / 9) - (two / 9) / 3 * 3) else 2)) → W p G.1 e ({ frames := 9, cells := 5, slots := 802, locals := 261 }) s m args below meth c H locs 0 0 Q (F0 m 796 ls [.int x1]) := by
      intro x1 ex1
      refine lv_istore (lv' := [(10, .int x1), (9, .int 1), (8, .int (nI pp)), (0, .ref (Z.A 0 0)), (1, .ref (la 0)), (2, .ref (la 1)), (3, .ref (la 2)), (4, .ref (la 6)), (5, .int 5), (6, .int one), (7, .int two)]) hx hb dL_isPiece_796 hl (by decide) rfl (fun ls hl => ?_)
      obtain ⟨ho, rfl, hlo⟩ : nB x1 4 := nB_ite ex1 (nB_lit 3 rfl (by decide)) (nB_ite rfl (nB_up (rem_nB (b := 3) (div_nB (b := 9) h2 (by decide) rfl (by decide) (by decide)) (by decide) rfl (by decide) (by decide)) (by decide)) (nB_lit 2 rfl (by decide)))
      rcases Nat.lt_or_ge ho 3 with hho | hho
      · skip
        refine lv_iload hx hb dL_isPiece_798 (lv_at hl 1 rfl) ?_
        refine lv_if_eq (tgt := 815) hx hb dL_isPiece_800 (by decide) (fun h => absurd h (by decide)) (fun _ => ?_)
        refine lv_aload_n hx hb dL_isPiece_803 rfl (lv_at hl 5 rfl) ?_
        refine lv_iload hx hb dL_isPiece_804 (lv_at hl 2 rfl) ?_
        refine gA (k := 1) (n := 9) (q := pp) hx hb hK hI (by decide) rfl (vp_in_nI (Nat.lt_of_lt_of_le (show pp < 8 by omega) (by decide)) (by decide)) (nI_clamp (Nat.lt_of_lt_of_le (show pp < 8 by omega) (by decide))) dL_isPiece_806 ?_
        refine lv_bipush (v := 16) hx hb dL_isPiece_807 (by decide) ?_
        refine lv_idiv hx hb dL_isPiece_809 (by decide) ?_
        refine lv_iconst (v := 4) hx hb dL_isPiece_810 (by decide) ?_
        refine lv_irem hx hb dL_isPiece_811 (by decide) ?_
        refine lv_goto (tgt := 816) hx hb dL_isPiece_812 (by decide) ?_
        refine lv_istore (lv' := [(11, .int (((L 1 pp) / 16) - ((L 1 pp) / 16) / 4 * 4)), (10, .int (nI ho)), (9, .int 1), (8, .int (nI pp)), (0, .ref (Z.A 0 0)), (1, .ref (la 0)), (2, .ref (la 1)), (3, .ref (la 2)), (4, .ref (la 6)), (5, .int 5), (6, .int one), (7, .int two)]) hx hb dL_isPiece_816 hl (by decide) rfl (fun ls hl => ?_)
        refine lv_aload_n hx hb dL_isPiece_818 rfl (lv_at hl 6 rfl) ?_
        refine lv_iload hx hb dL_isPiece_819 (lv_at hl 2 rfl) ?_
        refine lv_if_eq (tgt := 835) hx hb dL_isPiece_821 (by decide) (fun h => absurd h (by decide)) (fun _ => ?_)
        refine lv_iload hx hb dL_isPiece_824 (lv_at hl 1 rfl) ?_
        refine lv_iconst (v := 3) hx hb dL_isPiece_826 (by decide) ?_
        refine lv_icmp_ge (tgt := 835) hx hb dL_isPiece_827 (by decide) (fun h9 => absurd h9 (show ¬ (3 : Int32) ≤ nI ho from fun z => absurd ((nI_leI (a := 3) (by decide) (by omega)).mp z) (by omega))) (fun _ => ?_)
        refine lv_iload hx hb dL_isPiece_830 (lv_at hl 3 rfl) ?_
        refine lv_goto (tgt := 837) hx hb dL_isPiece_832 (by decide) ?_
        refine lv_dup2_11 hx hb dL_isPiece_837 rfl rfl ?_
        refine gA (k := 1) (n := 9) (q := pp) hx hb hK hI (by decide) rfl (vp_in_nI (Nat.lt_of_lt_of_le (show pp < 8 by omega) (by decide)) (by decide)) (nI_clamp (Nat.lt_of_lt_of_le (show pp < 8 by omega) (by decide))) dL_isPiece_838 ?_
        refine lv_bipush (v := 16) hx hb dL_isPiece_839 (by decide) ?_
        refine lv_iload hx hb dL_isPiece_841 (lv_at hl 1 rfl) ?_
        refine lv_iload hx hb dL_isPiece_843 (lv_at hl 0 rfl) ?_
        refine lv_isub hx hb dL_isPiece_845 ?_
        refine lv_imul hx hb dL_isPiece_846 ?_
        refine lv_iadd hx hb dL_isPiece_847 ?_
        obtain ⟨S3, eS3⟩ : ∃ z : LwS, z = lset L 1 pp ((L 1 pp) + (16 * ((nI ho) - (((L 1 pp) / 16) - ((L 1 pp) / 16) / 4 * 4)))) := ⟨_, rfl⟩
        refine sA (k := 1) (n := 9) (q := pp) hx hb hK hI (by decide) rfl (vp_in_nI (Nat.lt_of_lt_of_le (show pp < 8 by omega) (by decide)) (by decide)) (nI_clamp (Nat.lt_of_lt_of_le (show pp < 8 by omega) (by decide))) eS3 dL_isPiece_848 (fun H locs hI => ?_)
        refine lv_aload_n hx hb dL_isPiece_849 rfl (lv_at hl 4 rfl) ?_
        refine lv_bipush (v := 6) hx hb dL_isPiece_850 (by decide) ?_
        refine lv_iload hx hb dL_isPiece_852 (lv_at hl 3 rfl) ?_
        refine lv_iload hx hb dL_isPiece_854 (lv_at hl 1 rfl) ?_
        refine lv_iconst (v := 0) hx hb dL_isPiece_856 (by decide) ?_
        refine jx_callH (rest := []) (as := [.ref (Z.A 0 0), .int 6, .int (nI pp), .int (nI ho), .int 0]) hx hb hml hts hown hK hE Dj_xl hI (qD_open G hst Z S0 (nI pp) (nI ho) 0 hR.1.1.1) kw_does ⟨(Nat.le_of_ble_eq_true rfl), (Nat.le_of_ble_eq_true rfl)⟩ hl.1 (Nat.le_of_ble_eq_true rfl) dL_isPiece_857 ⟨(Nat.le_of_ble_eq_true rfl), (Nat.le_of_ble_eq_true rfl)⟩ (fun v w1 H locs hpE hI => ?_)
        obtain ⟨hv, Z99, S99, M99, hR9, hA9, hw9⟩ : FIN G.2.2.2 G.2.1 Z t S3 (((L 1 pp) / 16) - ((L 1 pp) / 16) / 4 * 4) v w1 := by subst eS3; subst enp env; exact fi5a hR ht5 hp (show ho ≤ 2 by omega) hpE
        subst hv
        subst hw9
        refine lv_iload hx hb dL_isPiece_860 (lv_at hl 2 rfl) ?_
        refine lv_if_ne (tgt := 870) hx hb dL_isPiece_862 (by decide) (fun _ => ?_) (fun h => absurd h (by decide))
        refine lv_iload hx hb dL_isPiece_870 (lv_at hl 1 rfl) ?_
        refine lv_iconst (v := 3) hx hb dL_isPiece_872 (by decide) ?_
        refine lv_icmp_ge (tgt := 881) hx hb dL_isPiece_873 (by decide) (fun h9 => absurd h9 (show ¬ (3 : Int32) ≤ nI ho from fun z => absurd ((nI_leI (a := 3) (by decide) (by omega)).mp z) (by omega))) (fun _ => ?_)
        refine lv_iload hx hb dL_isPiece_876 (lv_at hl 0 rfl) ?_
        refine lv_goto (tgt := 883) hx hb dL_isPiece_878 (by decide) ?_
        have hm : (((L 1 pp) / 16) - ((L 1 pp) / 16) / 4 * 4 : Int32) = ((L 1 pp) / 16) - ((L 1 pp) / 16) / 4 * 4 := rfl
        refine lv_icmp_ne (tgt := 890) hx hb dL_isPiece_883 (by decide) (fun h9 => absurd hm h9) (fun _ => ?_)
        refine lv_iconst (v := 1) hx hb dL_isPiece_886 (by decide) ?_
        refine lv_goto (tgt := 891) hx hb dL_isPiece_887 (by decide) ?_
        exact rt_z hx hb hr hlocks (by decide) hI hA hQ ⟨rfl, Z99, S99, M99, S3, hR9, hA9, rfl⟩ (Nat.le_of_ble_eq_true rfl) (Nat.le_of_ble_eq_true rfl) dL_isPiece_891
      · obtain rfl : ho = 3 := by omega
        refine lv_iload hx hb dL_isPiece_798 (lv_at hl 1 rfl) ?_
        refine lv_if_eq (tgt := 815) hx hb dL_isPiece_800 (by decide) (fun h => absurd h (by decide)) (fun _ => ?_)
        refine lv_aload_n hx hb dL_isPiece_803 rfl (lv_at hl 5 rfl) ?_
        refine lv_iload hx hb dL_isPiece_804 (lv_at hl 2 rfl) ?_
        refine gA (k := 1) (n := 9) (q := pp) hx hb hK hI (by decide) rfl (vp_in_nI (Nat.lt_of_lt_of_le (show pp < 8 by omega) (by decide)) (by decide)) (nI_clamp (Nat.lt_of_lt_of_le (show pp < 8 by omega) (by decide))) dL_isPiece_806 ?_
        refine lv_bipush (v := 16) hx hb dL_isPiece_807 (by decide) ?_
        refine lv_idiv hx hb dL_isPiece_809 (by decide) ?_
        refine lv_iconst (v := 4) hx hb dL_isPiece_810 (by decide) ?_
        refine lv_irem hx hb dL_isPiece_811 (by decide) ?_
        refine lv_goto (tgt := 816) hx hb dL_isPiece_812 (by decide) ?_
        refine lv_istore (lv' := [(11, .int (((L 1 pp) / 16) - ((L 1 pp) / 16) / 4 * 4)), (10, .int (nI 3)), (9, .int 1), (8, .int (nI pp)), (0, .ref (Z.A 0 0)), (1, .ref (la 0)), (2, .ref (la 1)), (3, .ref (la 2)), (4, .ref (la 6)), (5, .int 5), (6, .int one), (7, .int two)]) hx hb dL_isPiece_816 hl (by decide) rfl (fun ls hl => ?_)
        refine lv_aload_n hx hb dL_isPiece_818 rfl (lv_at hl 6 rfl) ?_
        refine lv_iload hx hb dL_isPiece_819 (lv_at hl 2 rfl) ?_
        refine lv_if_eq (tgt := 835) hx hb dL_isPiece_821 (by decide) (fun h => absurd h (by decide)) (fun _ => ?_)
        refine lv_iload hx hb dL_isPiece_824 (lv_at hl 1 rfl) ?_
        refine lv_iconst (v := 3) hx hb dL_isPiece_826 (by decide) ?_
        refine lv_icmp_ge (tgt := 835) hx hb dL_isPiece_827 (by decide) (fun _ => ?_) (fun h9 => absurd (show (3 : Int32) ≤ nI 3 by decide) h9)
        refine lv_bipush (v := 8) hx hb dL_isPiece_835 (by decide) ?_
        refine lv_dup2_11 hx hb dL_isPiece_837 rfl rfl ?_
        refine gA (k := 1) (n := 9) (q := 8) hx hb hK hI (by decide) rfl (by unfold vp_in; decide) (by decide) dL_isPiece_838 ?_
        refine lv_bipush (v := 16) hx hb dL_isPiece_839 (by decide) ?_
        refine lv_iload hx hb dL_isPiece_841 (lv_at hl 1 rfl) ?_
        refine lv_iload hx hb dL_isPiece_843 (lv_at hl 0 rfl) ?_
        refine lv_isub hx hb dL_isPiece_845 ?_
        refine lv_imul hx hb dL_isPiece_846 ?_
        refine lv_iadd hx hb dL_isPiece_847 ?_
        obtain ⟨S4, eS4⟩ : ∃ z : LwS, z = lset L 1 8 ((L 1 8) + (16 * ((nI 3) - (((L 1 pp) / 16) - ((L 1 pp) / 16) / 4 * 4)))) := ⟨_, rfl⟩
        refine sA (k := 1) (n := 9) (q := 8) hx hb hK hI (by decide) rfl (by unfold vp_in; decide) (by decide) eS4 dL_isPiece_848 (fun H locs hI => ?_)
        refine lv_aload_n hx hb dL_isPiece_849 rfl (lv_at hl 4 rfl) ?_
        refine lv_bipush (v := 6) hx hb dL_isPiece_850 (by decide) ?_
        refine lv_iload hx hb dL_isPiece_852 (lv_at hl 3 rfl) ?_
        refine lv_iload hx hb dL_isPiece_854 (lv_at hl 1 rfl) ?_
        refine lv_iconst (v := 0) hx hb dL_isPiece_856 (by decide) ?_
        refine jx_callH (rest := []) (as := [.ref (Z.A 0 0), .int 6, .int (nI pp), .int (nI 3), .int 0]) hx hb hml hts hown hK hE Dj_xl hI (qD_open G hst Z S0 (nI pp) (nI 3) 0 hR.1.1.1) kw_does ⟨(Nat.le_of_ble_eq_true rfl), (Nat.le_of_ble_eq_true rfl)⟩ hl.1 (Nat.le_of_ble_eq_true rfl) dL_isPiece_857 ⟨(Nat.le_of_ble_eq_true rfl), (Nat.le_of_ble_eq_true rfl)⟩ (fun v w1 H locs hpE hI => ?_)
        obtain ⟨hv, Z99, S99, M99, hR9, hA9, hw9⟩ : FIN G.2.2.2 G.2.1 Z t S4 (-20000000) v w1 := by subst eS4; subst enp env; exact fi5b hR ht5 hp hpE
        subst hv
        subst hw9
        refine lv_iload hx hb dL_isPiece_860 (lv_at hl 2 rfl) ?_
        refine lv_if_ne (tgt := 870) hx hb dL_isPiece_862 (by decide) (fun _ => ?_) (fun h => absurd h (by decide))
        refine lv_iload hx hb dL_isPiece_870 (lv_at hl 1 rfl) ?_
        refine lv_iconst (v := 3) hx hb dL_isPiece_872 (by decide) ?_
        refine lv_icmp_ge (tgt := 881) hx hb dL_isPiece_873 (by decide) (fun _ => ?_) (fun h9 => absurd (show (3 : Int32) ≤ nI 3 by decide) h9)
        refine lv_ldc (v := -20000000) hx hb hown (hts _ q653) dL_isPiece_881 ?_
        have hm : (-20000000 : Int32) = -20000000 := rfl
        refine lv_icmp_ne (tgt := 890) hx hb dL_isPiece_883 (by decide) (fun h9 => absurd hm h9) (fun _ => ?_)
        refine lv_iconst (v := 1) hx hb dL_isPiece_886 (by decide) ?_
        refine lv_goto (tgt := 891) hx hb dL_isPiece_887 (by decide) ?_
        exact rt_z hx hb hr hlocks (by decide) hI hA hQ ⟨rfl, Z99, S99, M99, S4, hR9, hA9, rfl⟩ (Nat.le_of_ble_eq_true rfl) (Nat.le_of_ble_eq_true rfl) dL_isPiece_891
    refine lv_icmp_ne (tgt := 778) hx hb dL_isPiece_771 (by decide) (fun c5 => ?_) (fun c5 => ?_)
    · refine lv_iload hx hb dL_isPiece_778 (lv_at hl 9 rfl) ?_
      refine lv_iconst (v := 3) hx hb dL_isPiece_780 (by decide) ?_
      refine lv_irem hx hb dL_isPiece_781 (by decide) ?_
      refine lv_if_ne (tgt := 795) hx hb dL_isPiece_782 (by decide) (fun c6 => ?_) (fun c6 => ?_)
      · refine lv_iconst (v := 2) hx hb dL_isPiece_795 (by decide) ?_
        exact hJ2 2 (by exact ((if_neg c5).trans (if_neg c6)).symm)
      · refine lv_iload hx hb dL_isPiece_785 (lv_at hl 9 rfl) ?_
        refine lv_bipush (v := 9) hx hb dL_isPiece_787 (by decide) ?_
        refine lv_idiv hx hb dL_isPiece_789 (by decide) ?_
        refine lv_iconst (v := 3) hx hb dL_isPiece_790 (by decide) ?_
        refine lv_irem hx hb dL_isPiece_791 (by decide) ?_
        refine lv_goto (tgt := 796) hx hb dL_isPiece_792 (by decide) ?_
        exact hJ2 ((two / 9) - (two / 9) / 3 * 3) (by exact ((if_neg c5).trans (if_pos c6)).symm)
    · refine lv_iconst (v := 3) hx hb dL_isPiece_774 (by decide) ?_
      refine lv_goto (tgt := 796) hx hb dL_isPiece_775 (by decide) ?_
      exact hJ2 3 (by exact (if_pos c5).symm)
  · have epp : pp = np := by omega
    rw [epp]
    refine lv_istore (lv' := [(8, .int (nI np)), (0, .ref (Z.A 0 0)), (1, .ref (la 0)), (2, .ref (la 1)), (3, .ref (la 2)), (4, .ref (la 6)), (5, .int 5), (6, .int one), (7, .int two)]) hx hb dL_isPiece_403 hl (by decide) rfl (fun ls hl => ?_)
    refine lv_iload hx hb dL_isPiece_405 (lv_at hl 0 rfl) ?_
    refine lv_aload hx hb dL_isPiece_407 (lv_at hl 5 rfl) ?_
    refine lv_iconst (v := 3) hx hb dL_isPiece_409 (by decide) ?_
    refine gA (k := 6) (n := 5) (q := 3) hx hb hK hI (by decide) rfl (by unfold vp_in; decide) (by decide) dL_isPiece_410 ?_
    rw [h63]
    refine lv_icmp_ge (tgt := 418) hx hb dL_isPiece_411 (by decide) (fun _ => ?_) (fun h9 => absurd (nI_le (Nat.le_refl np) (by omega)) h9)
    refine lv_iconst (v := 0) hx hb dL_isPiece_418 (by decide) ?_
    refine lv_istore (lv' := [(9, .int 0), (8, .int (nI np)), (0, .ref (Z.A 0 0)), (1, .ref (la 0)), (2, .ref (la 1)), (3, .ref (la 2)), (4, .ref (la 6)), (5, .int 5), (6, .int one), (7, .int two)]) hx hb dL_isPiece_419 hl (by decide) rfl (fun ls hl => ?_)
    refine lv_iload hx hb dL_isPiece_421 (lv_at hl 7 rfl) ?_
    refine lv_iconst (v := 2) hx hb dL_isPiece_423 (by decide) ?_
    refine lv_icmp_ne (tgt := 493) hx hb dL_isPiece_424 (by decide) (fun _ => ?_) (fun h => absurd h (by decide))
    refine lv_iload hx hb dL_isPiece_493 (lv_at hl 7 rfl) ?_
    refine lv_iconst (v := 3) hx hb dL_isPiece_495 (by decide) ?_
    refine lv_icmp_ne (tgt := 686) hx hb dL_isPiece_496 (by decide) (fun _ => ?_) (fun h => absurd h (by decide))
    refine lv_iload hx hb dL_isPiece_686 (lv_at hl 7 rfl) ?_
    refine lv_iconst (v := 4) hx hb dL_isPiece_688 (by decide) ?_
    refine lv_icmp_ne (tgt := 758) hx hb dL_isPiece_689 (by decide) (fun _ => ?_) (fun h => absurd h (by decide))
    refine lv_iload hx hb dL_isPiece_758 (lv_at hl 7 rfl) ?_
    refine lv_iconst (v := 5) hx hb dL_isPiece_760 (by decide) ?_
    refine lv_icmp_ne (tgt := 892) hx hb dL_isPiece_761 (by decide) (fun h => absurd (by decide) h) (fun _ => ?_)
    refine lv_iload hx hb dL_isPiece_764 (lv_at hl 9 rfl) ?_
    refine lv_bipush (v := 9) hx hb dL_isPiece_766 (by decide) ?_
    refine lv_irem hx hb dL_isPiece_768 (by decide) ?_
    refine lv_bipush (v := 8) hx hb dL_isPiece_769 (by decide) ?_
    have hJ8 : ∀ (x7 : Int32), (x7 = if (two - two / 9 * 9) = 8 then 3 else (if (two - two / 3 * 3) = 0 then ((two / 9) - (two / 9) / 3 * 3) else 2)) → W p G.1 e ({ frames := 9, cells := 5, slots := 802, locals := 261 }) s m args below meth c H locs 0 0 Q (F0 m 796 ls [.int x7]) := by
      intro x7 ex7
      refine lv_istore (lv' := [(10, .int x7), (9, .int 0), (8, .int (nI np)), (0, .ref (Z.A 0 0)), (1, .ref (la 0)), (2, .ref (la 1)), (3, .ref (la 2)), (4, .ref (la 6)), (5, .int 5), (6, .int one), (7, .int two)]) hx hb dL_isPiece_796 hl (by decide) rfl (fun ls hl => ?_)
      refine lv_iload hx hb dL_isPiece_798 (lv_at hl 1 rfl) ?_
      refine lv_if_eq (tgt := 815) hx hb dL_isPiece_800 (by decide) (fun _ => ?_) (fun h => absurd h (by decide))
      refine lv_iconst (v := 0) hx hb dL_isPiece_815 (by decide) ?_
      refine lv_istore (lv' := [(11, .int 0), (10, .int x7), (9, .int 0), (8, .int (nI np)), (0, .ref (Z.A 0 0)), (1, .ref (la 0)), (2, .ref (la 1)), (3, .ref (la 2)), (4, .ref (la 6)), (5, .int 5), (6, .int one), (7, .int two)]) hx hb dL_isPiece_816 hl (by decide) rfl (fun ls hl => ?_)
      refine lv_aload_n hx hb dL_isPiece_818 rfl (lv_at hl 6 rfl) ?_
      refine lv_iload hx hb dL_isPiece_819 (lv_at hl 2 rfl) ?_
      refine lv_if_eq (tgt := 835) hx hb dL_isPiece_821 (by decide) (fun _ => ?_) (fun h => absurd h (by decide))
      refine lv_bipush (v := 8) hx hb dL_isPiece_835 (by decide) ?_
      refine lv_dup2_11 hx hb dL_isPiece_837 rfl rfl ?_
      refine gA (k := 1) (n := 9) (q := 8) hx hb hK hI (by decide) rfl (by unfold vp_in; decide) (by decide) dL_isPiece_838 ?_
      refine lv_bipush (v := 16) hx hb dL_isPiece_839 (by decide) ?_
      refine lv_iload hx hb dL_isPiece_841 (lv_at hl 1 rfl) ?_
      refine lv_iload hx hb dL_isPiece_843 (lv_at hl 0 rfl) ?_
      refine lv_isub hx hb dL_isPiece_845 ?_
      refine lv_imul hx hb dL_isPiece_846 ?_
      refine lv_iadd hx hb dL_isPiece_847 ?_
      obtain ⟨S9, eS9⟩ : ∃ z : LwS, z = lset L 1 8 ((L 1 8) + (16 * (x7 - 0))) := ⟨_, rfl⟩
      refine sA (k := 1) (n := 9) (q := 8) hx hb hK hI (by decide) rfl (by unfold vp_in; decide) (by decide) eS9 dL_isPiece_848 (fun H locs hI => ?_)
      refine lv_aload_n hx hb dL_isPiece_849 rfl (lv_at hl 4 rfl) ?_
      refine lv_bipush (v := 6) hx hb dL_isPiece_850 (by decide) ?_
      refine lv_iload hx hb dL_isPiece_852 (lv_at hl 3 rfl) ?_
      refine lv_iload hx hb dL_isPiece_854 (lv_at hl 1 rfl) ?_
      refine lv_iconst (v := 0) hx hb dL_isPiece_856 (by decide) ?_
      refine jx_callH (rest := []) (as := [.ref (Z.A 0 0), .int 6, .int (nI np), .int x7, .int 0]) hx hb hml hts hown hK hE Dj_xl hI (qD_open G hst Z S0 (nI np) x7 0 hR.1.1.1) kw_does ⟨(Nat.le_of_ble_eq_true rfl), (Nat.le_of_ble_eq_true rfl)⟩ hl.1 (Nat.le_of_ble_eq_true rfl) dL_isPiece_857 ⟨(Nat.le_of_ble_eq_true rfl), (Nat.le_of_ble_eq_true rfl)⟩ (fun v w1 H locs hpE hI => ?_)
      obtain ⟨hv, Z99, S99, M99, hR9, hA9, hw9⟩ : FIN G.2.2.2 G.2.1 Z t S9 (-30000000) v w1 := by subst eS9 ex7; subst enp env; exact fi5c hR ht5 hpE
      subst hv
      subst hw9
      refine lv_iload hx hb dL_isPiece_860 (lv_at hl 2 rfl) ?_
      refine lv_if_ne (tgt := 870) hx hb dL_isPiece_862 (by decide) (fun h => absurd h (by decide)) (fun _ => ?_)
      refine lv_ldc (v := -30000000) hx hb hown (hts _ q652) dL_isPiece_865 ?_
      refine lv_goto (tgt := 883) hx hb dL_isPiece_867 (by decide) ?_
      have hm : (-30000000 : Int32) = -30000000 := rfl
      refine lv_icmp_ne (tgt := 890) hx hb dL_isPiece_883 (by decide) (fun h9 => absurd hm h9) (fun _ => ?_)
      refine lv_iconst (v := 1) hx hb dL_isPiece_886 (by decide) ?_
      refine lv_goto (tgt := 891) hx hb dL_isPiece_887 (by decide) ?_
      exact rt_z hx hb hr hlocks (by decide) hI hA hQ ⟨rfl, Z99, S99, M99, S9, hR9, hA9, rfl⟩ (Nat.le_of_ble_eq_true rfl) (Nat.le_of_ble_eq_true rfl) dL_isPiece_891
    refine lv_icmp_ne (tgt := 778) hx hb dL_isPiece_771 (by decide) (fun c10 => ?_) (fun c10 => ?_)
    · refine lv_iload hx hb dL_isPiece_778 (lv_at hl 9 rfl) ?_
      refine lv_iconst (v := 3) hx hb dL_isPiece_780 (by decide) ?_
      refine lv_irem hx hb dL_isPiece_781 (by decide) ?_
      refine lv_if_ne (tgt := 795) hx hb dL_isPiece_782 (by decide) (fun c11 => ?_) (fun c11 => ?_)
      · refine lv_iconst (v := 2) hx hb dL_isPiece_795 (by decide) ?_
        exact hJ8 2 (by exact ((if_neg c10).trans (if_neg c11)).symm)
      · refine lv_iload hx hb dL_isPiece_785 (lv_at hl 9 rfl) ?_
        refine lv_bipush (v := 9) hx hb dL_isPiece_787 (by decide) ?_
        refine lv_idiv hx hb dL_isPiece_789 (by decide) ?_
        refine lv_iconst (v := 3) hx hb dL_isPiece_790 (by decide) ?_
        refine lv_irem hx hb dL_isPiece_791 (by decide) ?_
        refine lv_goto (tgt := 796) hx hb dL_isPiece_792 (by decide) ?_
        exact hJ8 ((two / 9) - (two / 9) / 3 * 3) (by exact ((if_neg c10).trans (if_pos c11)).symm)
    · refine lv_iconst (v := 3) hx hb dL_isPiece_774 (by decide) ?_
      refine lv_goto (tgt := 796) hx hb dL_isPiece_775 (by decide) ?_
      exact hJ8 3 (by exact (if_pos c10).symm)
set_option maxHeartbeats 4000000 in
set_option maxRecDepth 100000 in
theorem qP_6 (G : GX) (hst : G.1.stackTraces = false) {Z : XZ} {S0 : XS} {M : MS} {L : LwS} {t : Nat} {la : Nat → Nat} (hR : RR Z S0 M L t) (ht : t ≤ 100) (one two : Int32) (h1 : nB one 60000) (h2 : nB two 60000) : FC G yL_isPiece cL_isPiece 13 (some .boolean) { frames := 9, cells := 5, slots := 802, locals := 261 } [.ref (Z.A 0 0), .ref (la 0), .ref (la 1), .ref (la 2), .ref (la 6), .int 6, .int one, .int two] (jn (xW G.2.2.2 G.2.1 Z S0) (lW G.2.2.2 la L)) (poR G.2.2.2 G.2.1 (Z.A 0 0) la t) := by
  refine FC.go (lv := [(0, .ref (Z.A 0 0)), (1, .ref (la 0)), (2, .ref (la 1)), (3, .ref (la 2)), (4, .ref (la 6)), (5, .int 6), (6, .int one), (7, .int two)]) (by decide) (Nat.le_of_ble_eq_true rfl) rfl (fun p e s m args below meth c A H locs ls Q hx hb hr hts hown hml hlocks hnm hK hE hI hA hl hQ => ?_)
  have hown : s.vm.findClass "IcehighwayLaw" = some m.cls := hown
  obtain ⟨np, enp⟩ : ∃ x : Nat, x = Z.N 0 := ⟨_, rfl⟩
  obtain ⟨nv, env⟩ : ∃ x : Nat, x = Z.N 1 := ⟨_, rfl⟩
  have h63 : L 6 3 = nI np := by rw [enp]; exact hR.l.g.2.2.2.1
  have h64 : L 6 4 = nI nv := by rw [env]; exact hR.l.g.2.2.2.2
  have hnp : np ≤ 8 := by rw [enp]; exact hR.np
  have hnv : nv ≤ 8 := by rw [env]; exact hR.nv
  have ht5 : t < 512 := by omega
  refine lv_iload hx hb dL_isPiece_0 (lv_at hl 5 rfl) ?_
  refine lv_if_ne (tgt := 270) hx hb dL_isPiece_2 (by decide) (fun _ => ?_) (fun h => absurd h (by decide))
  refine lv_iload hx hb dL_isPiece_270 (lv_at hl 5 rfl) ?_
  refine lv_iconst (v := 2) hx hb dL_isPiece_272 (by decide) ?_
  refine lv_icmp_ge (tgt := 394) hx hb dL_isPiece_273 (by decide) (fun _ => ?_) (fun h => absurd (by decide) h)
  refine lv_iload hx hb dL_isPiece_394 (lv_at hl 6 rfl) ?_
  refine lv_aload hx hb dL_isPiece_396 (lv_at hl 4 rfl) ?_
  refine lv_iconst (v := 3) hx hb dL_isPiece_398 (by decide) ?_
  refine gA (k := 6) (n := 5) (q := 3) hx hb hK hI (by decide) rfl (by unfold vp_in; decide) (by decide) dL_isPiece_399 ?_
  rw [h63]
  refine lv_iconst (v := 1) hx hb dL_isPiece_400 (by decide) ?_
  refine lv_iadd hx hb dL_isPiece_401 ?_
  refine lv_irem hx hb dL_isPiece_402 (ix_ne (n := np) rfl (by omega)) ?_
  obtain ⟨pp, hpp, hle⟩ := ix_1 (g := nI np) (n := np) h1 (by decide) rfl (by omega)
  rw [hpp]
  rcases Nat.lt_or_ge pp np with hp | hp
  · skip
    refine lv_istore (lv' := [(8, .int (nI pp)), (0, .ref (Z.A 0 0)), (1, .ref (la 0)), (2, .ref (la 1)), (3, .ref (la 2)), (4, .ref (la 6)), (5, .int 6), (6, .int one), (7, .int two)]) hx hb dL_isPiece_403 hl (by decide) rfl (fun ls hl => ?_)
    refine lv_iload hx hb dL_isPiece_405 (lv_at hl 0 rfl) ?_
    refine lv_aload hx hb dL_isPiece_407 (lv_at hl 5 rfl) ?_
    refine lv_iconst (v := 3) hx hb dL_isPiece_409 (by decide) ?_
    refine gA (k := 6) (n := 5) (q := 3) hx hb hK hI (by decide) rfl (by unfold vp_in; decide) (by decide) dL_isPiece_410 ?_
    rw [h63]
    refine lv_icmp_ge (tgt := 418) hx hb dL_isPiece_411 (by decide) (fun h9 => absurd h9 (show ¬ nI np ≤ nI pp from fun z => absurd ((nI_leI (by omega) (by omega)).mp z) (by omega))) (fun _ => ?_)
    refine lv_iconst (v := 1) hx hb dL_isPiece_414 (by decide) ?_
    refine lv_goto (tgt := 419) hx hb dL_isPiece_415 (by decide) ?_
    refine lv_istore (lv' := [(9, .int 1), (8, .int (nI pp)), (0, .ref (Z.A 0 0)), (1, .ref (la 0)), (2, .ref (la 1)), (3, .ref (la 2)), (4, .ref (la 6)), (5, .int 6), (6, .int one), (7, .int two)]) hx hb dL_isPiece_419 hl (by decide) rfl (fun ls hl => ?_)
    refine lv_iload hx hb dL_isPiece_421 (lv_at hl 7 rfl) ?_
    refine lv_iconst (v := 2) hx hb dL_isPiece_423 (by decide) ?_
    refine lv_icmp_ne (tgt := 493) hx hb dL_isPiece_424 (by decide) (fun _ => ?_) (fun h => absurd h (by decide))
    refine lv_iload hx hb dL_isPiece_493 (lv_at hl 7 rfl) ?_
    refine lv_iconst (v := 3) hx hb dL_isPiece_495 (by decide) ?_
    refine lv_icmp_ne (tgt := 686) hx hb dL_isPiece_496 (by decide) (fun _ => ?_) (fun h => absurd h (by decide))
    refine lv_iload hx hb dL_isPiece_686 (lv_at hl 7 rfl) ?_
    refine lv_iconst (v := 4) hx hb dL_isPiece_688 (by decide) ?_
    refine lv_icmp_ne (tgt := 758) hx hb dL_isPiece_689 (by decide) (fun _ => ?_) (fun h => absurd h (by decide))
    refine lv_iload hx hb dL_isPiece_758 (lv_at hl 7 rfl) ?_
    refine lv_iconst (v := 5) hx hb dL_isPiece_760 (by decide) ?_
    refine lv_icmp_ne (tgt := 892) hx hb dL_isPiece_761 (by decide) (fun _ => ?_) (fun h => absurd h (by decide))
    refine lv_iload hx hb dL_isPiece_892 (lv_at hl 9 rfl) ?_
    refine lv_bipush (v := 9) hx hb dL_isPiece_894 (by decide) ?_
    refine lv_irem hx hb dL_isPiece_896 (by decide) ?_
    have hJ2 : ∀ (x1 : Int32), (x1 = if (two - two / 9 * 9) = 0 then (two - two / 302 * 302) else (10 + (two - two / 120 * 120))) → W p G.1 e ({ frames := 9, cells := 5, slots := 802, locals := 261 }) s m args below meth c H locs 0 0 Q (F0 m 917 ls [.int x1]) := by
      intro x1 ex1
      refine lv_istore (lv' := [(10, .int x1), (9, .int 1), (8, .int (nI pp)), (0, .ref (Z.A 0 0)), (1, .ref (la 0)), (2, .ref (la 1)), (3, .ref (la 2)), (4, .ref (la 6)), (5, .int 6), (6, .int one), (7, .int two)]) hx hb dL_isPiece_917 hl (by decide) rfl (fun ls hl => ?_)
      refine lv_iload hx hb dL_isPiece_919 (lv_at hl 0 rfl) ?_
      have hJ3 : W p G.1 e ({ frames := 9, cells := 5, slots := 802, locals := 261 }) s m args below meth c H locs 0 0 Q (F0 m 937 ls [.int (bI ((¬ (x1 ≤ 0)) ∧ (¬ (301 ≤ x1))))]) := by
        by_cases hb11 : (¬ (x1 ≤ 0)) ∧ (¬ (301 ≤ x1))
        · rw [bI_t hb11]
          refine lv_istore (lv' := [(11, .int 1), (10, .int x1), (9, .int 1), (8, .int (nI pp)), (0, .ref (Z.A 0 0)), (1, .ref (la 0)), (2, .ref (la 1)), (3, .ref (la 2)), (4, .ref (la 6)), (5, .int 6), (6, .int one), (7, .int two)]) hx hb dL_isPiece_937 hl (by decide) rfl (fun ls hl => ?_)
          refine lv_iload hx hb dL_isPiece_939 (lv_at hl 2 rfl) ?_
          refine lv_if_eq (tgt := 954) hx hb dL_isPiece_941 (by decide) (fun h => absurd h (by decide)) (fun _ => ?_)
          refine lv_aload_n hx hb dL_isPiece_944 rfl (lv_at hl 6 rfl) ?_
          refine lv_iload hx hb dL_isPiece_945 (lv_at hl 3 rfl) ?_
          refine gA (k := 1) (n := 9) (q := pp) hx hb hK hI (by decide) rfl (vp_in_nI (Nat.lt_of_lt_of_le (show pp < 8 by omega) (by decide)) (by decide)) (nI_clamp (Nat.lt_of_lt_of_le (show pp < 8 by omega) (by decide))) dL_isPiece_947 ?_
          refine lv_bipush (v := 64) hx hb dL_isPiece_948 (by decide) ?_
          refine lv_idiv hx hb dL_isPiece_950 (by decide) ?_
          refine lv_goto (tgt := 955) hx hb dL_isPiece_951 (by decide) ?_
          refine lv_istore (lv' := [(12, .int ((L 1 pp) / 64)), (11, .int 1), (10, .int x1), (9, .int 1), (8, .int (nI pp)), (0, .ref (Z.A 0 0)), (1, .ref (la 0)), (2, .ref (la 1)), (3, .ref (la 2)), (4, .ref (la 6)), (5, .int 6), (6, .int one), (7, .int two)]) hx hb dL_isPiece_955 hl (by decide) rfl (fun ls hl => ?_)
          refine lv_aload_n hx hb dL_isPiece_957 rfl (lv_at hl 7 rfl) ?_
          refine lv_iload hx hb dL_isPiece_958 (lv_at hl 3 rfl) ?_
          refine lv_if_eq (tgt := 973) hx hb dL_isPiece_960 (by decide) (fun h => absurd h (by decide)) (fun _ => ?_)
          refine lv_iload hx hb dL_isPiece_963 (lv_at hl 1 rfl) ?_
          refine lv_if_eq (tgt := 973) hx hb dL_isPiece_965 (by decide) (fun h => absurd h (by decide)) (fun _ => ?_)
          refine lv_iload hx hb dL_isPiece_968 (lv_at hl 4 rfl) ?_
          refine lv_goto (tgt := 975) hx hb dL_isPiece_970 (by decide) ?_
          refine lv_dup2_11 hx hb dL_isPiece_975 rfl rfl ?_
          refine gA (k := 1) (n := 9) (q := pp) hx hb hK hI (by decide) rfl (vp_in_nI (Nat.lt_of_lt_of_le (show pp < 8 by omega) (by decide)) (by decide)) (nI_clamp (Nat.lt_of_lt_of_le (show pp < 8 by omega) (by decide))) dL_isPiece_976 ?_
          refine lv_bipush (v := 64) hx hb dL_isPiece_977 (by decide) ?_
          refine lv_iload hx hb dL_isPiece_979 (lv_at hl 2 rfl) ?_
          refine lv_iload hx hb dL_isPiece_981 (lv_at hl 0 rfl) ?_
          refine lv_isub hx hb dL_isPiece_983 ?_
          refine lv_imul hx hb dL_isPiece_984 ?_
          refine lv_iadd hx hb dL_isPiece_985 ?_
          obtain ⟨S4, eS4⟩ : ∃ z : LwS, z = lset L 1 pp ((L 1 pp) + (64 * (x1 - ((L 1 pp) / 64)))) := ⟨_, rfl⟩
          refine sA (k := 1) (n := 9) (q := pp) hx hb hK hI (by decide) rfl (vp_in_nI (Nat.lt_of_lt_of_le (show pp < 8 by omega) (by decide)) (by decide)) (nI_clamp (Nat.lt_of_lt_of_le (show pp < 8 by omega) (by decide))) eS4 dL_isPiece_986 (fun H locs hI => ?_)
          refine lv_aload_n hx hb dL_isPiece_987 rfl (lv_at hl 5 rfl) ?_
          refine lv_bipush (v := 7) hx hb dL_isPiece_988 (by decide) ?_
          refine lv_iload hx hb dL_isPiece_990 (lv_at hl 4 rfl) ?_
          refine lv_iload hx hb dL_isPiece_992 (lv_at hl 2 rfl) ?_
          refine lv_iconst (v := 0) hx hb dL_isPiece_994 (by decide) ?_
          refine jx_callH (rest := []) (as := [.ref (Z.A 0 0), .int 7, .int (nI pp), .int x1, .int 0]) hx hb hml hts hown hK hE Dj_xl hI (qD_limit G hst Z S0 (nI pp) x1 0 hR.1.1.1) kw_does ⟨(Nat.le_of_ble_eq_true rfl), (Nat.le_of_ble_eq_true rfl)⟩ hl.1 (Nat.le_of_ble_eq_true rfl) dL_isPiece_995 ⟨(Nat.le_of_ble_eq_true rfl), (Nat.le_of_ble_eq_true rfl)⟩ (fun v w1 H locs hpE hI => ?_)
          obtain ⟨hv, Z99, S99, M99, hR9, hA9, hw9⟩ : FIN G.2.2.2 G.2.1 Z t S4 ((L 1 pp) / 64) v w1 := by subst eS4 ex1; subst enp env; exact fi6a hR ht5 hp ⟨by have := (i_le (n := 0) (by decide)).mp hb11.1; omega, by have := (i_ge (n := 301) (by decide)).mp hb11.2; omega⟩ hpE
          subst hv
          subst hw9
          refine lv_iload hx hb dL_isPiece_998 (lv_at hl 3 rfl) ?_
          refine lv_if_ne (tgt := 1008) hx hb dL_isPiece_1000 (by decide) (fun _ => ?_) (fun h => absurd h (by decide))
          refine lv_iload hx hb dL_isPiece_1008 (lv_at hl 1 rfl) ?_
          refine lv_if_eq (tgt := 1018) hx hb dL_isPiece_1010 (by decide) (fun h => absurd h (by decide)) (fun _ => ?_)
          refine lv_iload hx hb dL_isPiece_1013 (lv_at hl 0 rfl) ?_
          refine lv_goto (tgt := 1020) hx hb dL_isPiece_1015 (by decide) ?_
          have hm : ((L 1 pp) / 64 : Int32) = (L 1 pp) / 64 := rfl
          refine lv_icmp_ne (tgt := 1027) hx hb dL_isPiece_1020 (by decide) (fun h9 => absurd hm h9) (fun _ => ?_)
          refine lv_iconst (v := 1) hx hb dL_isPiece_1023 (by decide) ?_
          refine lv_goto (tgt := 1028) hx hb dL_isPiece_1024 (by decide) ?_
          exact rt_z hx hb hr hlocks (by decide) hI hA hQ ⟨rfl, Z99, S99, M99, S4, hR9, hA9, rfl⟩ (Nat.le_of_ble_eq_true rfl) (Nat.le_of_ble_eq_true rfl) dL_isPiece_1028
        · rw [bI_f hb11]
          refine lv_istore (lv' := [(11, .int 0), (10, .int x1), (9, .int 1), (8, .int (nI pp)), (0, .ref (Z.A 0 0)), (1, .ref (la 0)), (2, .ref (la 1)), (3, .ref (la 2)), (4, .ref (la 6)), (5, .int 6), (6, .int one), (7, .int two)]) hx hb dL_isPiece_937 hl (by decide) rfl (fun ls hl => ?_)
          refine lv_iload hx hb dL_isPiece_939 (lv_at hl 2 rfl) ?_
          refine lv_if_eq (tgt := 954) hx hb dL_isPiece_941 (by decide) (fun h => absurd h (by decide)) (fun _ => ?_)
          refine lv_aload_n hx hb dL_isPiece_944 rfl (lv_at hl 6 rfl) ?_
          refine lv_iload hx hb dL_isPiece_945 (lv_at hl 3 rfl) ?_
          refine gA (k := 1) (n := 9) (q := pp) hx hb hK hI (by decide) rfl (vp_in_nI (Nat.lt_of_lt_of_le (show pp < 8 by omega) (by decide)) (by decide)) (nI_clamp (Nat.lt_of_lt_of_le (show pp < 8 by omega) (by decide))) dL_isPiece_947 ?_
          refine lv_bipush (v := 64) hx hb dL_isPiece_948 (by decide) ?_
          refine lv_idiv hx hb dL_isPiece_950 (by decide) ?_
          refine lv_goto (tgt := 955) hx hb dL_isPiece_951 (by decide) ?_
          refine lv_istore (lv' := [(12, .int ((L 1 pp) / 64)), (11, .int 0), (10, .int x1), (9, .int 1), (8, .int (nI pp)), (0, .ref (Z.A 0 0)), (1, .ref (la 0)), (2, .ref (la 1)), (3, .ref (la 2)), (4, .ref (la 6)), (5, .int 6), (6, .int one), (7, .int two)]) hx hb dL_isPiece_955 hl (by decide) rfl (fun ls hl => ?_)
          refine lv_aload_n hx hb dL_isPiece_957 rfl (lv_at hl 7 rfl) ?_
          refine lv_iload hx hb dL_isPiece_958 (lv_at hl 3 rfl) ?_
          refine lv_if_eq (tgt := 973) hx hb dL_isPiece_960 (by decide) (fun h => absurd h (by decide)) (fun _ => ?_)
          refine lv_iload hx hb dL_isPiece_963 (lv_at hl 1 rfl) ?_
          refine lv_if_eq (tgt := 973) hx hb dL_isPiece_965 (by decide) (fun _ => ?_) (fun h => absurd h (by decide))
          refine lv_bipush (v := 8) hx hb dL_isPiece_973 (by decide) ?_
          refine lv_dup2_11 hx hb dL_isPiece_975 rfl rfl ?_
          refine gA (k := 1) (n := 9) (q := 8) hx hb hK hI (by decide) rfl (by unfold vp_in; decide) (by decide) dL_isPiece_976 ?_
          refine lv_bipush (v := 64) hx hb dL_isPiece_977 (by decide) ?_
          refine lv_iload hx hb dL_isPiece_979 (lv_at hl 2 rfl) ?_
          refine lv_iload hx hb dL_isPiece_981 (lv_at hl 0 rfl) ?_
          refine lv_isub hx hb dL_isPiece_983 ?_
          refine lv_imul hx hb dL_isPiece_984 ?_
          refine lv_iadd hx hb dL_isPiece_985 ?_
          obtain ⟨S5, eS5⟩ : ∃ z : LwS, z = lset L 1 8 ((L 1 8) + (64 * (x1 - ((L 1 pp) / 64)))) := ⟨_, rfl⟩
          refine sA (k := 1) (n := 9) (q := 8) hx hb hK hI (by decide) rfl (by unfold vp_in; decide) (by decide) eS5 dL_isPiece_986 (fun H locs hI => ?_)
          refine lv_aload_n hx hb dL_isPiece_987 rfl (lv_at hl 5 rfl) ?_
          refine lv_bipush (v := 7) hx hb dL_isPiece_988 (by decide) ?_
          refine lv_iload hx hb dL_isPiece_990 (lv_at hl 4 rfl) ?_
          refine lv_iload hx hb dL_isPiece_992 (lv_at hl 2 rfl) ?_
          refine lv_iconst (v := 0) hx hb dL_isPiece_994 (by decide) ?_
          refine jx_callH (rest := []) (as := [.ref (Z.A 0 0), .int 7, .int (nI pp), .int x1, .int 0]) hx hb hml hts hown hK hE Dj_xl hI (qD_limit G hst Z S0 (nI pp) x1 0 hR.1.1.1) kw_does ⟨(Nat.le_of_ble_eq_true rfl), (Nat.le_of_ble_eq_true rfl)⟩ hl.1 (Nat.le_of_ble_eq_true rfl) dL_isPiece_995 ⟨(Nat.le_of_ble_eq_true rfl), (Nat.le_of_ble_eq_true rfl)⟩ (fun v w1 H locs hpE hI => ?_)
          obtain ⟨hv, Z99, S99, M99, hR9, hA9, hw9⟩ : FIN G.2.2.2 G.2.1 Z t S5 (-20000000) v w1 := by subst eS5 ex1; subst enp env; exact fi6b hR ht5 hp (fun z => hb11 ⟨(i_le (n := 0) (by decide)).mpr (by omega), (i_ge (n := 301) (by decide)).mpr (by omega)⟩) hpE
          subst hv
          subst hw9
          refine lv_iload hx hb dL_isPiece_998 (lv_at hl 3 rfl) ?_
          refine lv_if_ne (tgt := 1008) hx hb dL_isPiece_1000 (by decide) (fun _ => ?_) (fun h => absurd h (by decide))
          refine lv_iload hx hb dL_isPiece_1008 (lv_at hl 1 rfl) ?_
          refine lv_if_eq (tgt := 1018) hx hb dL_isPiece_1010 (by decide) (fun _ => ?_) (fun h => absurd h (by decide))
          refine lv_ldc (v := -20000000) hx hb hown (hts _ q653) dL_isPiece_1018 ?_
          have hm : (-20000000 : Int32) = -20000000 := rfl
          refine lv_icmp_ne (tgt := 1027) hx hb dL_isPiece_1020 (by decide) (fun h9 => absurd hm h9) (fun _ => ?_)
          refine lv_iconst (v := 1) hx hb dL_isPiece_1023 (by decide) ?_
          refine lv_goto (tgt := 1028) hx hb dL_isPiece_1024 (by decide) ?_
          exact rt_z hx hb hr hlocks (by decide) hI hA hQ ⟨rfl, Z99, S99, M99, S5, hR9, hA9, rfl⟩ (Nat.le_of_ble_eq_true rfl) (Nat.le_of_ble_eq_true rfl) dL_isPiece_1028
      refine lv_if_le (tgt := 936) hx hb dL_isPiece_921 (by decide) (fun c6 => ?_) (fun c6 => ?_)
      · refine lv_iconst (v := 0) hx hb dL_isPiece_936 (by decide) ?_
        have eb7 : (0 : Int32) = bI ((¬ (x1 ≤ 0)) ∧ (¬ (301 ≤ x1))) := (bI_f (fun k => k.1 c6)).symm
        rw [eb7]
        exact hJ3
      · refine lv_iload hx hb dL_isPiece_924 (lv_at hl 0 rfl) ?_
        refine lv_sipush (v := 301) hx hb dL_isPiece_926 (by decide) ?_
        refine lv_icmp_ge (tgt := 936) hx hb dL_isPiece_929 (by decide) (fun c8 => ?_) (fun c8 => ?_)
        · refine lv_iconst (v := 0) hx hb dL_isPiece_936 (by decide) ?_
          have eb9 : (0 : Int32) = bI ((¬ (x1 ≤ 0)) ∧ (¬ (301 ≤ x1))) := (bI_f (fun k => (fun k => k c8) k.2)).symm
          rw [eb9]
          exact hJ3
        · refine lv_iconst (v := 1) hx hb dL_isPiece_932 (by decide) ?_
          refine lv_goto (tgt := 937) hx hb dL_isPiece_933 (by decide) ?_
          have eb10 : (1 : Int32) = bI ((¬ (x1 ≤ 0)) ∧ (¬ (301 ≤ x1))) := (bI_t ⟨c6, c8⟩).symm
          rw [eb10]
          exact hJ3
    refine lv_if_ne (tgt := 909) hx hb dL_isPiece_897 (by decide) (fun c11 => ?_) (fun c11 => ?_)
    · refine lv_bipush (v := 10) hx hb dL_isPiece_909 (by decide) ?_
      refine lv_iload hx hb dL_isPiece_911 (lv_at hl 9 rfl) ?_
      refine lv_bipush (v := 120) hx hb dL_isPiece_913 (by decide) ?_
      refine lv_irem hx hb dL_isPiece_915 (by decide) ?_
      refine lv_iadd hx hb dL_isPiece_916 ?_
      exact hJ2 (10 + (two - two / 120 * 120)) (by exact (if_neg c11).symm)
    · refine lv_iload hx hb dL_isPiece_900 (lv_at hl 9 rfl) ?_
      refine lv_sipush (v := 302) hx hb dL_isPiece_902 (by decide) ?_
      refine lv_irem hx hb dL_isPiece_905 (by decide) ?_
      refine lv_goto (tgt := 917) hx hb dL_isPiece_906 (by decide) ?_
      exact hJ2 (two - two / 302 * 302) (by exact (if_pos c11).symm)
  · have epp : pp = np := by omega
    rw [epp]
    refine lv_istore (lv' := [(8, .int (nI np)), (0, .ref (Z.A 0 0)), (1, .ref (la 0)), (2, .ref (la 1)), (3, .ref (la 2)), (4, .ref (la 6)), (5, .int 6), (6, .int one), (7, .int two)]) hx hb dL_isPiece_403 hl (by decide) rfl (fun ls hl => ?_)
    refine lv_iload hx hb dL_isPiece_405 (lv_at hl 0 rfl) ?_
    refine lv_aload hx hb dL_isPiece_407 (lv_at hl 5 rfl) ?_
    refine lv_iconst (v := 3) hx hb dL_isPiece_409 (by decide) ?_
    refine gA (k := 6) (n := 5) (q := 3) hx hb hK hI (by decide) rfl (by unfold vp_in; decide) (by decide) dL_isPiece_410 ?_
    rw [h63]
    refine lv_icmp_ge (tgt := 418) hx hb dL_isPiece_411 (by decide) (fun _ => ?_) (fun h9 => absurd (nI_le (Nat.le_refl np) (by omega)) h9)
    refine lv_iconst (v := 0) hx hb dL_isPiece_418 (by decide) ?_
    refine lv_istore (lv' := [(9, .int 0), (8, .int (nI np)), (0, .ref (Z.A 0 0)), (1, .ref (la 0)), (2, .ref (la 1)), (3, .ref (la 2)), (4, .ref (la 6)), (5, .int 6), (6, .int one), (7, .int two)]) hx hb dL_isPiece_419 hl (by decide) rfl (fun ls hl => ?_)
    refine lv_iload hx hb dL_isPiece_421 (lv_at hl 7 rfl) ?_
    refine lv_iconst (v := 2) hx hb dL_isPiece_423 (by decide) ?_
    refine lv_icmp_ne (tgt := 493) hx hb dL_isPiece_424 (by decide) (fun _ => ?_) (fun h => absurd h (by decide))
    refine lv_iload hx hb dL_isPiece_493 (lv_at hl 7 rfl) ?_
    refine lv_iconst (v := 3) hx hb dL_isPiece_495 (by decide) ?_
    refine lv_icmp_ne (tgt := 686) hx hb dL_isPiece_496 (by decide) (fun _ => ?_) (fun h => absurd h (by decide))
    refine lv_iload hx hb dL_isPiece_686 (lv_at hl 7 rfl) ?_
    refine lv_iconst (v := 4) hx hb dL_isPiece_688 (by decide) ?_
    refine lv_icmp_ne (tgt := 758) hx hb dL_isPiece_689 (by decide) (fun _ => ?_) (fun h => absurd h (by decide))
    refine lv_iload hx hb dL_isPiece_758 (lv_at hl 7 rfl) ?_
    refine lv_iconst (v := 5) hx hb dL_isPiece_760 (by decide) ?_
    refine lv_icmp_ne (tgt := 892) hx hb dL_isPiece_761 (by decide) (fun _ => ?_) (fun h => absurd h (by decide))
    refine lv_iload hx hb dL_isPiece_892 (lv_at hl 9 rfl) ?_
    refine lv_bipush (v := 9) hx hb dL_isPiece_894 (by decide) ?_
    refine lv_irem hx hb dL_isPiece_896 (by decide) ?_
    have hJ13 : ∀ (x12 : Int32), (x12 = if (two - two / 9 * 9) = 0 then (two - two / 302 * 302) else (10 + (two - two / 120 * 120))) → W p G.1 e ({ frames := 9, cells := 5, slots := 802, locals := 261 }) s m args below meth c H locs 0 0 Q (F0 m 917 ls [.int x12]) := by
      intro x12 ex12
      refine lv_istore (lv' := [(10, .int x12), (9, .int 0), (8, .int (nI np)), (0, .ref (Z.A 0 0)), (1, .ref (la 0)), (2, .ref (la 1)), (3, .ref (la 2)), (4, .ref (la 6)), (5, .int 6), (6, .int one), (7, .int two)]) hx hb dL_isPiece_917 hl (by decide) rfl (fun ls hl => ?_)
      refine lv_iload hx hb dL_isPiece_919 (lv_at hl 0 rfl) ?_
      have hJ14 : W p G.1 e ({ frames := 9, cells := 5, slots := 802, locals := 261 }) s m args below meth c H locs 0 0 Q (F0 m 937 ls [.int (bI ((¬ (x12 ≤ 0)) ∧ (¬ (301 ≤ x12))))]) := by
        by_cases hb11 : (¬ (x12 ≤ 0)) ∧ (¬ (301 ≤ x12))
        · rw [bI_t hb11]
          refine lv_istore (lv' := [(11, .int 1), (10, .int x12), (9, .int 0), (8, .int (nI np)), (0, .ref (Z.A 0 0)), (1, .ref (la 0)), (2, .ref (la 1)), (3, .ref (la 2)), (4, .ref (la 6)), (5, .int 6), (6, .int one), (7, .int two)]) hx hb dL_isPiece_937 hl (by decide) rfl (fun ls hl => ?_)
          refine lv_iload hx hb dL_isPiece_939 (lv_at hl 2 rfl) ?_
          refine lv_if_eq (tgt := 954) hx hb dL_isPiece_941 (by decide) (fun _ => ?_) (fun h => absurd h (by decide))
          refine lv_iconst (v := 0) hx hb dL_isPiece_954 (by decide) ?_
          refine lv_istore (lv' := [(12, .int 0), (11, .int 1), (10, .int x12), (9, .int 0), (8, .int (nI np)), (0, .ref (Z.A 0 0)), (1, .ref (la 0)), (2, .ref (la 1)), (3, .ref (la 2)), (4, .ref (la 6)), (5, .int 6), (6, .int one), (7, .int two)]) hx hb dL_isPiece_955 hl (by decide) rfl (fun ls hl => ?_)
          refine lv_aload_n hx hb dL_isPiece_957 rfl (lv_at hl 7 rfl) ?_
          refine lv_iload hx hb dL_isPiece_958 (lv_at hl 3 rfl) ?_
          refine lv_if_eq (tgt := 973) hx hb dL_isPiece_960 (by decide) (fun _ => ?_) (fun h => absurd h (by decide))
          refine lv_bipush (v := 8) hx hb dL_isPiece_973 (by decide) ?_
          refine lv_dup2_11 hx hb dL_isPiece_975 rfl rfl ?_
          refine gA (k := 1) (n := 9) (q := 8) hx hb hK hI (by decide) rfl (by unfold vp_in; decide) (by decide) dL_isPiece_976 ?_
          refine lv_bipush (v := 64) hx hb dL_isPiece_977 (by decide) ?_
          refine lv_iload hx hb dL_isPiece_979 (lv_at hl 2 rfl) ?_
          refine lv_iload hx hb dL_isPiece_981 (lv_at hl 0 rfl) ?_
          refine lv_isub hx hb dL_isPiece_983 ?_
          refine lv_imul hx hb dL_isPiece_984 ?_
          refine lv_iadd hx hb dL_isPiece_985 ?_
          obtain ⟨S15, eS15⟩ : ∃ z : LwS, z = lset L 1 8 ((L 1 8) + (64 * (x12 - 0))) := ⟨_, rfl⟩
          refine sA (k := 1) (n := 9) (q := 8) hx hb hK hI (by decide) rfl (by unfold vp_in; decide) (by decide) eS15 dL_isPiece_986 (fun H locs hI => ?_)
          refine lv_aload_n hx hb dL_isPiece_987 rfl (lv_at hl 5 rfl) ?_
          refine lv_bipush (v := 7) hx hb dL_isPiece_988 (by decide) ?_
          refine lv_iload hx hb dL_isPiece_990 (lv_at hl 4 rfl) ?_
          refine lv_iload hx hb dL_isPiece_992 (lv_at hl 2 rfl) ?_
          refine lv_iconst (v := 0) hx hb dL_isPiece_994 (by decide) ?_
          refine jx_callH (rest := []) (as := [.ref (Z.A 0 0), .int 7, .int (nI np), .int x12, .int 0]) hx hb hml hts hown hK hE Dj_xl hI (qD_limit G hst Z S0 (nI np) x12 0 hR.1.1.1) kw_does ⟨(Nat.le_of_ble_eq_true rfl), (Nat.le_of_ble_eq_true rfl)⟩ hl.1 (Nat.le_of_ble_eq_true rfl) dL_isPiece_995 ⟨(Nat.le_of_ble_eq_true rfl), (Nat.le_of_ble_eq_true rfl)⟩ (fun v w1 H locs hpE hI => ?_)
          obtain ⟨hv, Z99, S99, M99, hR9, hA9, hw9⟩ : FIN G.2.2.2 G.2.1 Z t S15 (-30000000) v w1 := by subst eS15 ex12; subst enp env; exact fi6c hR ht5 hpE
          subst hv
          subst hw9
          refine lv_iload hx hb dL_isPiece_998 (lv_at hl 3 rfl) ?_
          refine lv_if_ne (tgt := 1008) hx hb dL_isPiece_1000 (by decide) (fun h => absurd h (by decide)) (fun _ => ?_)
          refine lv_ldc (v := -30000000) hx hb hown (hts _ q652) dL_isPiece_1003 ?_
          refine lv_goto (tgt := 1020) hx hb dL_isPiece_1005 (by decide) ?_
          have hm : (-30000000 : Int32) = -30000000 := rfl
          refine lv_icmp_ne (tgt := 1027) hx hb dL_isPiece_1020 (by decide) (fun h9 => absurd hm h9) (fun _ => ?_)
          refine lv_iconst (v := 1) hx hb dL_isPiece_1023 (by decide) ?_
          refine lv_goto (tgt := 1028) hx hb dL_isPiece_1024 (by decide) ?_
          exact rt_z hx hb hr hlocks (by decide) hI hA hQ ⟨rfl, Z99, S99, M99, S15, hR9, hA9, rfl⟩ (Nat.le_of_ble_eq_true rfl) (Nat.le_of_ble_eq_true rfl) dL_isPiece_1028
        · rw [bI_f hb11]
          refine lv_istore (lv' := [(11, .int 0), (10, .int x12), (9, .int 0), (8, .int (nI np)), (0, .ref (Z.A 0 0)), (1, .ref (la 0)), (2, .ref (la 1)), (3, .ref (la 2)), (4, .ref (la 6)), (5, .int 6), (6, .int one), (7, .int two)]) hx hb dL_isPiece_937 hl (by decide) rfl (fun ls hl => ?_)
          refine lv_iload hx hb dL_isPiece_939 (lv_at hl 2 rfl) ?_
          refine lv_if_eq (tgt := 954) hx hb dL_isPiece_941 (by decide) (fun _ => ?_) (fun h => absurd h (by decide))
          refine lv_iconst (v := 0) hx hb dL_isPiece_954 (by decide) ?_
          refine lv_istore (lv' := [(12, .int 0), (11, .int 0), (10, .int x12), (9, .int 0), (8, .int (nI np)), (0, .ref (Z.A 0 0)), (1, .ref (la 0)), (2, .ref (la 1)), (3, .ref (la 2)), (4, .ref (la 6)), (5, .int 6), (6, .int one), (7, .int two)]) hx hb dL_isPiece_955 hl (by decide) rfl (fun ls hl => ?_)
          refine lv_aload_n hx hb dL_isPiece_957 rfl (lv_at hl 7 rfl) ?_
          refine lv_iload hx hb dL_isPiece_958 (lv_at hl 3 rfl) ?_
          refine lv_if_eq (tgt := 973) hx hb dL_isPiece_960 (by decide) (fun _ => ?_) (fun h => absurd h (by decide))
          refine lv_bipush (v := 8) hx hb dL_isPiece_973 (by decide) ?_
          refine lv_dup2_11 hx hb dL_isPiece_975 rfl rfl ?_
          refine gA (k := 1) (n := 9) (q := 8) hx hb hK hI (by decide) rfl (by unfold vp_in; decide) (by decide) dL_isPiece_976 ?_
          refine lv_bipush (v := 64) hx hb dL_isPiece_977 (by decide) ?_
          refine lv_iload hx hb dL_isPiece_979 (lv_at hl 2 rfl) ?_
          refine lv_iload hx hb dL_isPiece_981 (lv_at hl 0 rfl) ?_
          refine lv_isub hx hb dL_isPiece_983 ?_
          refine lv_imul hx hb dL_isPiece_984 ?_
          refine lv_iadd hx hb dL_isPiece_985 ?_
          obtain ⟨S16, eS16⟩ : ∃ z : LwS, z = lset L 1 8 ((L 1 8) + (64 * (x12 - 0))) := ⟨_, rfl⟩
          refine sA (k := 1) (n := 9) (q := 8) hx hb hK hI (by decide) rfl (by unfold vp_in; decide) (by decide) eS16 dL_isPiece_986 (fun H locs hI => ?_)
          refine lv_aload_n hx hb dL_isPiece_987 rfl (lv_at hl 5 rfl) ?_
          refine lv_bipush (v := 7) hx hb dL_isPiece_988 (by decide) ?_
          refine lv_iload hx hb dL_isPiece_990 (lv_at hl 4 rfl) ?_
          refine lv_iload hx hb dL_isPiece_992 (lv_at hl 2 rfl) ?_
          refine lv_iconst (v := 0) hx hb dL_isPiece_994 (by decide) ?_
          refine jx_callH (rest := []) (as := [.ref (Z.A 0 0), .int 7, .int (nI np), .int x12, .int 0]) hx hb hml hts hown hK hE Dj_xl hI (qD_limit G hst Z S0 (nI np) x12 0 hR.1.1.1) kw_does ⟨(Nat.le_of_ble_eq_true rfl), (Nat.le_of_ble_eq_true rfl)⟩ hl.1 (Nat.le_of_ble_eq_true rfl) dL_isPiece_995 ⟨(Nat.le_of_ble_eq_true rfl), (Nat.le_of_ble_eq_true rfl)⟩ (fun v w1 H locs hpE hI => ?_)
          obtain ⟨hv, Z99, S99, M99, hR9, hA9, hw9⟩ : FIN G.2.2.2 G.2.1 Z t S16 (-30000000) v w1 := by subst eS16 ex12; subst enp env; exact fi6c hR ht5 hpE
          subst hv
          subst hw9
          refine lv_iload hx hb dL_isPiece_998 (lv_at hl 3 rfl) ?_
          refine lv_if_ne (tgt := 1008) hx hb dL_isPiece_1000 (by decide) (fun h => absurd h (by decide)) (fun _ => ?_)
          refine lv_ldc (v := -30000000) hx hb hown (hts _ q652) dL_isPiece_1003 ?_
          refine lv_goto (tgt := 1020) hx hb dL_isPiece_1005 (by decide) ?_
          have hm : (-30000000 : Int32) = -30000000 := rfl
          refine lv_icmp_ne (tgt := 1027) hx hb dL_isPiece_1020 (by decide) (fun h9 => absurd hm h9) (fun _ => ?_)
          refine lv_iconst (v := 1) hx hb dL_isPiece_1023 (by decide) ?_
          refine lv_goto (tgt := 1028) hx hb dL_isPiece_1024 (by decide) ?_
          exact rt_z hx hb hr hlocks (by decide) hI hA hQ ⟨rfl, Z99, S99, M99, S16, hR9, hA9, rfl⟩ (Nat.le_of_ble_eq_true rfl) (Nat.le_of_ble_eq_true rfl) dL_isPiece_1028
      refine lv_if_le (tgt := 936) hx hb dL_isPiece_921 (by decide) (fun c17 => ?_) (fun c17 => ?_)
      · refine lv_iconst (v := 0) hx hb dL_isPiece_936 (by decide) ?_
        have eb18 : (0 : Int32) = bI ((¬ (x12 ≤ 0)) ∧ (¬ (301 ≤ x12))) := (bI_f (fun k => k.1 c17)).symm
        rw [eb18]
        exact hJ14
      · refine lv_iload hx hb dL_isPiece_924 (lv_at hl 0 rfl) ?_
        refine lv_sipush (v := 301) hx hb dL_isPiece_926 (by decide) ?_
        refine lv_icmp_ge (tgt := 936) hx hb dL_isPiece_929 (by decide) (fun c19 => ?_) (fun c19 => ?_)
        · refine lv_iconst (v := 0) hx hb dL_isPiece_936 (by decide) ?_
          have eb20 : (0 : Int32) = bI ((¬ (x12 ≤ 0)) ∧ (¬ (301 ≤ x12))) := (bI_f (fun k => (fun k => k c19) k.2)).symm
          rw [eb20]
          exact hJ14
        · refine lv_iconst (v := 1) hx hb dL_isPiece_932 (by decide) ?_
          refine lv_goto (tgt := 937) hx hb dL_isPiece_933 (by decide) ?_
          have eb21 : (1 : Int32) = bI ((¬ (x12 ≤ 0)) ∧ (¬ (301 ≤ x12))) := (bI_t ⟨c17, c19⟩).symm
          rw [eb21]
          exact hJ14
    refine lv_if_ne (tgt := 909) hx hb dL_isPiece_897 (by decide) (fun c22 => ?_) (fun c22 => ?_)
    · refine lv_bipush (v := 10) hx hb dL_isPiece_909 (by decide) ?_
      refine lv_iload hx hb dL_isPiece_911 (lv_at hl 9 rfl) ?_
      refine lv_bipush (v := 120) hx hb dL_isPiece_913 (by decide) ?_
      refine lv_irem hx hb dL_isPiece_915 (by decide) ?_
      refine lv_iadd hx hb dL_isPiece_916 ?_
      exact hJ13 (10 + (two - two / 120 * 120)) (by exact (if_neg c22).symm)
    · refine lv_iload hx hb dL_isPiece_900 (lv_at hl 9 rfl) ?_
      refine lv_sipush (v := 302) hx hb dL_isPiece_902 (by decide) ?_
      refine lv_irem hx hb dL_isPiece_905 (by decide) ?_
      refine lv_goto (tgt := 917) hx hb dL_isPiece_906 (by decide) ?_
      exact hJ13 (two - two / 302 * 302) (by exact (if_pos c22).symm)
set_option maxHeartbeats 4000000 in
set_option maxRecDepth 100000 in
theorem qV_0 (G : GX) (hst : G.1.stackTraces = false) {Z : XZ} {S0 : XS} {M : MS} {L : LwS} {t : Nat} {la : Nat → Nat} (hR : RR Z S0 M L t) (ht : t ≤ 100) (one two : Int32) (h1 : nB one 60000) (h2 : nB two 60000) : FC G yL_isVehicle cL_isVehicle 16 (some .boolean) { frames := 9, cells := 5, slots := 802, locals := 263 } [.ref (Z.A 0 0), .ref (la 3), .ref (la 4), .ref (la 5), .ref (la 6), .int 0, .int one, .int two] (jn (xW G.2.2.2 G.2.1 Z S0) (lW G.2.2.2 la L)) (poR G.2.2.2 G.2.1 (Z.A 0 0) la t) := by
  refine FC.go (lv := [(0, .ref (Z.A 0 0)), (1, .ref (la 3)), (2, .ref (la 4)), (3, .ref (la 5)), (4, .ref (la 6)), (5, .int 0), (6, .int one), (7, .int two)]) (by decide) (Nat.le_of_ble_eq_true rfl) rfl (fun p e s m args below meth c A H locs ls Q hx hb hr hts hown hml hlocks hnm hK hE hI hA hl hQ => ?_)
  have hown : s.vm.findClass "IcehighwayLaw" = some m.cls := hown
  obtain ⟨np, enp⟩ : ∃ x : Nat, x = Z.N 0 := ⟨_, rfl⟩
  obtain ⟨nv, env⟩ : ∃ x : Nat, x = Z.N 1 := ⟨_, rfl⟩
  have h63 : L 6 3 = nI np := by rw [enp]; exact hR.l.g.2.2.2.1
  have h64 : L 6 4 = nI nv := by rw [env]; exact hR.l.g.2.2.2.2
  have hnp : np ≤ 8 := by rw [enp]; exact hR.np
  have hnv : nv ≤ 8 := by rw [env]; exact hR.nv
  have ht5 : t < 512 := by omega
  refine lv_iload hx hb dL_isVehicle_0 (lv_at hl 5 rfl) ?_
  refine lv_if_ne (tgt := 253) hx hb dL_isVehicle_2 (by decide) (fun h => absurd h (by decide)) (fun _ => ?_)
  refine lv_aload hx hb dL_isVehicle_5 (lv_at hl 4 rfl) ?_
  refine lv_iconst (v := 4) hx hb dL_isVehicle_7 (by decide) ?_
  refine gA (k := 6) (n := 5) (q := 4) hx hb hK hI (by decide) rfl (by unfold vp_in; decide) (by decide) dL_isVehicle_8 ?_
  rw [h64]
  refine lv_bipush (v := 8) hx hb dL_isVehicle_9 (by decide) ?_
  by_cases h80 : 8 ≤ (nI nv)
  · skip
    refine lv_icmp_ge (tgt := 253) hx hb dL_isVehicle_11 (by decide) (fun _ => ?_) (fun h9 => absurd h80 h9)
    refine lv_iload hx hb dL_isVehicle_253 (lv_at hl 6 rfl) ?_
    refine lv_aload hx hb dL_isVehicle_255 (lv_at hl 4 rfl) ?_
    refine lv_iconst (v := 4) hx hb dL_isVehicle_257 (by decide) ?_
    refine gA (k := 6) (n := 5) (q := 4) hx hb hK hI (by decide) rfl (by unfold vp_in; decide) (by decide) dL_isVehicle_258 ?_
    rw [h64]
    refine lv_iconst (v := 1) hx hb dL_isVehicle_259 (by decide) ?_
    refine lv_iadd hx hb dL_isVehicle_260 ?_
    refine lv_irem hx hb dL_isVehicle_261 (ix_ne (n := nv) rfl (by omega)) ?_
    obtain ⟨jj, hpp, hle⟩ := ix_1 (g := nI nv) (n := nv) h1 (by decide) rfl (by omega)
    rw [hpp]
    rcases Nat.lt_or_ge jj nv with hp | hp
    · skip
      refine lv_istore (lv' := [(8, .int (nI jj)), (0, .ref (Z.A 0 0)), (1, .ref (la 3)), (2, .ref (la 4)), (3, .ref (la 5)), (4, .ref (la 6)), (5, .int 0), (6, .int one), (7, .int two)]) hx hb dL_isVehicle_262 hl (by decide) rfl (fun ls hl => ?_)
      refine lv_iload hx hb dL_isVehicle_264 (lv_at hl 0 rfl) ?_
      refine lv_aload hx hb dL_isVehicle_266 (lv_at hl 5 rfl) ?_
      refine lv_iconst (v := 4) hx hb dL_isVehicle_268 (by decide) ?_
      refine gA (k := 6) (n := 5) (q := 4) hx hb hK hI (by decide) rfl (by unfold vp_in; decide) (by decide) dL_isVehicle_269 ?_
      rw [h64]
      refine lv_icmp_ge (tgt := 277) hx hb dL_isVehicle_270 (by decide) (fun h9 => absurd h9 (show ¬ nI nv ≤ nI jj from fun z => absurd ((nI_leI (by omega) (by omega)).mp z) (by omega))) (fun _ => ?_)
      refine lv_iconst (v := 1) hx hb dL_isVehicle_273 (by decide) ?_
      refine lv_goto (tgt := 278) hx hb dL_isVehicle_274 (by decide) ?_
      refine lv_istore (lv' := [(9, .int 1), (8, .int (nI jj)), (0, .ref (Z.A 0 0)), (1, .ref (la 3)), (2, .ref (la 4)), (3, .ref (la 5)), (4, .ref (la 6)), (5, .int 0), (6, .int one), (7, .int two)]) hx hb dL_isVehicle_278 hl (by decide) rfl (fun ls hl => ?_)
      refine lv_iload hx hb dL_isVehicle_280 (lv_at hl 7 rfl) ?_
      refine lv_iconst (v := 2) hx hb dL_isVehicle_282 (by decide) ?_
      refine lv_icmp_ge (tgt := 544) hx hb dL_isVehicle_283 (by decide) (fun h => absurd h (by decide)) (fun _ => ?_)
      refine lv_iload hx hb dL_isVehicle_286 (lv_at hl 9 rfl) ?_
      refine lv_bipush (v := 9) hx hb dL_isVehicle_288 (by decide) ?_
      refine lv_irem hx hb dL_isVehicle_290 (by decide) ?_
      refine lv_bipush (v := 8) hx hb dL_isVehicle_291 (by decide) ?_
      have hJ2 : ∀ (x1 : Int32), (x1 = if (two - two / 9 * 9) = 8 then 3 else (two - two / 3 * 3)) → W p G.1 e ({ frames := 9, cells := 5, slots := 802, locals := 263 }) s m args below meth c H locs 0 0 Q (F0 m 304 ls [.int x1]) := by
        intro x1 ex1
        refine lv_istore (lv' := [(10, .int x1), (9, .int 1), (8, .int (nI jj)), (0, .ref (Z.A 0 0)), (1, .ref (la 3)), (2, .ref (la 4)), (3, .ref (la 5)), (4, .ref (la 6)), (5, .int 0), (6, .int one), (7, .int two)]) hx hb dL_isVehicle_304 hl (by decide) rfl (fun ls hl => ?_)
        obtain ⟨gg, rfl, hlg⟩ : nB x1 4 := nB_ite ex1 (nB_lit 3 rfl (by decide)) (nB_up (rem_nB (b := 3) h2 (by decide) rfl (by decide) (by decide)) (by decide))
        rcases Nat.lt_or_ge gg 3 with hgg | hgg
        · skip
          refine lv_iload hx hb dL_isVehicle_306 (lv_at hl 1 rfl) ?_
          refine lv_if_eq (tgt := 321) hx hb dL_isVehicle_308 (by decide) (fun h => absurd h (by decide)) (fun _ => ?_)
          refine lv_aload_n hx hb dL_isVehicle_311 rfl (lv_at hl 5 rfl) ?_
          refine lv_bipush (v := 16) hx hb dL_isVehicle_312 (by decide) ?_
          refine lv_iload hx hb dL_isVehicle_314 (lv_at hl 2 rfl) ?_
          refine lv_iadd hx hb dL_isVehicle_316 ?_
          refine gA (k := 4) (n := 40) (q := 16 + jj) hx hb hK hI (by decide) rfl (vo_n 16 rfl (show jj < 8 by omega) (by decide) (by decide)) (vo_nc 16 rfl (show jj < 8 by omega) (by decide)) dL_isVehicle_317 ?_
          refine lv_goto (tgt := 322) hx hb dL_isVehicle_318 (by decide) ?_
          refine lv_istore (lv' := [(11, .int (L 4 (16 + jj))), (10, .int (nI gg)), (9, .int 1), (8, .int (nI jj)), (0, .ref (Z.A 0 0)), (1, .ref (la 3)), (2, .ref (la 4)), (3, .ref (la 5)), (4, .ref (la 6)), (5, .int 0), (6, .int one), (7, .int two)]) hx hb dL_isVehicle_322 hl (by decide) rfl (fun ls hl => ?_)
          refine lv_iload hx hb dL_isVehicle_324 (lv_at hl 11 rfl) ?_
          refine lv_bipush (v := 9) hx hb dL_isVehicle_326 (by decide) ?_
          refine lv_idiv hx hb dL_isVehicle_328 (by decide) ?_
          refine lv_bipush (v := 9) hx hb dL_isVehicle_329 (by decide) ?_
          refine lv_irem hx hb dL_isVehicle_331 (by decide) ?_
          have hJ4 : ∀ (x3 : Int32), (x3 = if ((two / 9) - (two / 9) / 9 * 9) = 0 then (((two / 81) - (two / 81) / 2 * 2) * ((L 4 (16 + jj)) + 1)) else (if (L 4 (16 + jj)) = 0 then 1 else (1 + (((two / 9) * 7) - ((two / 9) * 7) / (L 4 (16 + jj)) * (L 4 (16 + jj)))))) → W p G.1 e ({ frames := 9, cells := 5, slots := 802, locals := 263 }) s m args below meth c H locs 0 0 Q (F0 m 372 ls [.int x3]) := by
            intro x3 ex3
            refine lv_istore (lv' := [(12, .int x3), (11, .int (L 4 (16 + jj))), (10, .int (nI gg)), (9, .int 1), (8, .int (nI jj)), (0, .ref (Z.A 0 0)), (1, .ref (la 3)), (2, .ref (la 4)), (3, .ref (la 5)), (4, .ref (la 6)), (5, .int 0), (6, .int one), (7, .int two)]) hx hb dL_isVehicle_372 hl (by decide) rfl (fun ls hl => ?_)
            refine lv_iload hx hb dL_isVehicle_374 (lv_at hl 3 rfl) ?_
            refine lv_if_eq (tgt := 389) hx hb dL_isVehicle_376 (by decide) (fun h => absurd h (by decide)) (fun _ => ?_)
            refine lv_iload hx hb dL_isVehicle_379 (lv_at hl 2 rfl) ?_
            refine lv_iconst (v := 3) hx hb dL_isVehicle_381 (by decide) ?_
            refine lv_icmp_ge (tgt := 389) hx hb dL_isVehicle_382 (by decide) (fun h9 => absurd h9 (show ¬ (3 : Int32) ≤ nI gg from fun z => absurd ((nI_leI (a := 3) (by decide) (by omega)).mp z) (by omega))) (fun _ => ?_)
            refine lv_iconst (v := 1) hx hb dL_isVehicle_385 (by decide) ?_
            refine lv_goto (tgt := 390) hx hb dL_isVehicle_386 (by decide) ?_
            refine lv_istore (lv' := [(13, .int 1), (12, .int x3), (11, .int (L 4 (16 + jj))), (10, .int (nI gg)), (9, .int 1), (8, .int (nI jj)), (0, .ref (Z.A 0 0)), (1, .ref (la 3)), (2, .ref (la 4)), (3, .ref (la 5)), (4, .ref (la 6)), (5, .int 0), (6, .int one), (7, .int two)]) hx hb dL_isVehicle_390 hl (by decide) rfl (fun ls hl => ?_)
            refine lv_iload hx hb dL_isVehicle_392 (lv_at hl 1 rfl) ?_
            have hJ5 : W p G.1 e ({ frames := 9, cells := 5, slots := 802, locals := 263 }) s m args below meth c H locs 0 0 Q (F0 m 409 ls [.int (bI ((¬ (x3 ≤ 0)) ∧ (¬ ((L 4 (16 + jj)) < x3))))]) := by
              by_cases hb14 : (¬ (x3 ≤ 0)) ∧ (¬ ((L 4 (16 + jj)) < x3))
              · rw [bI_t hb14]
                refine lv_istore (lv' := [(14, .int 1), (13, .int 1), (12, .int x3), (11, .int (L 4 (16 + jj))), (10, .int (nI gg)), (9, .int 1), (8, .int (nI jj)), (0, .ref (Z.A 0 0)), (1, .ref (la 3)), (2, .ref (la 4)), (3, .ref (la 5)), (4, .ref (la 6)), (5, .int 0), (6, .int one), (7, .int two)]) hx hb dL_isVehicle_409 hl (by decide) rfl (fun ls hl => ?_)
                refine lv_iload hx hb dL_isVehicle_411 (lv_at hl 1 rfl) ?_
                refine lv_if_eq (tgt := 445) hx hb dL_isVehicle_413 (by decide) (fun h => absurd h (by decide)) (fun _ => ?_)
                refine lv_iload hx hb dL_isVehicle_416 (lv_at hl 0 rfl) ?_
                refine lv_if_eq (tgt := 445) hx hb dL_isVehicle_418 (by decide) (fun h => absurd h (by decide)) (fun _ => ?_)
                refine lv_aload_n hx hb dL_isVehicle_421 rfl (lv_at hl 8 rfl) ?_
                refine lv_iload hx hb dL_isVehicle_422 (lv_at hl 6 rfl) ?_
                refine gA (k := 3) (n := 8) (q := jj) hx hb hK hI (by decide) rfl (vp_in_nI (Nat.lt_of_lt_of_le (show jj < 8 by omega) (by decide)) (by decide)) (nI_clamp (Nat.lt_of_lt_of_le (show jj < 8 by omega) (by decide))) dL_isVehicle_424 ?_
                refine lv_bipush (v := 8) hx hb dL_isVehicle_425 (by decide) ?_
                refine lv_irem hx hb dL_isVehicle_427 (by decide) ?_
                have hJ6 : W p G.1 e ({ frames := 9, cells := 5, slots := 802, locals := 263 }) s m args below meth c H locs 0 0 Q (F0 m 446 ls [.int (bI ((((L 3 jj) - (L 3 jj) / 8 * 8) = 0) ∧ ((L 4 (8 + jj)) = 0)))]) := by
                  by_cases hb15 : (((L 3 jj) - (L 3 jj) / 8 * 8) = 0) ∧ ((L 4 (8 + jj)) = 0)
                  · rw [bI_t hb15]
                    refine lv_istore (lv' := [(15, .int 1), (14, .int 1), (13, .int 1), (12, .int x3), (11, .int (L 4 (16 + jj))), (10, .int (nI gg)), (9, .int 1), (8, .int (nI jj)), (0, .ref (Z.A 0 0)), (1, .ref (la 3)), (2, .ref (la 4)), (3, .ref (la 5)), (4, .ref (la 6)), (5, .int 0), (6, .int one), (7, .int two)]) hx hb dL_isVehicle_446 hl (by decide) rfl (fun ls hl => ?_)
                    refine lv_iload hx hb dL_isVehicle_448 (lv_at hl 0 rfl) ?_
                    refine lv_if_eq (tgt := 486) hx hb dL_isVehicle_450 (by decide) (fun h => absurd h (by decide)) (fun _ => ?_)
                    refine lv_aload_n hx hb dL_isVehicle_453 rfl (lv_at hl 10 rfl) ?_
                    refine lv_bipush (v := 8) hx hb dL_isVehicle_454 (by decide) ?_
                    refine lv_iload hx hb dL_isVehicle_456 (lv_at hl 7 rfl) ?_
                    refine lv_iadd hx hb dL_isVehicle_458 ?_
                    refine lv_iload hx hb dL_isVehicle_459 (lv_at hl 3 rfl) ?_
                    obtain ⟨S7, eS7⟩ : ∃ z : LwS, z = lset L 4 (8 + jj) x3 := ⟨_, rfl⟩
                    refine sA (k := 4) (n := 40) (q := 8 + jj) hx hb hK hI (by decide) rfl (vo_n 8 rfl (show jj < 8 by omega) (by decide) (by decide)) (vo_nc 8 rfl (show jj < 8 by omega) (by decide)) eS7 dL_isVehicle_461 (fun H locs hI => ?_)
                    refine lv_aload_n hx hb dL_isVehicle_462 rfl (lv_at hl 9 rfl) ?_
                    refine lv_iload hx hb dL_isVehicle_463 (lv_at hl 7 rfl) ?_
                    refine lv_dup2_11 hx hb dL_isVehicle_465 rfl rfl ?_
                    refine gA (k := 3) (n := 8) (q := jj) hx hb hK hI (by decide) rfl (vp_in_nI (Nat.lt_of_lt_of_le (show jj < 8 by omega) (by decide)) (by decide)) (nI_clamp (Nat.lt_of_lt_of_le (show jj < 8 by omega) (by decide))) dL_isVehicle_466 ?_
                    refine lv_sipush (v := 256) hx hb dL_isVehicle_467 (by decide) ?_
                    refine lv_iload hx hb dL_isVehicle_470 (lv_at hl 5 rfl) ?_
                    refine lv_iconst (v := 1) hx hb dL_isVehicle_472 (by decide) ?_
                    refine lv_iadd hx hb dL_isVehicle_473 ?_
                    refine lv_imul hx hb dL_isVehicle_474 ?_
                    refine lv_iadd hx hb dL_isVehicle_475 ?_
                    obtain ⟨S8, eS8⟩ : ∃ z : LwS, z = lset S7 3 jj ((S7 3 jj) + (256 * ((nI gg) + 1))) := ⟨_, rfl⟩
                    refine sA (k := 3) (n := 8) (q := jj) hx hb hK hI (by decide) rfl (vp_in_nI (Nat.lt_of_lt_of_le (show jj < 8 by omega) (by decide)) (by decide)) (nI_clamp (Nat.lt_of_lt_of_le (show jj < 8 by omega) (by decide))) eS8 dL_isVehicle_476 (fun H locs hI => ?_)
                    refine lv_aload_n hx hb dL_isVehicle_477 rfl (lv_at hl 11 rfl) ?_
                    refine lv_iload hx hb dL_isVehicle_478 (lv_at hl 5 rfl) ?_
                    refine lv_dup2_11 hx hb dL_isVehicle_480 rfl rfl ?_
                    refine gA (k := 5) (n := 10) (q := gg) hx hb hK hI (by decide) rfl (vp_in_nI (Nat.lt_of_lt_of_le hgg (by decide)) (by decide)) (nI_clamp (Nat.lt_of_lt_of_le hgg (by decide))) dL_isVehicle_481 ?_
                    refine lv_iload hx hb dL_isVehicle_482 (lv_at hl 3 rfl) ?_
                    refine lv_iadd hx hb dL_isVehicle_484 ?_
                    obtain ⟨S9, eS9⟩ : ∃ z : LwS, z = lset S8 5 gg ((S8 5 gg) + x3) := ⟨_, rfl⟩
                    refine sA (k := 5) (n := 10) (q := gg) hx hb hK hI (by decide) rfl (vp_in_nI (Nat.lt_of_lt_of_le hgg (by decide)) (by decide)) (nI_clamp (Nat.lt_of_lt_of_le hgg (by decide))) eS9 dL_isVehicle_485 (fun H locs hI => ?_)
                    refine lv_aload_n hx hb dL_isVehicle_486 rfl (lv_at hl 8 rfl) ?_
                    refine lv_bipush (v := 10) hx hb dL_isVehicle_487 (by decide) ?_
                    refine lv_iload hx hb dL_isVehicle_489 (lv_at hl 7 rfl) ?_
                    refine lv_iload hx hb dL_isVehicle_491 (lv_at hl 5 rfl) ?_
                    refine lv_iload hx hb dL_isVehicle_493 (lv_at hl 3 rfl) ?_
                    refine jx_callH (rest := []) (as := [.ref (Z.A 0 0), .int 10, .int (nI jj), .int (nI gg), .int x3]) hx hb hml hts hown hK hE Dj_xl hI (qD_load G hst Z S0 (nI jj) (nI gg) x3 hR.1.1.1 hR.1.1.2.1) kw_does ⟨(Nat.le_of_ble_eq_true rfl), (Nat.le_of_ble_eq_true rfl)⟩ hl.1 (Nat.le_of_ble_eq_true rfl) dL_isVehicle_495 ⟨(Nat.le_of_ble_eq_true rfl), (Nat.le_of_ble_eq_true rfl)⟩ (fun v w1 H locs hpE hI => ?_)
                    obtain ⟨hv, Z99, S99, M99, hR9, hA9, hw9⟩ : FIN G.2.2.2 G.2.1 Z t S9 ((L 4 jj) + x3) v w1 := by subst eS9 eS8 eS7 ex3; subst enp env; exact fv1d hR ht5 hp hgg ⟨by have := (i_le (n := 0) (by decide)).mp hb14.1; omega, by have := hb14.2; rw [Int32.lt_iff_toInt_lt] at this; omega⟩ hb15 hpE
                    subst hv
                    subst hw9
                    refine lv_iload hx hb dL_isVehicle_498 (lv_at hl 2 rfl) ?_
                    refine lv_if_ne (tgt := 508) hx hb dL_isVehicle_500 (by decide) (fun _ => ?_) (fun h => absurd h (by decide))
                    refine lv_iload hx hb dL_isVehicle_508 (lv_at hl 1 rfl) ?_
                    refine lv_if_ne (tgt := 518) hx hb dL_isVehicle_510 (by decide) (fun _ => ?_) (fun h => absurd h (by decide))
                    refine lv_iload hx hb dL_isVehicle_518 (lv_at hl 0 rfl) ?_
                    refine lv_if_eq (tgt := 533) hx hb dL_isVehicle_520 (by decide) (fun h => absurd h (by decide)) (fun _ => ?_)
                    refine lv_aload_n hx hb dL_isVehicle_523 rfl (lv_at hl 10 rfl) ?_
                    refine lv_iload hx hb dL_isVehicle_524 (lv_at hl 7 rfl) ?_
                    refine gA (k := 4) (n := 40) (q := jj) hx hb hK hI (by decide) rfl (vp_in_nI (Nat.lt_of_lt_of_le (show jj < 8 by omega) (by decide)) (by decide)) (nI_clamp (Nat.lt_of_lt_of_le (show jj < 8 by omega) (by decide))) dL_isVehicle_526 ?_
                    refine lv_iload hx hb dL_isVehicle_527 (lv_at hl 3 rfl) ?_
                    refine lv_iadd hx hb dL_isVehicle_529 ?_
                    refine lv_goto (tgt := 535) hx hb dL_isVehicle_530 (by decide) ?_
                    have hm : ((L 4 jj) + x3 : Int32) = (S9 4 jj) + x3 := by rw [eS9, lset_k (by decide), eS8, lset_k (by decide), eS7, lset_n (by omega)]
                    refine lv_icmp_ne (tgt := 542) hx hb dL_isVehicle_535 (by decide) (fun h9 => absurd hm h9) (fun _ => ?_)
                    refine lv_iconst (v := 1) hx hb dL_isVehicle_538 (by decide) ?_
                    refine lv_goto (tgt := 543) hx hb dL_isVehicle_539 (by decide) ?_
                    exact rt_z hx hb hr hlocks (by decide) hI hA hQ ⟨rfl, Z99, S99, M99, S9, hR9, hA9, rfl⟩ (Nat.le_of_ble_eq_true rfl) (Nat.le_of_ble_eq_true rfl) dL_isVehicle_543
                  · rw [bI_f hb15]
                    refine lv_istore (lv' := [(15, .int 0), (14, .int 1), (13, .int 1), (12, .int x3), (11, .int (L 4 (16 + jj))), (10, .int (nI gg)), (9, .int 1), (8, .int (nI jj)), (0, .ref (Z.A 0 0)), (1, .ref (la 3)), (2, .ref (la 4)), (3, .ref (la 5)), (4, .ref (la 6)), (5, .int 0), (6, .int one), (7, .int two)]) hx hb dL_isVehicle_446 hl (by decide) rfl (fun ls hl => ?_)
                    refine lv_iload hx hb dL_isVehicle_448 (lv_at hl 0 rfl) ?_
                    refine lv_if_eq (tgt := 486) hx hb dL_isVehicle_450 (by decide) (fun _ => ?_) (fun h => absurd h (by decide))
                    refine lv_aload_n hx hb dL_isVehicle_486 rfl (lv_at hl 8 rfl) ?_
                    refine lv_bipush (v := 10) hx hb dL_isVehicle_487 (by decide) ?_
                    refine lv_iload hx hb dL_isVehicle_489 (lv_at hl 7 rfl) ?_
                    refine lv_iload hx hb dL_isVehicle_491 (lv_at hl 5 rfl) ?_
                    refine lv_iload hx hb dL_isVehicle_493 (lv_at hl 3 rfl) ?_
                    refine jx_callH (rest := []) (as := [.ref (Z.A 0 0), .int 10, .int (nI jj), .int (nI gg), .int x3]) hx hb hml hts hown hK hE Dj_xl hI (qD_load G hst Z S0 (nI jj) (nI gg) x3 hR.1.1.1 hR.1.1.2.1) kw_does ⟨(Nat.le_of_ble_eq_true rfl), (Nat.le_of_ble_eq_true rfl)⟩ hl.1 (Nat.le_of_ble_eq_true rfl) dL_isVehicle_495 ⟨(Nat.le_of_ble_eq_true rfl), (Nat.le_of_ble_eq_true rfl)⟩ (fun v w1 H locs hpE hI => ?_)
                    obtain ⟨hv, Z99, S99, M99, hR9, hA9, hw9⟩ : FIN G.2.2.2 G.2.1 Z t L (-10000000) v w1 := by subst ex3; subst enp env; exact fv1e hR ht5 hp hgg ⟨by have := (i_le (n := 0) (by decide)).mp hb14.1; omega, by have := hb14.2; rw [Int32.lt_iff_toInt_lt] at this; omega⟩ hb15 hpE
                    subst hv
                    subst hw9
                    refine lv_iload hx hb dL_isVehicle_498 (lv_at hl 2 rfl) ?_
                    refine lv_if_ne (tgt := 508) hx hb dL_isVehicle_500 (by decide) (fun _ => ?_) (fun h => absurd h (by decide))
                    refine lv_iload hx hb dL_isVehicle_508 (lv_at hl 1 rfl) ?_
                    refine lv_if_ne (tgt := 518) hx hb dL_isVehicle_510 (by decide) (fun _ => ?_) (fun h => absurd h (by decide))
                    refine lv_iload hx hb dL_isVehicle_518 (lv_at hl 0 rfl) ?_
                    refine lv_if_eq (tgt := 533) hx hb dL_isVehicle_520 (by decide) (fun _ => ?_) (fun h => absurd h (by decide))
                    refine lv_ldc (v := -10000000) hx hb hown (hts _ q654) dL_isVehicle_533 ?_
                    have hm : (-10000000 : Int32) = -10000000 := rfl
                    refine lv_icmp_ne (tgt := 542) hx hb dL_isVehicle_535 (by decide) (fun h9 => absurd hm h9) (fun _ => ?_)
                    refine lv_iconst (v := 1) hx hb dL_isVehicle_538 (by decide) ?_
                    refine lv_goto (tgt := 543) hx hb dL_isVehicle_539 (by decide) ?_
                    exact rt_z hx hb hr hlocks (by decide) hI hA hQ ⟨rfl, Z99, S99, M99, L, hR9, hA9, rfl⟩ (Nat.le_of_ble_eq_true rfl) (Nat.le_of_ble_eq_true rfl) dL_isVehicle_543
                refine lv_if_ne (tgt := 445) hx hb dL_isVehicle_428 (by decide) (fun c10 => ?_) (fun c10 => ?_)
                · refine lv_iconst (v := 0) hx hb dL_isVehicle_445 (by decide) ?_
                  have eb11 : (0 : Int32) = bI ((((L 3 jj) - (L 3 jj) / 8 * 8) = 0) ∧ ((L 4 (8 + jj)) = 0)) := (bI_f (fun k => c10 k.1)).symm
                  rw [eb11]
                  exact hJ6
                · refine lv_aload_n hx hb dL_isVehicle_431 rfl (lv_at hl 9 rfl) ?_
                  refine lv_bipush (v := 8) hx hb dL_isVehicle_432 (by decide) ?_
                  refine lv_iload hx hb dL_isVehicle_434 (lv_at hl 6 rfl) ?_
                  refine lv_iadd hx hb dL_isVehicle_436 ?_
                  refine gA (k := 4) (n := 40) (q := 8 + jj) hx hb hK hI (by decide) rfl (vo_n 8 rfl (show jj < 8 by omega) (by decide) (by decide)) (vo_nc 8 rfl (show jj < 8 by omega) (by decide)) dL_isVehicle_437 ?_
                  refine lv_if_ne (tgt := 445) hx hb dL_isVehicle_438 (by decide) (fun c12 => ?_) (fun c12 => ?_)
                  · refine lv_iconst (v := 0) hx hb dL_isVehicle_445 (by decide) ?_
                    have eb13 : (0 : Int32) = bI ((((L 3 jj) - (L 3 jj) / 8 * 8) = 0) ∧ ((L 4 (8 + jj)) = 0)) := (bI_f (fun k => c12 k.2)).symm
                    rw [eb13]
                    exact hJ6
                  · refine lv_iconst (v := 1) hx hb dL_isVehicle_441 (by decide) ?_
                    refine lv_goto (tgt := 446) hx hb dL_isVehicle_442 (by decide) ?_
                    have eb14 : (1 : Int32) = bI ((((L 3 jj) - (L 3 jj) / 8 * 8) = 0) ∧ ((L 4 (8 + jj)) = 0)) := (bI_t ⟨c10, c12⟩).symm
                    rw [eb14]
                    exact hJ6
              · rw [bI_f hb14]
                refine lv_istore (lv' := [(14, .int 0), (13, .int 1), (12, .int x3), (11, .int (L 4 (16 + jj))), (10, .int (nI gg)), (9, .int 1), (8, .int (nI jj)), (0, .ref (Z.A 0 0)), (1, .ref (la 3)), (2, .ref (la 4)), (3, .ref (la 5)), (4, .ref (la 6)), (5, .int 0), (6, .int one), (7, .int two)]) hx hb dL_isVehicle_409 hl (by decide) rfl (fun ls hl => ?_)
                refine lv_iload hx hb dL_isVehicle_411 (lv_at hl 1 rfl) ?_
                refine lv_if_eq (tgt := 445) hx hb dL_isVehicle_413 (by decide) (fun h => absurd h (by decide)) (fun _ => ?_)
                refine lv_iload hx hb dL_isVehicle_416 (lv_at hl 0 rfl) ?_
                refine lv_if_eq (tgt := 445) hx hb dL_isVehicle_418 (by decide) (fun _ => ?_) (fun h => absurd h (by decide))
                refine lv_iconst (v := 0) hx hb dL_isVehicle_445 (by decide) ?_
                refine lv_istore (lv' := [(15, .int 0), (14, .int 0), (13, .int 1), (12, .int x3), (11, .int (L 4 (16 + jj))), (10, .int (nI gg)), (9, .int 1), (8, .int (nI jj)), (0, .ref (Z.A 0 0)), (1, .ref (la 3)), (2, .ref (la 4)), (3, .ref (la 5)), (4, .ref (la 6)), (5, .int 0), (6, .int one), (7, .int two)]) hx hb dL_isVehicle_446 hl (by decide) rfl (fun ls hl => ?_)
                refine lv_iload hx hb dL_isVehicle_448 (lv_at hl 0 rfl) ?_
                refine lv_if_eq (tgt := 486) hx hb dL_isVehicle_450 (by decide) (fun _ => ?_) (fun h => absurd h (by decide))
                refine lv_aload_n hx hb dL_isVehicle_486 rfl (lv_at hl 8 rfl) ?_
                refine lv_bipush (v := 10) hx hb dL_isVehicle_487 (by decide) ?_
                refine lv_iload hx hb dL_isVehicle_489 (lv_at hl 7 rfl) ?_
                refine lv_iload hx hb dL_isVehicle_491 (lv_at hl 5 rfl) ?_
                refine lv_iload hx hb dL_isVehicle_493 (lv_at hl 3 rfl) ?_
                refine jx_callH (rest := []) (as := [.ref (Z.A 0 0), .int 10, .int (nI jj), .int (nI gg), .int x3]) hx hb hml hts hown hK hE Dj_xl hI (qD_load G hst Z S0 (nI jj) (nI gg) x3 hR.1.1.1 hR.1.1.2.1) kw_does ⟨(Nat.le_of_ble_eq_true rfl), (Nat.le_of_ble_eq_true rfl)⟩ hl.1 (Nat.le_of_ble_eq_true rfl) dL_isVehicle_495 ⟨(Nat.le_of_ble_eq_true rfl), (Nat.le_of_ble_eq_true rfl)⟩ (fun v w1 H locs hpE hI => ?_)
                obtain ⟨hv, Z99, S99, M99, hR9, hA9, hw9⟩ : FIN G.2.2.2 G.2.1 Z t L (-20000000) v w1 := by subst ex3; subst enp env; exact fv1c hR ht5 hp hgg (fun z => hb14 ⟨(i_le (n := 0) (by decide)).mpr (by omega), fun y => by rw [Int32.lt_iff_toInt_lt] at y; omega⟩) hpE
                subst hv
                subst hw9
                refine lv_iload hx hb dL_isVehicle_498 (lv_at hl 2 rfl) ?_
                refine lv_if_ne (tgt := 508) hx hb dL_isVehicle_500 (by decide) (fun _ => ?_) (fun h => absurd h (by decide))
                refine lv_iload hx hb dL_isVehicle_508 (lv_at hl 1 rfl) ?_
                refine lv_if_ne (tgt := 518) hx hb dL_isVehicle_510 (by decide) (fun h => absurd h (by decide)) (fun _ => ?_)
                refine lv_ldc (v := -20000000) hx hb hown (hts _ q653) dL_isVehicle_513 ?_
                refine lv_goto (tgt := 535) hx hb dL_isVehicle_515 (by decide) ?_
                have hm : (-20000000 : Int32) = -20000000 := rfl
                refine lv_icmp_ne (tgt := 542) hx hb dL_isVehicle_535 (by decide) (fun h9 => absurd hm h9) (fun _ => ?_)
                refine lv_iconst (v := 1) hx hb dL_isVehicle_538 (by decide) ?_
                refine lv_goto (tgt := 543) hx hb dL_isVehicle_539 (by decide) ?_
                exact rt_z hx hb hr hlocks (by decide) hI hA hQ ⟨rfl, Z99, S99, M99, L, hR9, hA9, rfl⟩ (Nat.le_of_ble_eq_true rfl) (Nat.le_of_ble_eq_true rfl) dL_isVehicle_543
            refine lv_if_le (tgt := 408) hx hb dL_isVehicle_394 (by decide) (fun c15 => ?_) (fun c15 => ?_)
            · refine lv_iconst (v := 0) hx hb dL_isVehicle_408 (by decide) ?_
              have eb16 : (0 : Int32) = bI ((¬ (x3 ≤ 0)) ∧ (¬ ((L 4 (16 + jj)) < x3))) := (bI_f (fun k => k.1 c15)).symm
              rw [eb16]
              exact hJ5
            · refine lv_iload hx hb dL_isVehicle_397 (lv_at hl 1 rfl) ?_
              refine lv_iload hx hb dL_isVehicle_399 (lv_at hl 2 rfl) ?_
              refine lv_icmp_gt (tgt := 408) hx hb dL_isVehicle_401 (by decide) (fun c17 => ?_) (fun c17 => ?_)
              · refine lv_iconst (v := 0) hx hb dL_isVehicle_408 (by decide) ?_
                have eb18 : (0 : Int32) = bI ((¬ (x3 ≤ 0)) ∧ (¬ ((L 4 (16 + jj)) < x3))) := (bI_f (fun k => (fun k => k c17) k.2)).symm
                rw [eb18]
                exact hJ5
              · refine lv_iconst (v := 1) hx hb dL_isVehicle_404 (by decide) ?_
                refine lv_goto (tgt := 409) hx hb dL_isVehicle_405 (by decide) ?_
                have eb19 : (1 : Int32) = bI ((¬ (x3 ≤ 0)) ∧ (¬ ((L 4 (16 + jj)) < x3))) := (bI_t ⟨c15, c17⟩).symm
                rw [eb19]
                exact hJ5
          refine lv_if_ne (tgt := 350) hx hb dL_isVehicle_332 (by decide) (fun c20 => ?_) (fun c20 => ?_)
          · refine lv_iload hx hb dL_isVehicle_350 (lv_at hl 0 rfl) ?_
            refine lv_if_ne (tgt := 359) hx hb dL_isVehicle_352 (by decide) (fun c21 => ?_) (fun c21 => ?_)
            · refine lv_iconst (v := 1) hx hb dL_isVehicle_359 (by decide) ?_
              refine lv_iload hx hb dL_isVehicle_360 (lv_at hl 11 rfl) ?_
              refine lv_bipush (v := 9) hx hb dL_isVehicle_362 (by decide) ?_
              refine lv_idiv hx hb dL_isVehicle_364 (by decide) ?_
              refine lv_bipush (v := 7) hx hb dL_isVehicle_365 (by decide) ?_
              refine lv_imul hx hb dL_isVehicle_367 ?_
              refine lv_iload hx hb dL_isVehicle_368 (lv_at hl 0 rfl) ?_
              refine lv_irem hx hb dL_isVehicle_370 c21 ?_
              refine lv_iadd hx hb dL_isVehicle_371 ?_
              exact hJ4 (1 + (((two / 9) * 7) - ((two / 9) * 7) / (L 4 (16 + jj)) * (L 4 (16 + jj)))) (by exact ((if_neg c20).trans (if_neg c21)).symm)
            · refine lv_iconst (v := 1) hx hb dL_isVehicle_355 (by decide) ?_
              refine lv_goto (tgt := 372) hx hb dL_isVehicle_356 (by decide) ?_
              exact hJ4 1 (by exact ((if_neg c20).trans (if_pos c21)).symm)
          · refine lv_iload hx hb dL_isVehicle_335 (lv_at hl 11 rfl) ?_
            refine lv_bipush (v := 81) hx hb dL_isVehicle_337 (by decide) ?_
            refine lv_idiv hx hb dL_isVehicle_339 (by decide) ?_
            refine lv_iconst (v := 2) hx hb dL_isVehicle_340 (by decide) ?_
            refine lv_irem hx hb dL_isVehicle_341 (by decide) ?_
            refine lv_iload hx hb dL_isVehicle_342 (lv_at hl 0 rfl) ?_
            refine lv_iconst (v := 1) hx hb dL_isVehicle_344 (by decide) ?_
            refine lv_iadd hx hb dL_isVehicle_345 ?_
            refine lv_imul hx hb dL_isVehicle_346 ?_
            refine lv_goto (tgt := 372) hx hb dL_isVehicle_347 (by decide) ?_
            exact hJ4 (((two / 81) - (two / 81) / 2 * 2) * ((L 4 (16 + jj)) + 1)) (by exact (if_pos c20).symm)
        · obtain rfl : gg = 3 := by omega
          refine lv_iload hx hb dL_isVehicle_306 (lv_at hl 1 rfl) ?_
          refine lv_if_eq (tgt := 321) hx hb dL_isVehicle_308 (by decide) (fun h => absurd h (by decide)) (fun _ => ?_)
          refine lv_aload_n hx hb dL_isVehicle_311 rfl (lv_at hl 5 rfl) ?_
          refine lv_bipush (v := 16) hx hb dL_isVehicle_312 (by decide) ?_
          refine lv_iload hx hb dL_isVehicle_314 (lv_at hl 2 rfl) ?_
          refine lv_iadd hx hb dL_isVehicle_316 ?_
          refine gA (k := 4) (n := 40) (q := 16 + jj) hx hb hK hI (by decide) rfl (vo_n 16 rfl (show jj < 8 by omega) (by decide) (by decide)) (vo_nc 16 rfl (show jj < 8 by omega) (by decide)) dL_isVehicle_317 ?_
          refine lv_goto (tgt := 322) hx hb dL_isVehicle_318 (by decide) ?_
          refine lv_istore (lv' := [(11, .int (L 4 (16 + jj))), (10, .int (nI 3)), (9, .int 1), (8, .int (nI jj)), (0, .ref (Z.A 0 0)), (1, .ref (la 3)), (2, .ref (la 4)), (3, .ref (la 5)), (4, .ref (la 6)), (5, .int 0), (6, .int one), (7, .int two)]) hx hb dL_isVehicle_322 hl (by decide) rfl (fun ls hl => ?_)
          refine lv_iload hx hb dL_isVehicle_324 (lv_at hl 11 rfl) ?_
          refine lv_bipush (v := 9) hx hb dL_isVehicle_326 (by decide) ?_
          refine lv_idiv hx hb dL_isVehicle_328 (by decide) ?_
          refine lv_bipush (v := 9) hx hb dL_isVehicle_329 (by decide) ?_
          refine lv_irem hx hb dL_isVehicle_331 (by decide) ?_
          have hJ23 : ∀ (x22 : Int32), (x22 = if ((two / 9) - (two / 9) / 9 * 9) = 0 then (((two / 81) - (two / 81) / 2 * 2) * ((L 4 (16 + jj)) + 1)) else (if (L 4 (16 + jj)) = 0 then 1 else (1 + (((two / 9) * 7) - ((two / 9) * 7) / (L 4 (16 + jj)) * (L 4 (16 + jj)))))) → W p G.1 e ({ frames := 9, cells := 5, slots := 802, locals := 263 }) s m args below meth c H locs 0 0 Q (F0 m 372 ls [.int x22]) := by
            intro x22 ex22
            refine lv_istore (lv' := [(12, .int x22), (11, .int (L 4 (16 + jj))), (10, .int (nI 3)), (9, .int 1), (8, .int (nI jj)), (0, .ref (Z.A 0 0)), (1, .ref (la 3)), (2, .ref (la 4)), (3, .ref (la 5)), (4, .ref (la 6)), (5, .int 0), (6, .int one), (7, .int two)]) hx hb dL_isVehicle_372 hl (by decide) rfl (fun ls hl => ?_)
            refine lv_iload hx hb dL_isVehicle_374 (lv_at hl 3 rfl) ?_
            refine lv_if_eq (tgt := 389) hx hb dL_isVehicle_376 (by decide) (fun h => absurd h (by decide)) (fun _ => ?_)
            refine lv_iload hx hb dL_isVehicle_379 (lv_at hl 2 rfl) ?_
            refine lv_iconst (v := 3) hx hb dL_isVehicle_381 (by decide) ?_
            refine lv_icmp_ge (tgt := 389) hx hb dL_isVehicle_382 (by decide) (fun _ => ?_) (fun h9 => absurd (show (3 : Int32) ≤ nI 3 by decide) h9)
            refine lv_iconst (v := 0) hx hb dL_isVehicle_389 (by decide) ?_
            refine lv_istore (lv' := [(13, .int 0), (12, .int x22), (11, .int (L 4 (16 + jj))), (10, .int (nI 3)), (9, .int 1), (8, .int (nI jj)), (0, .ref (Z.A 0 0)), (1, .ref (la 3)), (2, .ref (la 4)), (3, .ref (la 5)), (4, .ref (la 6)), (5, .int 0), (6, .int one), (7, .int two)]) hx hb dL_isVehicle_390 hl (by decide) rfl (fun ls hl => ?_)
            refine lv_iload hx hb dL_isVehicle_392 (lv_at hl 1 rfl) ?_
            have hJ24 : W p G.1 e ({ frames := 9, cells := 5, slots := 802, locals := 263 }) s m args below meth c H locs 0 0 Q (F0 m 409 ls [.int (bI ((¬ (x22 ≤ 0)) ∧ (¬ ((L 4 (16 + jj)) < x22))))]) := by
              by_cases hb14 : (¬ (x22 ≤ 0)) ∧ (¬ ((L 4 (16 + jj)) < x22))
              · rw [bI_t hb14]
                refine lv_istore (lv' := [(14, .int 1), (13, .int 0), (12, .int x22), (11, .int (L 4 (16 + jj))), (10, .int (nI 3)), (9, .int 1), (8, .int (nI jj)), (0, .ref (Z.A 0 0)), (1, .ref (la 3)), (2, .ref (la 4)), (3, .ref (la 5)), (4, .ref (la 6)), (5, .int 0), (6, .int one), (7, .int two)]) hx hb dL_isVehicle_409 hl (by decide) rfl (fun ls hl => ?_)
                refine lv_iload hx hb dL_isVehicle_411 (lv_at hl 1 rfl) ?_
                refine lv_if_eq (tgt := 445) hx hb dL_isVehicle_413 (by decide) (fun _ => ?_) (fun h => absurd h (by decide))
                refine lv_iconst (v := 0) hx hb dL_isVehicle_445 (by decide) ?_
                refine lv_istore (lv' := [(15, .int 0), (14, .int 1), (13, .int 0), (12, .int x22), (11, .int (L 4 (16 + jj))), (10, .int (nI 3)), (9, .int 1), (8, .int (nI jj)), (0, .ref (Z.A 0 0)), (1, .ref (la 3)), (2, .ref (la 4)), (3, .ref (la 5)), (4, .ref (la 6)), (5, .int 0), (6, .int one), (7, .int two)]) hx hb dL_isVehicle_446 hl (by decide) rfl (fun ls hl => ?_)
                refine lv_iload hx hb dL_isVehicle_448 (lv_at hl 0 rfl) ?_
                refine lv_if_eq (tgt := 486) hx hb dL_isVehicle_450 (by decide) (fun _ => ?_) (fun h => absurd h (by decide))
                refine lv_aload_n hx hb dL_isVehicle_486 rfl (lv_at hl 8 rfl) ?_
                refine lv_bipush (v := 10) hx hb dL_isVehicle_487 (by decide) ?_
                refine lv_iload hx hb dL_isVehicle_489 (lv_at hl 7 rfl) ?_
                refine lv_iload hx hb dL_isVehicle_491 (lv_at hl 5 rfl) ?_
                refine lv_iload hx hb dL_isVehicle_493 (lv_at hl 3 rfl) ?_
                refine jx_callH (rest := []) (as := [.ref (Z.A 0 0), .int 10, .int (nI jj), .int (nI 3), .int x22]) hx hb hml hts hown hK hE Dj_xl hI (qD_load G hst Z S0 (nI jj) (nI 3) x22 hR.1.1.1 hR.1.1.2.1) kw_does ⟨(Nat.le_of_ble_eq_true rfl), (Nat.le_of_ble_eq_true rfl)⟩ hl.1 (Nat.le_of_ble_eq_true rfl) dL_isVehicle_495 ⟨(Nat.le_of_ble_eq_true rfl), (Nat.le_of_ble_eq_true rfl)⟩ (fun v w1 H locs hpE hI => ?_)
                obtain ⟨hv, Z99, S99, M99, hR9, hA9, hw9⟩ : FIN G.2.2.2 G.2.1 Z t L (-30000000) v w1 := by subst ex22; subst enp env; exact fv1b hR ht5 hpE
                subst hv
                subst hw9
                refine lv_iload hx hb dL_isVehicle_498 (lv_at hl 2 rfl) ?_
                refine lv_if_ne (tgt := 508) hx hb dL_isVehicle_500 (by decide) (fun h => absurd h (by decide)) (fun _ => ?_)
                refine lv_ldc (v := -30000000) hx hb hown (hts _ q652) dL_isVehicle_503 ?_
                refine lv_goto (tgt := 535) hx hb dL_isVehicle_505 (by decide) ?_
                have hm : (-30000000 : Int32) = -30000000 := rfl
                refine lv_icmp_ne (tgt := 542) hx hb dL_isVehicle_535 (by decide) (fun h9 => absurd hm h9) (fun _ => ?_)
                refine lv_iconst (v := 1) hx hb dL_isVehicle_538 (by decide) ?_
                refine lv_goto (tgt := 543) hx hb dL_isVehicle_539 (by decide) ?_
                exact rt_z hx hb hr hlocks (by decide) hI hA hQ ⟨rfl, Z99, S99, M99, L, hR9, hA9, rfl⟩ (Nat.le_of_ble_eq_true rfl) (Nat.le_of_ble_eq_true rfl) dL_isVehicle_543
              · rw [bI_f hb14]
                refine lv_istore (lv' := [(14, .int 0), (13, .int 0), (12, .int x22), (11, .int (L 4 (16 + jj))), (10, .int (nI 3)), (9, .int 1), (8, .int (nI jj)), (0, .ref (Z.A 0 0)), (1, .ref (la 3)), (2, .ref (la 4)), (3, .ref (la 5)), (4, .ref (la 6)), (5, .int 0), (6, .int one), (7, .int two)]) hx hb dL_isVehicle_409 hl (by decide) rfl (fun ls hl => ?_)
                refine lv_iload hx hb dL_isVehicle_411 (lv_at hl 1 rfl) ?_
                refine lv_if_eq (tgt := 445) hx hb dL_isVehicle_413 (by decide) (fun _ => ?_) (fun h => absurd h (by decide))
                refine lv_iconst (v := 0) hx hb dL_isVehicle_445 (by decide) ?_
                refine lv_istore (lv' := [(15, .int 0), (14, .int 0), (13, .int 0), (12, .int x22), (11, .int (L 4 (16 + jj))), (10, .int (nI 3)), (9, .int 1), (8, .int (nI jj)), (0, .ref (Z.A 0 0)), (1, .ref (la 3)), (2, .ref (la 4)), (3, .ref (la 5)), (4, .ref (la 6)), (5, .int 0), (6, .int one), (7, .int two)]) hx hb dL_isVehicle_446 hl (by decide) rfl (fun ls hl => ?_)
                refine lv_iload hx hb dL_isVehicle_448 (lv_at hl 0 rfl) ?_
                refine lv_if_eq (tgt := 486) hx hb dL_isVehicle_450 (by decide) (fun _ => ?_) (fun h => absurd h (by decide))
                refine lv_aload_n hx hb dL_isVehicle_486 rfl (lv_at hl 8 rfl) ?_
                refine lv_bipush (v := 10) hx hb dL_isVehicle_487 (by decide) ?_
                refine lv_iload hx hb dL_isVehicle_489 (lv_at hl 7 rfl) ?_
                refine lv_iload hx hb dL_isVehicle_491 (lv_at hl 5 rfl) ?_
                refine lv_iload hx hb dL_isVehicle_493 (lv_at hl 3 rfl) ?_
                refine jx_callH (rest := []) (as := [.ref (Z.A 0 0), .int 10, .int (nI jj), .int (nI 3), .int x22]) hx hb hml hts hown hK hE Dj_xl hI (qD_load G hst Z S0 (nI jj) (nI 3) x22 hR.1.1.1 hR.1.1.2.1) kw_does ⟨(Nat.le_of_ble_eq_true rfl), (Nat.le_of_ble_eq_true rfl)⟩ hl.1 (Nat.le_of_ble_eq_true rfl) dL_isVehicle_495 ⟨(Nat.le_of_ble_eq_true rfl), (Nat.le_of_ble_eq_true rfl)⟩ (fun v w1 H locs hpE hI => ?_)
                obtain ⟨hv, Z99, S99, M99, hR9, hA9, hw9⟩ : FIN G.2.2.2 G.2.1 Z t L (-30000000) v w1 := by subst ex22; subst enp env; exact fv1b hR ht5 hpE
                subst hv
                subst hw9
                refine lv_iload hx hb dL_isVehicle_498 (lv_at hl 2 rfl) ?_
                refine lv_if_ne (tgt := 508) hx hb dL_isVehicle_500 (by decide) (fun h => absurd h (by decide)) (fun _ => ?_)
                refine lv_ldc (v := -30000000) hx hb hown (hts _ q652) dL_isVehicle_503 ?_
                refine lv_goto (tgt := 535) hx hb dL_isVehicle_505 (by decide) ?_
                have hm : (-30000000 : Int32) = -30000000 := rfl
                refine lv_icmp_ne (tgt := 542) hx hb dL_isVehicle_535 (by decide) (fun h9 => absurd hm h9) (fun _ => ?_)
                refine lv_iconst (v := 1) hx hb dL_isVehicle_538 (by decide) ?_
                refine lv_goto (tgt := 543) hx hb dL_isVehicle_539 (by decide) ?_
                exact rt_z hx hb hr hlocks (by decide) hI hA hQ ⟨rfl, Z99, S99, M99, L, hR9, hA9, rfl⟩ (Nat.le_of_ble_eq_true rfl) (Nat.le_of_ble_eq_true rfl) dL_isVehicle_543
            refine lv_if_le (tgt := 408) hx hb dL_isVehicle_394 (by decide) (fun c25 => ?_) (fun c25 => ?_)
            · refine lv_iconst (v := 0) hx hb dL_isVehicle_408 (by decide) ?_
              have eb26 : (0 : Int32) = bI ((¬ (x22 ≤ 0)) ∧ (¬ ((L 4 (16 + jj)) < x22))) := (bI_f (fun k => k.1 c25)).symm
              rw [eb26]
              exact hJ24
            · refine lv_iload hx hb dL_isVehicle_397 (lv_at hl 1 rfl) ?_
              refine lv_iload hx hb dL_isVehicle_399 (lv_at hl 2 rfl) ?_
              refine lv_icmp_gt (tgt := 408) hx hb dL_isVehicle_401 (by decide) (fun c27 => ?_) (fun c27 => ?_)
              · refine lv_iconst (v := 0) hx hb dL_isVehicle_408 (by decide) ?_
                have eb28 : (0 : Int32) = bI ((¬ (x22 ≤ 0)) ∧ (¬ ((L 4 (16 + jj)) < x22))) := (bI_f (fun k => (fun k => k c27) k.2)).symm
                rw [eb28]
                exact hJ24
              · refine lv_iconst (v := 1) hx hb dL_isVehicle_404 (by decide) ?_
                refine lv_goto (tgt := 409) hx hb dL_isVehicle_405 (by decide) ?_
                have eb29 : (1 : Int32) = bI ((¬ (x22 ≤ 0)) ∧ (¬ ((L 4 (16 + jj)) < x22))) := (bI_t ⟨c25, c27⟩).symm
                rw [eb29]
                exact hJ24
          refine lv_if_ne (tgt := 350) hx hb dL_isVehicle_332 (by decide) (fun c30 => ?_) (fun c30 => ?_)
          · refine lv_iload hx hb dL_isVehicle_350 (lv_at hl 0 rfl) ?_
            refine lv_if_ne (tgt := 359) hx hb dL_isVehicle_352 (by decide) (fun c31 => ?_) (fun c31 => ?_)
            · refine lv_iconst (v := 1) hx hb dL_isVehicle_359 (by decide) ?_
              refine lv_iload hx hb dL_isVehicle_360 (lv_at hl 11 rfl) ?_
              refine lv_bipush (v := 9) hx hb dL_isVehicle_362 (by decide) ?_
              refine lv_idiv hx hb dL_isVehicle_364 (by decide) ?_
              refine lv_bipush (v := 7) hx hb dL_isVehicle_365 (by decide) ?_
              refine lv_imul hx hb dL_isVehicle_367 ?_
              refine lv_iload hx hb dL_isVehicle_368 (lv_at hl 0 rfl) ?_
              refine lv_irem hx hb dL_isVehicle_370 c31 ?_
              refine lv_iadd hx hb dL_isVehicle_371 ?_
              exact hJ23 (1 + (((two / 9) * 7) - ((two / 9) * 7) / (L 4 (16 + jj)) * (L 4 (16 + jj)))) (by exact ((if_neg c30).trans (if_neg c31)).symm)
            · refine lv_iconst (v := 1) hx hb dL_isVehicle_355 (by decide) ?_
              refine lv_goto (tgt := 372) hx hb dL_isVehicle_356 (by decide) ?_
              exact hJ23 1 (by exact ((if_neg c30).trans (if_pos c31)).symm)
          · refine lv_iload hx hb dL_isVehicle_335 (lv_at hl 11 rfl) ?_
            refine lv_bipush (v := 81) hx hb dL_isVehicle_337 (by decide) ?_
            refine lv_idiv hx hb dL_isVehicle_339 (by decide) ?_
            refine lv_iconst (v := 2) hx hb dL_isVehicle_340 (by decide) ?_
            refine lv_irem hx hb dL_isVehicle_341 (by decide) ?_
            refine lv_iload hx hb dL_isVehicle_342 (lv_at hl 0 rfl) ?_
            refine lv_iconst (v := 1) hx hb dL_isVehicle_344 (by decide) ?_
            refine lv_iadd hx hb dL_isVehicle_345 ?_
            refine lv_imul hx hb dL_isVehicle_346 ?_
            refine lv_goto (tgt := 372) hx hb dL_isVehicle_347 (by decide) ?_
            exact hJ23 (((two / 81) - (two / 81) / 2 * 2) * ((L 4 (16 + jj)) + 1)) (by exact (if_pos c30).symm)
      refine lv_icmp_ne (tgt := 300) hx hb dL_isVehicle_293 (by decide) (fun c32 => ?_) (fun c32 => ?_)
      · refine lv_iload hx hb dL_isVehicle_300 (lv_at hl 9 rfl) ?_
        refine lv_iconst (v := 3) hx hb dL_isVehicle_302 (by decide) ?_
        refine lv_irem hx hb dL_isVehicle_303 (by decide) ?_
        exact hJ2 (two - two / 3 * 3) (by exact (if_neg c32).symm)
      · refine lv_iconst (v := 3) hx hb dL_isVehicle_296 (by decide) ?_
        refine lv_goto (tgt := 304) hx hb dL_isVehicle_297 (by decide) ?_
        exact hJ2 3 (by exact (if_pos c32).symm)
    · have epp : jj = nv := by omega
      rw [epp]
      refine lv_istore (lv' := [(8, .int (nI nv)), (0, .ref (Z.A 0 0)), (1, .ref (la 3)), (2, .ref (la 4)), (3, .ref (la 5)), (4, .ref (la 6)), (5, .int 0), (6, .int one), (7, .int two)]) hx hb dL_isVehicle_262 hl (by decide) rfl (fun ls hl => ?_)
      refine lv_iload hx hb dL_isVehicle_264 (lv_at hl 0 rfl) ?_
      refine lv_aload hx hb dL_isVehicle_266 (lv_at hl 5 rfl) ?_
      refine lv_iconst (v := 4) hx hb dL_isVehicle_268 (by decide) ?_
      refine gA (k := 6) (n := 5) (q := 4) hx hb hK hI (by decide) rfl (by unfold vp_in; decide) (by decide) dL_isVehicle_269 ?_
      rw [h64]
      refine lv_icmp_ge (tgt := 277) hx hb dL_isVehicle_270 (by decide) (fun _ => ?_) (fun h9 => absurd (nI_le (Nat.le_refl nv) (by omega)) h9)
      refine lv_iconst (v := 0) hx hb dL_isVehicle_277 (by decide) ?_
      refine lv_istore (lv' := [(9, .int 0), (8, .int (nI nv)), (0, .ref (Z.A 0 0)), (1, .ref (la 3)), (2, .ref (la 4)), (3, .ref (la 5)), (4, .ref (la 6)), (5, .int 0), (6, .int one), (7, .int two)]) hx hb dL_isVehicle_278 hl (by decide) rfl (fun ls hl => ?_)
      refine lv_iload hx hb dL_isVehicle_280 (lv_at hl 7 rfl) ?_
      refine lv_iconst (v := 2) hx hb dL_isVehicle_282 (by decide) ?_
      refine lv_icmp_ge (tgt := 544) hx hb dL_isVehicle_283 (by decide) (fun h => absurd h (by decide)) (fun _ => ?_)
      refine lv_iload hx hb dL_isVehicle_286 (lv_at hl 9 rfl) ?_
      refine lv_bipush (v := 9) hx hb dL_isVehicle_288 (by decide) ?_
      refine lv_irem hx hb dL_isVehicle_290 (by decide) ?_
      refine lv_bipush (v := 8) hx hb dL_isVehicle_291 (by decide) ?_
      have hJ34 : ∀ (x33 : Int32), (x33 = if (two - two / 9 * 9) = 8 then 3 else (two - two / 3 * 3)) → W p G.1 e ({ frames := 9, cells := 5, slots := 802, locals := 263 }) s m args below meth c H locs 0 0 Q (F0 m 304 ls [.int x33]) := by
        intro x33 ex33
        refine lv_istore (lv' := [(10, .int x33), (9, .int 0), (8, .int (nI nv)), (0, .ref (Z.A 0 0)), (1, .ref (la 3)), (2, .ref (la 4)), (3, .ref (la 5)), (4, .ref (la 6)), (5, .int 0), (6, .int one), (7, .int two)]) hx hb dL_isVehicle_304 hl (by decide) rfl (fun ls hl => ?_)
        refine lv_iload hx hb dL_isVehicle_306 (lv_at hl 1 rfl) ?_
        refine lv_if_eq (tgt := 321) hx hb dL_isVehicle_308 (by decide) (fun _ => ?_) (fun h => absurd h (by decide))
        refine lv_iconst (v := 0) hx hb dL_isVehicle_321 (by decide) ?_
        refine lv_istore (lv' := [(11, .int 0), (10, .int x33), (9, .int 0), (8, .int (nI nv)), (0, .ref (Z.A 0 0)), (1, .ref (la 3)), (2, .ref (la 4)), (3, .ref (la 5)), (4, .ref (la 6)), (5, .int 0), (6, .int one), (7, .int two)]) hx hb dL_isVehicle_322 hl (by decide) rfl (fun ls hl => ?_)
        refine lv_iload hx hb dL_isVehicle_324 (lv_at hl 11 rfl) ?_
        refine lv_bipush (v := 9) hx hb dL_isVehicle_326 (by decide) ?_
        refine lv_idiv hx hb dL_isVehicle_328 (by decide) ?_
        refine lv_bipush (v := 9) hx hb dL_isVehicle_329 (by decide) ?_
        refine lv_irem hx hb dL_isVehicle_331 (by decide) ?_
        have hJ36 : ∀ (x35 : Int32), (x35 = if ((two / 9) - (two / 9) / 9 * 9) = 0 then (((two / 81) - (two / 81) / 2 * 2) * 1) else 1) → W p G.1 e ({ frames := 9, cells := 5, slots := 802, locals := 263 }) s m args below meth c H locs 0 0 Q (F0 m 372 ls [.int x35]) := by
          intro x35 ex35
          refine lv_istore (lv' := [(12, .int x35), (11, .int 0), (10, .int x33), (9, .int 0), (8, .int (nI nv)), (0, .ref (Z.A 0 0)), (1, .ref (la 3)), (2, .ref (la 4)), (3, .ref (la 5)), (4, .ref (la 6)), (5, .int 0), (6, .int one), (7, .int two)]) hx hb dL_isVehicle_372 hl (by decide) rfl (fun ls hl => ?_)
          refine lv_iload hx hb dL_isVehicle_374 (lv_at hl 3 rfl) ?_
          refine lv_if_eq (tgt := 389) hx hb dL_isVehicle_376 (by decide) (fun _ => ?_) (fun h => absurd h (by decide))
          refine lv_iconst (v := 0) hx hb dL_isVehicle_389 (by decide) ?_
          refine lv_istore (lv' := [(13, .int 0), (12, .int x35), (11, .int 0), (10, .int x33), (9, .int 0), (8, .int (nI nv)), (0, .ref (Z.A 0 0)), (1, .ref (la 3)), (2, .ref (la 4)), (3, .ref (la 5)), (4, .ref (la 6)), (5, .int 0), (6, .int one), (7, .int two)]) hx hb dL_isVehicle_390 hl (by decide) rfl (fun ls hl => ?_)
          refine lv_iload hx hb dL_isVehicle_392 (lv_at hl 1 rfl) ?_
          have hJ37 : W p G.1 e ({ frames := 9, cells := 5, slots := 802, locals := 263 }) s m args below meth c H locs 0 0 Q (F0 m 409 ls [.int (bI ((¬ (x35 ≤ 0)) ∧ (¬ (0 < x35))))]) := by
            by_cases hb14 : (¬ (x35 ≤ 0)) ∧ (¬ (0 < x35))
            · rw [bI_t hb14]
              refine lv_istore (lv' := [(14, .int 1), (13, .int 0), (12, .int x35), (11, .int 0), (10, .int x33), (9, .int 0), (8, .int (nI nv)), (0, .ref (Z.A 0 0)), (1, .ref (la 3)), (2, .ref (la 4)), (3, .ref (la 5)), (4, .ref (la 6)), (5, .int 0), (6, .int one), (7, .int two)]) hx hb dL_isVehicle_409 hl (by decide) rfl (fun ls hl => ?_)
              refine lv_iload hx hb dL_isVehicle_411 (lv_at hl 1 rfl) ?_
              refine lv_if_eq (tgt := 445) hx hb dL_isVehicle_413 (by decide) (fun _ => ?_) (fun h => absurd h (by decide))
              refine lv_iconst (v := 0) hx hb dL_isVehicle_445 (by decide) ?_
              refine lv_istore (lv' := [(15, .int 0), (14, .int 1), (13, .int 0), (12, .int x35), (11, .int 0), (10, .int x33), (9, .int 0), (8, .int (nI nv)), (0, .ref (Z.A 0 0)), (1, .ref (la 3)), (2, .ref (la 4)), (3, .ref (la 5)), (4, .ref (la 6)), (5, .int 0), (6, .int one), (7, .int two)]) hx hb dL_isVehicle_446 hl (by decide) rfl (fun ls hl => ?_)
              refine lv_iload hx hb dL_isVehicle_448 (lv_at hl 0 rfl) ?_
              refine lv_if_eq (tgt := 486) hx hb dL_isVehicle_450 (by decide) (fun _ => ?_) (fun h => absurd h (by decide))
              refine lv_aload_n hx hb dL_isVehicle_486 rfl (lv_at hl 8 rfl) ?_
              refine lv_bipush (v := 10) hx hb dL_isVehicle_487 (by decide) ?_
              refine lv_iload hx hb dL_isVehicle_489 (lv_at hl 7 rfl) ?_
              refine lv_iload hx hb dL_isVehicle_491 (lv_at hl 5 rfl) ?_
              refine lv_iload hx hb dL_isVehicle_493 (lv_at hl 3 rfl) ?_
              refine jx_callH (rest := []) (as := [.ref (Z.A 0 0), .int 10, .int (nI nv), .int x33, .int x35]) hx hb hml hts hown hK hE Dj_xl hI (qD_load G hst Z S0 (nI nv) x33 x35 hR.1.1.1 hR.1.1.2.1) kw_does ⟨(Nat.le_of_ble_eq_true rfl), (Nat.le_of_ble_eq_true rfl)⟩ hl.1 (Nat.le_of_ble_eq_true rfl) dL_isVehicle_495 ⟨(Nat.le_of_ble_eq_true rfl), (Nat.le_of_ble_eq_true rfl)⟩ (fun v w1 H locs hpE hI => ?_)
              obtain ⟨hv, Z99, S99, M99, hR9, hA9, hw9⟩ : FIN G.2.2.2 G.2.1 Z t L (-30000000) v w1 := by subst ex35 ex33; subst enp env; exact fv1a hR ht5 hpE
              subst hv
              subst hw9
              refine lv_iload hx hb dL_isVehicle_498 (lv_at hl 2 rfl) ?_
              refine lv_if_ne (tgt := 508) hx hb dL_isVehicle_500 (by decide) (fun h => absurd h (by decide)) (fun _ => ?_)
              refine lv_ldc (v := -30000000) hx hb hown (hts _ q652) dL_isVehicle_503 ?_
              refine lv_goto (tgt := 535) hx hb dL_isVehicle_505 (by decide) ?_
              have hm : (-30000000 : Int32) = -30000000 := rfl
              refine lv_icmp_ne (tgt := 542) hx hb dL_isVehicle_535 (by decide) (fun h9 => absurd hm h9) (fun _ => ?_)
              refine lv_iconst (v := 1) hx hb dL_isVehicle_538 (by decide) ?_
              refine lv_goto (tgt := 543) hx hb dL_isVehicle_539 (by decide) ?_
              exact rt_z hx hb hr hlocks (by decide) hI hA hQ ⟨rfl, Z99, S99, M99, L, hR9, hA9, rfl⟩ (Nat.le_of_ble_eq_true rfl) (Nat.le_of_ble_eq_true rfl) dL_isVehicle_543
            · rw [bI_f hb14]
              refine lv_istore (lv' := [(14, .int 0), (13, .int 0), (12, .int x35), (11, .int 0), (10, .int x33), (9, .int 0), (8, .int (nI nv)), (0, .ref (Z.A 0 0)), (1, .ref (la 3)), (2, .ref (la 4)), (3, .ref (la 5)), (4, .ref (la 6)), (5, .int 0), (6, .int one), (7, .int two)]) hx hb dL_isVehicle_409 hl (by decide) rfl (fun ls hl => ?_)
              refine lv_iload hx hb dL_isVehicle_411 (lv_at hl 1 rfl) ?_
              refine lv_if_eq (tgt := 445) hx hb dL_isVehicle_413 (by decide) (fun _ => ?_) (fun h => absurd h (by decide))
              refine lv_iconst (v := 0) hx hb dL_isVehicle_445 (by decide) ?_
              refine lv_istore (lv' := [(15, .int 0), (14, .int 0), (13, .int 0), (12, .int x35), (11, .int 0), (10, .int x33), (9, .int 0), (8, .int (nI nv)), (0, .ref (Z.A 0 0)), (1, .ref (la 3)), (2, .ref (la 4)), (3, .ref (la 5)), (4, .ref (la 6)), (5, .int 0), (6, .int one), (7, .int two)]) hx hb dL_isVehicle_446 hl (by decide) rfl (fun ls hl => ?_)
              refine lv_iload hx hb dL_isVehicle_448 (lv_at hl 0 rfl) ?_
              refine lv_if_eq (tgt := 486) hx hb dL_isVehicle_450 (by decide) (fun _ => ?_) (fun h => absurd h (by decide))
              refine lv_aload_n hx hb dL_isVehicle_486 rfl (lv_at hl 8 rfl) ?_
              refine lv_bipush (v := 10) hx hb dL_isVehicle_487 (by decide) ?_
              refine lv_iload hx hb dL_isVehicle_489 (lv_at hl 7 rfl) ?_
              refine lv_iload hx hb dL_isVehicle_491 (lv_at hl 5 rfl) ?_
              refine lv_iload hx hb dL_isVehicle_493 (lv_at hl 3 rfl) ?_
              refine jx_callH (rest := []) (as := [.ref (Z.A 0 0), .int 10, .int (nI nv), .int x33, .int x35]) hx hb hml hts hown hK hE Dj_xl hI (qD_load G hst Z S0 (nI nv) x33 x35 hR.1.1.1 hR.1.1.2.1) kw_does ⟨(Nat.le_of_ble_eq_true rfl), (Nat.le_of_ble_eq_true rfl)⟩ hl.1 (Nat.le_of_ble_eq_true rfl) dL_isVehicle_495 ⟨(Nat.le_of_ble_eq_true rfl), (Nat.le_of_ble_eq_true rfl)⟩ (fun v w1 H locs hpE hI => ?_)
              obtain ⟨hv, Z99, S99, M99, hR9, hA9, hw9⟩ : FIN G.2.2.2 G.2.1 Z t L (-30000000) v w1 := by subst ex35 ex33; subst enp env; exact fv1a hR ht5 hpE
              subst hv
              subst hw9
              refine lv_iload hx hb dL_isVehicle_498 (lv_at hl 2 rfl) ?_
              refine lv_if_ne (tgt := 508) hx hb dL_isVehicle_500 (by decide) (fun h => absurd h (by decide)) (fun _ => ?_)
              refine lv_ldc (v := -30000000) hx hb hown (hts _ q652) dL_isVehicle_503 ?_
              refine lv_goto (tgt := 535) hx hb dL_isVehicle_505 (by decide) ?_
              have hm : (-30000000 : Int32) = -30000000 := rfl
              refine lv_icmp_ne (tgt := 542) hx hb dL_isVehicle_535 (by decide) (fun h9 => absurd hm h9) (fun _ => ?_)
              refine lv_iconst (v := 1) hx hb dL_isVehicle_538 (by decide) ?_
              refine lv_goto (tgt := 543) hx hb dL_isVehicle_539 (by decide) ?_
              exact rt_z hx hb hr hlocks (by decide) hI hA hQ ⟨rfl, Z99, S99, M99, L, hR9, hA9, rfl⟩ (Nat.le_of_ble_eq_true rfl) (Nat.le_of_ble_eq_true rfl) dL_isVehicle_543
          refine lv_if_le (tgt := 408) hx hb dL_isVehicle_394 (by decide) (fun c38 => ?_) (fun c38 => ?_)
          · refine lv_iconst (v := 0) hx hb dL_isVehicle_408 (by decide) ?_
            have eb39 : (0 : Int32) = bI ((¬ (x35 ≤ 0)) ∧ (¬ (0 < x35))) := (bI_f (fun k => k.1 c38)).symm
            rw [eb39]
            exact hJ37
          · refine lv_iload hx hb dL_isVehicle_397 (lv_at hl 1 rfl) ?_
            refine lv_iload hx hb dL_isVehicle_399 (lv_at hl 2 rfl) ?_
            refine lv_icmp_gt (tgt := 408) hx hb dL_isVehicle_401 (by decide) (fun c40 => ?_) (fun c40 => ?_)
            · refine lv_iconst (v := 0) hx hb dL_isVehicle_408 (by decide) ?_
              have eb41 : (0 : Int32) = bI ((¬ (x35 ≤ 0)) ∧ (¬ (0 < x35))) := (bI_f (fun k => (fun k => k c40) k.2)).symm
              rw [eb41]
              exact hJ37
            · refine lv_iconst (v := 1) hx hb dL_isVehicle_404 (by decide) ?_
              refine lv_goto (tgt := 409) hx hb dL_isVehicle_405 (by decide) ?_
              have eb42 : (1 : Int32) = bI ((¬ (x35 ≤ 0)) ∧ (¬ (0 < x35))) := (bI_t ⟨c38, c40⟩).symm
              rw [eb42]
              exact hJ37
        refine lv_if_ne (tgt := 350) hx hb dL_isVehicle_332 (by decide) (fun c43 => ?_) (fun c43 => ?_)
        · refine lv_iload hx hb dL_isVehicle_350 (lv_at hl 0 rfl) ?_
          refine lv_if_ne (tgt := 359) hx hb dL_isVehicle_352 (by decide) (fun h => absurd h (by decide)) (fun _ => ?_)
          refine lv_iconst (v := 1) hx hb dL_isVehicle_355 (by decide) ?_
          refine lv_goto (tgt := 372) hx hb dL_isVehicle_356 (by decide) ?_
          exact hJ36 1 (by exact (if_neg c43).symm)
        · refine lv_iload hx hb dL_isVehicle_335 (lv_at hl 11 rfl) ?_
          refine lv_bipush (v := 81) hx hb dL_isVehicle_337 (by decide) ?_
          refine lv_idiv hx hb dL_isVehicle_339 (by decide) ?_
          refine lv_iconst (v := 2) hx hb dL_isVehicle_340 (by decide) ?_
          refine lv_irem hx hb dL_isVehicle_341 (by decide) ?_
          refine lv_iload hx hb dL_isVehicle_342 (lv_at hl 0 rfl) ?_
          refine lv_iconst (v := 1) hx hb dL_isVehicle_344 (by decide) ?_
          refine lv_iadd hx hb dL_isVehicle_345 ?_
          rw [show (0 : Int32) + 1 = 1 by decide]
          refine lv_imul hx hb dL_isVehicle_346 ?_
          refine lv_goto (tgt := 372) hx hb dL_isVehicle_347 (by decide) ?_
          exact hJ36 (((two / 81) - (two / 81) / 2 * 2) * 1) (by exact (if_pos c43).symm)
      refine lv_icmp_ne (tgt := 300) hx hb dL_isVehicle_293 (by decide) (fun c44 => ?_) (fun c44 => ?_)
      · refine lv_iload hx hb dL_isVehicle_300 (lv_at hl 9 rfl) ?_
        refine lv_iconst (v := 3) hx hb dL_isVehicle_302 (by decide) ?_
        refine lv_irem hx hb dL_isVehicle_303 (by decide) ?_
        exact hJ34 (two - two / 3 * 3) (by exact (if_neg c44).symm)
      · refine lv_iconst (v := 3) hx hb dL_isVehicle_296 (by decide) ?_
        refine lv_goto (tgt := 304) hx hb dL_isVehicle_297 (by decide) ?_
        exact hJ34 3 (by exact (if_pos c44).symm)
  · have h8 : nv < 8 := by
      rcases Nat.lt_or_ge nv 8 with z | z
      · exact z
      · exact absurd (nI_le (a := 8) z (by omega)) h80
    refine lv_icmp_ge (tgt := 253) hx hb dL_isVehicle_11 (by decide) (fun h9 => absurd h9 h80) (fun _ => ?_)
    refine lv_iload hx hb dL_isVehicle_14 (lv_at hl 6 rfl) ?_
    refine lv_bipush (v := 9) hx hb dL_isVehicle_16 (by decide) ?_
    refine lv_irem hx hb dL_isVehicle_18 (by decide) ?_
    have hJ46 : ∀ (x45 : Int32), (x45 = if (one - one / 9 * 9) = 0 then (one - one / 40002 * 40002) else (500 + (one - one / 9000 * 9000))) → W p G.1 e ({ frames := 9, cells := 5, slots := 802, locals := 263 }) s m args below meth c H locs 0 0 Q (F0 m 40 ls [.int x45]) := by
      intro x45 ex45
      refine lv_istore (lv' := [(8, .int x45), (0, .ref (Z.A 0 0)), (1, .ref (la 3)), (2, .ref (la 4)), (3, .ref (la 5)), (4, .ref (la 6)), (5, .int 0), (6, .int one), (7, .int two)]) hx hb dL_isVehicle_40 hl (by decide) rfl (fun ls hl => ?_)
      refine lv_iload hx hb dL_isVehicle_42 (lv_at hl 8 rfl) ?_
      refine lv_bipush (v := 9) hx hb dL_isVehicle_44 (by decide) ?_
      refine lv_irem hx hb dL_isVehicle_46 (by decide) ?_
      have hJ48 : ∀ (x47 : Int32), (x47 = if (two - two / 9 * 9) = 0 then (two - two / 60002 * 60002) else (two - two / 20000 * 20000)) → W p G.1 e ({ frames := 9, cells := 5, slots := 802, locals := 263 }) s m args below meth c H locs 0 0 Q (F0 m 64 ls [.int x47]) := by
        intro x47 ex47
        refine lv_istore (lv' := [(9, .int x47), (8, .int x45), (0, .ref (Z.A 0 0)), (1, .ref (la 3)), (2, .ref (la 4)), (3, .ref (la 5)), (4, .ref (la 6)), (5, .int 0), (6, .int one), (7, .int two)]) hx hb dL_isVehicle_64 hl (by decide) rfl (fun ls hl => ?_)
        refine lv_iload hx hb dL_isVehicle_66 (lv_at hl 8 rfl) ?_
        refine lv_bipush (v := 9) hx hb dL_isVehicle_68 (by decide) ?_
        refine lv_idiv hx hb dL_isVehicle_70 (by decide) ?_
        refine lv_bipush (v := 9) hx hb dL_isVehicle_71 (by decide) ?_
        refine lv_irem hx hb dL_isVehicle_73 (by decide) ?_
        have hJ50 : ∀ (x49 : Int32), (x49 = if ((one / 9) - (one / 9) / 9 * 9) = 0 then ((one / 81) - (one / 81) / 302 * 302) else (30 + ((one / 9) - (one / 9) / 90 * 90))) → W p G.1 e ({ frames := 9, cells := 5, slots := 802, locals := 263 }) s m args below meth c H locs 0 0 Q (F0 m 100 ls [.int x49]) := by
          intro x49 ex49
          refine lv_istore (lv' := [(10, .int x49), (9, .int x47), (8, .int x45), (0, .ref (Z.A 0 0)), (1, .ref (la 3)), (2, .ref (la 4)), (3, .ref (la 5)), (4, .ref (la 6)), (5, .int 0), (6, .int one), (7, .int two)]) hx hb dL_isVehicle_100 hl (by decide) rfl (fun ls hl => ?_)
          have hca : 0 ≤ Int32.toInt x47 := nB_0 (n := 60002) (nB_ite ex47 (nB_up (rem_nB (b := 60002) h2 (by decide) rfl (by decide) (by decide)) (by decide)) (nB_up (rem_nB (b := 20000) h2 (by decide) rfl (by decide) (by decide)) (by decide))) (by decide)
          refine lv_iload hx hb dL_isVehicle_102 (lv_at hl 2 rfl) ?_
          refine lv_sipush (v := 499) hx hb dL_isVehicle_104 (by decide) ?_
          have hJ51 : W p G.1 e ({ frames := 9, cells := 5, slots := 802, locals := 263 }) s m args below meth c H locs 0 0 Q (F0 m 142 ls [.int (bI ((¬ (x45 ≤ 499)) ∧ ((¬ (40001 ≤ x45)) ∧ ((¬ (60001 ≤ x47)) ∧ ((¬ (x49 ≤ 0)) ∧ (¬ (301 ≤ x49)))))))]) := by
            by_cases hb11 : (¬ (x45 ≤ 499)) ∧ ((¬ (40001 ≤ x45)) ∧ ((¬ (60001 ≤ x47)) ∧ ((¬ (x49 ≤ 0)) ∧ (¬ (301 ≤ x49)))))
            · rw [bI_t hb11]
              refine lv_istore (lv' := [(11, .int 1), (10, .int x49), (9, .int x47), (8, .int x45), (0, .ref (Z.A 0 0)), (1, .ref (la 3)), (2, .ref (la 4)), (3, .ref (la 5)), (4, .ref (la 6)), (5, .int 0), (6, .int one), (7, .int two)]) hx hb dL_isVehicle_142 hl (by decide) rfl (fun ls hl => ?_)
              refine lv_iload hx hb dL_isVehicle_144 (lv_at hl 0 rfl) ?_
              refine lv_if_eq (tgt := 160) hx hb dL_isVehicle_146 (by decide) (fun h => absurd h (by decide)) (fun _ => ?_)
              refine lv_aload hx hb dL_isVehicle_149 (lv_at hl 8 rfl) ?_
              refine lv_iconst (v := 3) hx hb dL_isVehicle_151 (by decide) ?_
              refine gA (k := 6) (n := 5) (q := 3) hx hb hK hI (by decide) rfl (by unfold vp_in; decide) (by decide) dL_isVehicle_152 ?_
              rw [h63]
              have hJ52 : W p G.1 e ({ frames := 9, cells := 5, slots := 802, locals := 263 }) s m args below meth c H locs 0 0 Q (F0 m 161 ls [.int (bI (¬ ((nI np) ≤ 0)))]) := by
                by_cases hb12 : ¬ ((nI np) ≤ 0)
                · rw [bI_t hb12]
                  refine lv_istore (lv' := [(12, .int 1), (11, .int 1), (10, .int x49), (9, .int x47), (8, .int x45), (0, .ref (Z.A 0 0)), (1, .ref (la 3)), (2, .ref (la 4)), (3, .ref (la 5)), (4, .ref (la 6)), (5, .int 0), (6, .int one), (7, .int two)]) hx hb dL_isVehicle_161 hl (by decide) rfl (fun ls hl => ?_)
                  refine lv_iload hx hb dL_isVehicle_163 (lv_at hl 0 rfl) ?_
                  refine lv_if_eq (tgt := 206) hx hb dL_isVehicle_165 (by decide) (fun h => absurd h (by decide)) (fun _ => ?_)
                  refine lv_aload_n hx hb dL_isVehicle_168 rfl (lv_at hl 7 rfl) ?_
                  refine lv_aload hx hb dL_isVehicle_169 (lv_at hl 9 rfl) ?_
                  refine lv_iconst (v := 4) hx hb dL_isVehicle_171 (by decide) ?_
                  refine gA (k := 6) (n := 5) (q := 4) hx hb hK hI (by decide) rfl (by unfold vp_in; decide) (by decide) dL_isVehicle_172 ?_
                  rw [h64]
                  refine lv_iload hx hb dL_isVehicle_173 (lv_at hl 4 rfl) ?_
                  obtain ⟨S53, eS53⟩ : ∃ z : LwS, z = lset L 4 nv x45 := ⟨_, rfl⟩
                  refine sA (k := 4) (n := 40) (q := nv) hx hb hK hI (by decide) rfl (vp_in_nI (Nat.lt_of_lt_of_le h8 (by decide)) (by decide)) (nI_clamp (Nat.lt_of_lt_of_le h8 (by decide))) eS53 dL_isVehicle_175 (fun H locs hI => ?_)
                  refine lv_aload_n hx hb dL_isVehicle_176 rfl (lv_at hl 7 rfl) ?_
                  refine lv_bipush (v := 16) hx hb dL_isVehicle_177 (by decide) ?_
                  refine lv_aload hx hb dL_isVehicle_179 (lv_at hl 9 rfl) ?_
                  refine lv_iconst (v := 4) hx hb dL_isVehicle_181 (by decide) ?_
                  refine gA (k := 6) (n := 5) (q := 4) hx hb hK hI (by decide) rfl (by unfold vp_in; decide) (by decide) dL_isVehicle_182 ?_
                  rw [(show S53 6 4 = nI nv by rw [eS53, lset_k (by decide)]; exact h64)]
                  refine lv_iadd hx hb dL_isVehicle_183 ?_
                  refine lv_iload hx hb dL_isVehicle_184 (lv_at hl 3 rfl) ?_
                  obtain ⟨S54, eS54⟩ : ∃ z : LwS, z = lset S53 4 (16 + nv) x47 := ⟨_, rfl⟩
                  refine sA (k := 4) (n := 40) (q := 16 + nv) hx hb hK hI (by decide) rfl (vo_n 16 rfl h8 (by decide) (by decide)) (vo_nc 16 rfl h8 (by decide)) eS54 dL_isVehicle_186 (fun H locs hI => ?_)
                  refine lv_aload_n hx hb dL_isVehicle_187 rfl (lv_at hl 7 rfl) ?_
                  refine lv_bipush (v := 24) hx hb dL_isVehicle_188 (by decide) ?_
                  refine lv_aload hx hb dL_isVehicle_190 (lv_at hl 9 rfl) ?_
                  refine lv_iconst (v := 4) hx hb dL_isVehicle_192 (by decide) ?_
                  refine gA (k := 6) (n := 5) (q := 4) hx hb hK hI (by decide) rfl (by unfold vp_in; decide) (by decide) dL_isVehicle_193 ?_
                  rw [(show S54 6 4 = nI nv by rw [eS54, lset_k (by decide)]; exact (show S53 6 4 = nI nv by rw [eS53, lset_k (by decide)]; exact h64))]
                  refine lv_iadd hx hb dL_isVehicle_194 ?_
                  refine lv_iload hx hb dL_isVehicle_195 (lv_at hl 2 rfl) ?_
                  obtain ⟨S55, eS55⟩ : ∃ z : LwS, z = lset S54 4 (24 + nv) x49 := ⟨_, rfl⟩
                  refine sA (k := 4) (n := 40) (q := 24 + nv) hx hb hK hI (by decide) rfl (vo_n 24 rfl h8 (by decide) (by decide)) (vo_nc 24 rfl h8 (by decide)) eS55 dL_isVehicle_197 (fun H locs hI => ?_)
                  refine lv_aload hx hb dL_isVehicle_198 (lv_at hl 9 rfl) ?_
                  refine lv_iconst (v := 4) hx hb dL_isVehicle_200 (by decide) ?_
                  refine lv_dup2_11 hx hb dL_isVehicle_201 rfl rfl ?_
                  refine gA (k := 6) (n := 5) (q := 4) hx hb hK hI (by decide) rfl (by unfold vp_in; decide) (by decide) dL_isVehicle_202 ?_
                  rw [(show S55 6 4 = nI nv by rw [eS55, lset_k (by decide)]; exact (show S54 6 4 = nI nv by rw [eS54, lset_k (by decide)]; exact (show S53 6 4 = nI nv by rw [eS53, lset_k (by decide)]; exact h64)))]
                  refine lv_iconst (v := 1) hx hb dL_isVehicle_203 (by decide) ?_
                  refine lv_iadd hx hb dL_isVehicle_204 ?_
                  obtain ⟨S56, eS56⟩ : ∃ z : LwS, z = lset S55 6 4 ((nI nv) + 1) := ⟨_, rfl⟩
                  refine sA (k := 6) (n := 5) (q := 4) hx hb hK hI (by decide) rfl (by unfold vp_in; decide) (by decide) eS56 dL_isVehicle_205 (fun H locs hI => ?_)
                  refine lv_aload_n hx hb dL_isVehicle_206 rfl (lv_at hl 5 rfl) ?_
                  refine lv_bipush (v := 9) hx hb dL_isVehicle_207 (by decide) ?_
                  refine lv_iload hx hb dL_isVehicle_209 (lv_at hl 4 rfl) ?_
                  refine lv_iload hx hb dL_isVehicle_211 (lv_at hl 3 rfl) ?_
                  refine lv_iload hx hb dL_isVehicle_213 (lv_at hl 2 rfl) ?_
                  refine jx_callH (rest := []) (as := [.ref (Z.A 0 0), .int 9, .int x45, .int x47, .int x49]) hx hb hml hts hown hK hE Dj_xl hI (qD_vehicle G hst Z S0 x45 x47 x49 hR.1.1.1 hR.1.1.2.1) kw_does ⟨(Nat.le_of_ble_eq_true rfl), (Nat.le_of_ble_eq_true rfl)⟩ hl.1 (Nat.le_of_ble_eq_true rfl) dL_isVehicle_215 ⟨(Nat.le_of_ble_eq_true rfl), (Nat.le_of_ble_eq_true rfl)⟩ (fun v w1 H locs hpE hI => ?_)
                  obtain ⟨hv, Z99, S99, M99, hR9, hA9, hw9⟩ : FIN G.2.2.2 G.2.1 Z t S56 (nI nv) v w1 := by subst eS56 eS55 eS54 eS53 ex49 ex47 ex45; subst enp env; exact fv0b hR ht5 h8 ⟨⟨by have := (i_le (n := 499) (by decide)).mp hb11.1; omega, by have := (i_ge (n := 40001) (by decide)).mp hb11.2.1; omega⟩, ⟨hca, by have := (i_ge (n := 60001) (by decide)).mp hb11.2.2.1; omega⟩, ⟨by have := (i_le (n := 0) (by decide)).mp hb11.2.2.2.1; omega, by have := (i_ge (n := 301) (by decide)).mp hb11.2.2.2.2; omega⟩⟩ (Nat.pos_of_ne_zero (fun z => hb12 (by rw [z]; decide))) hpE
                  subst hv
                  subst hw9
                  refine lv_iload hx hb dL_isVehicle_218 (lv_at hl 1 rfl) ?_
                  refine lv_if_ne (tgt := 228) hx hb dL_isVehicle_220 (by decide) (fun _ => ?_) (fun h => absurd h (by decide))
                  refine lv_iload hx hb dL_isVehicle_228 (lv_at hl 0 rfl) ?_
                  refine lv_if_eq (tgt := 242) hx hb dL_isVehicle_230 (by decide) (fun h => absurd h (by decide)) (fun _ => ?_)
                  refine lv_aload hx hb dL_isVehicle_233 (lv_at hl 9 rfl) ?_
                  refine lv_iconst (v := 4) hx hb dL_isVehicle_235 (by decide) ?_
                  refine gA (k := 6) (n := 5) (q := 4) hx hb hK hI (by decide) rfl (by unfold vp_in; decide) (by decide) dL_isVehicle_236 ?_
                  refine lv_iconst (v := 1) hx hb dL_isVehicle_237 (by decide) ?_
                  refine lv_isub hx hb dL_isVehicle_238 ?_
                  refine lv_goto (tgt := 244) hx hb dL_isVehicle_239 (by decide) ?_
                  have hm : (nI nv : Int32) = (S56 6 4) - 1 := by rw [eS56, lset_s]; exact (Int32.add_sub_cancel _ _).symm
                  refine lv_icmp_ne (tgt := 251) hx hb dL_isVehicle_244 (by decide) (fun h9 => absurd hm h9) (fun _ => ?_)
                  refine lv_iconst (v := 1) hx hb dL_isVehicle_247 (by decide) ?_
                  refine lv_goto (tgt := 252) hx hb dL_isVehicle_248 (by decide) ?_
                  exact rt_z hx hb hr hlocks (by decide) hI hA hQ ⟨rfl, Z99, S99, M99, S56, hR9, hA9, rfl⟩ (Nat.le_of_ble_eq_true rfl) (Nat.le_of_ble_eq_true rfl) dL_isVehicle_252
                · rw [bI_f hb12]
                  refine lv_istore (lv' := [(12, .int 0), (11, .int 1), (10, .int x49), (9, .int x47), (8, .int x45), (0, .ref (Z.A 0 0)), (1, .ref (la 3)), (2, .ref (la 4)), (3, .ref (la 5)), (4, .ref (la 6)), (5, .int 0), (6, .int one), (7, .int two)]) hx hb dL_isVehicle_161 hl (by decide) rfl (fun ls hl => ?_)
                  refine lv_iload hx hb dL_isVehicle_163 (lv_at hl 0 rfl) ?_
                  refine lv_if_eq (tgt := 206) hx hb dL_isVehicle_165 (by decide) (fun _ => ?_) (fun h => absurd h (by decide))
                  refine lv_aload_n hx hb dL_isVehicle_206 rfl (lv_at hl 5 rfl) ?_
                  refine lv_bipush (v := 9) hx hb dL_isVehicle_207 (by decide) ?_
                  refine lv_iload hx hb dL_isVehicle_209 (lv_at hl 4 rfl) ?_
                  refine lv_iload hx hb dL_isVehicle_211 (lv_at hl 3 rfl) ?_
                  refine lv_iload hx hb dL_isVehicle_213 (lv_at hl 2 rfl) ?_
                  refine jx_callH (rest := []) (as := [.ref (Z.A 0 0), .int 9, .int x45, .int x47, .int x49]) hx hb hml hts hown hK hE Dj_xl hI (qD_vehicle G hst Z S0 x45 x47 x49 hR.1.1.1 hR.1.1.2.1) kw_does ⟨(Nat.le_of_ble_eq_true rfl), (Nat.le_of_ble_eq_true rfl)⟩ hl.1 (Nat.le_of_ble_eq_true rfl) dL_isVehicle_215 ⟨(Nat.le_of_ble_eq_true rfl), (Nat.le_of_ble_eq_true rfl)⟩ (fun v w1 H locs hpE hI => ?_)
                  obtain ⟨hv, Z99, S99, M99, hR9, hA9, hw9⟩ : FIN G.2.2.2 G.2.1 Z t L (-10000000) v w1 := by subst ex49 ex47 ex45; subst enp env; exact fv0c hR ht5 ⟨⟨by have := (i_le (n := 499) (by decide)).mp hb11.1; omega, by have := (i_ge (n := 40001) (by decide)).mp hb11.2.1; omega⟩, ⟨hca, by have := (i_ge (n := 60001) (by decide)).mp hb11.2.2.1; omega⟩, ⟨by have := (i_le (n := 0) (by decide)).mp hb11.2.2.2.1; omega, by have := (i_ge (n := 301) (by decide)).mp hb11.2.2.2.2; omega⟩⟩ (Classical.byContradiction (fun z => hb12 (nI_nle (by omega) (by omega)))) hpE
                  subst hv
                  subst hw9
                  refine lv_iload hx hb dL_isVehicle_218 (lv_at hl 1 rfl) ?_
                  refine lv_if_ne (tgt := 228) hx hb dL_isVehicle_220 (by decide) (fun _ => ?_) (fun h => absurd h (by decide))
                  refine lv_iload hx hb dL_isVehicle_228 (lv_at hl 0 rfl) ?_
                  refine lv_if_eq (tgt := 242) hx hb dL_isVehicle_230 (by decide) (fun _ => ?_) (fun h => absurd h (by decide))
                  refine lv_ldc (v := -10000000) hx hb hown (hts _ q654) dL_isVehicle_242 ?_
                  have hm : (-10000000 : Int32) = -10000000 := rfl
                  refine lv_icmp_ne (tgt := 251) hx hb dL_isVehicle_244 (by decide) (fun h9 => absurd hm h9) (fun _ => ?_)
                  refine lv_iconst (v := 1) hx hb dL_isVehicle_247 (by decide) ?_
                  refine lv_goto (tgt := 252) hx hb dL_isVehicle_248 (by decide) ?_
                  exact rt_z hx hb hr hlocks (by decide) hI hA hQ ⟨rfl, Z99, S99, M99, L, hR9, hA9, rfl⟩ (Nat.le_of_ble_eq_true rfl) (Nat.le_of_ble_eq_true rfl) dL_isVehicle_252
              refine lv_if_le (tgt := 160) hx hb dL_isVehicle_153 (by decide) (fun c57 => ?_) (fun c57 => ?_)
              · refine lv_iconst (v := 0) hx hb dL_isVehicle_160 (by decide) ?_
                have eb58 : (0 : Int32) = bI (¬ ((nI np) ≤ 0)) := (bI_f (fun k => k c57)).symm
                rw [eb58]
                exact hJ52
              · refine lv_iconst (v := 1) hx hb dL_isVehicle_156 (by decide) ?_
                refine lv_goto (tgt := 161) hx hb dL_isVehicle_157 (by decide) ?_
                have eb59 : (1 : Int32) = bI (¬ ((nI np) ≤ 0)) := (bI_t c57).symm
                rw [eb59]
                exact hJ52
            · rw [bI_f hb11]
              refine lv_istore (lv' := [(11, .int 0), (10, .int x49), (9, .int x47), (8, .int x45), (0, .ref (Z.A 0 0)), (1, .ref (la 3)), (2, .ref (la 4)), (3, .ref (la 5)), (4, .ref (la 6)), (5, .int 0), (6, .int one), (7, .int two)]) hx hb dL_isVehicle_142 hl (by decide) rfl (fun ls hl => ?_)
              refine lv_iload hx hb dL_isVehicle_144 (lv_at hl 0 rfl) ?_
              refine lv_if_eq (tgt := 160) hx hb dL_isVehicle_146 (by decide) (fun _ => ?_) (fun h => absurd h (by decide))
              refine lv_iconst (v := 0) hx hb dL_isVehicle_160 (by decide) ?_
              refine lv_istore (lv' := [(12, .int 0), (11, .int 0), (10, .int x49), (9, .int x47), (8, .int x45), (0, .ref (Z.A 0 0)), (1, .ref (la 3)), (2, .ref (la 4)), (3, .ref (la 5)), (4, .ref (la 6)), (5, .int 0), (6, .int one), (7, .int two)]) hx hb dL_isVehicle_161 hl (by decide) rfl (fun ls hl => ?_)
              refine lv_iload hx hb dL_isVehicle_163 (lv_at hl 0 rfl) ?_
              refine lv_if_eq (tgt := 206) hx hb dL_isVehicle_165 (by decide) (fun _ => ?_) (fun h => absurd h (by decide))
              refine lv_aload_n hx hb dL_isVehicle_206 rfl (lv_at hl 5 rfl) ?_
              refine lv_bipush (v := 9) hx hb dL_isVehicle_207 (by decide) ?_
              refine lv_iload hx hb dL_isVehicle_209 (lv_at hl 4 rfl) ?_
              refine lv_iload hx hb dL_isVehicle_211 (lv_at hl 3 rfl) ?_
              refine lv_iload hx hb dL_isVehicle_213 (lv_at hl 2 rfl) ?_
              refine jx_callH (rest := []) (as := [.ref (Z.A 0 0), .int 9, .int x45, .int x47, .int x49]) hx hb hml hts hown hK hE Dj_xl hI (qD_vehicle G hst Z S0 x45 x47 x49 hR.1.1.1 hR.1.1.2.1) kw_does ⟨(Nat.le_of_ble_eq_true rfl), (Nat.le_of_ble_eq_true rfl)⟩ hl.1 (Nat.le_of_ble_eq_true rfl) dL_isVehicle_215 ⟨(Nat.le_of_ble_eq_true rfl), (Nat.le_of_ble_eq_true rfl)⟩ (fun v w1 H locs hpE hI => ?_)
              obtain ⟨hv, Z99, S99, M99, hR9, hA9, hw9⟩ : FIN G.2.2.2 G.2.1 Z t L (-20000000) v w1 := by subst ex49 ex47 ex45; subst enp env; exact fv0a hR ht5 (fun z => hb11 ⟨(i_le (n := 499) (by decide)).mpr (by omega), (i_ge (n := 40001) (by decide)).mpr (by omega), (i_ge (n := 60001) (by decide)).mpr (by omega), (i_le (n := 0) (by decide)).mpr (by omega), (i_ge (n := 301) (by decide)).mpr (by omega)⟩) hpE
              subst hv
              subst hw9
              refine lv_iload hx hb dL_isVehicle_218 (lv_at hl 1 rfl) ?_
              refine lv_if_ne (tgt := 228) hx hb dL_isVehicle_220 (by decide) (fun h => absurd h (by decide)) (fun _ => ?_)
              refine lv_ldc (v := -20000000) hx hb hown (hts _ q653) dL_isVehicle_223 ?_
              refine lv_goto (tgt := 244) hx hb dL_isVehicle_225 (by decide) ?_
              have hm : (-20000000 : Int32) = -20000000 := rfl
              refine lv_icmp_ne (tgt := 251) hx hb dL_isVehicle_244 (by decide) (fun h9 => absurd hm h9) (fun _ => ?_)
              refine lv_iconst (v := 1) hx hb dL_isVehicle_247 (by decide) ?_
              refine lv_goto (tgt := 252) hx hb dL_isVehicle_248 (by decide) ?_
              exact rt_z hx hb hr hlocks (by decide) hI hA hQ ⟨rfl, Z99, S99, M99, L, hR9, hA9, rfl⟩ (Nat.le_of_ble_eq_true rfl) (Nat.le_of_ble_eq_true rfl) dL_isVehicle_252
          refine lv_icmp_le (tgt := 141) hx hb dL_isVehicle_107 (by decide) (fun c60 => ?_) (fun c60 => ?_)
          · refine lv_iconst (v := 0) hx hb dL_isVehicle_141 (by decide) ?_
            have eb61 : (0 : Int32) = bI ((¬ (x45 ≤ 499)) ∧ ((¬ (40001 ≤ x45)) ∧ ((¬ (60001 ≤ x47)) ∧ ((¬ (x49 ≤ 0)) ∧ (¬ (301 ≤ x49)))))) := (bI_f (fun k => k.1 c60)).symm
            rw [eb61]
            exact hJ51
          · refine lv_iload hx hb dL_isVehicle_110 (lv_at hl 2 rfl) ?_
            refine lv_ldc (v := 40001) hx hb hown (hts _ q721) dL_isVehicle_112 ?_
            refine lv_icmp_ge (tgt := 141) hx hb dL_isVehicle_114 (by decide) (fun c62 => ?_) (fun c62 => ?_)
            · refine lv_iconst (v := 0) hx hb dL_isVehicle_141 (by decide) ?_
              have eb63 : (0 : Int32) = bI ((¬ (x45 ≤ 499)) ∧ ((¬ (40001 ≤ x45)) ∧ ((¬ (60001 ≤ x47)) ∧ ((¬ (x49 ≤ 0)) ∧ (¬ (301 ≤ x49)))))) := (bI_f (fun k => (fun k => k.1 c62) k.2)).symm
              rw [eb63]
              exact hJ51
            · refine lv_iload hx hb dL_isVehicle_117 (lv_at hl 1 rfl) ?_
              refine lv_ldc (v := 60001) hx hb hown (hts _ q722) dL_isVehicle_119 ?_
              refine lv_icmp_ge (tgt := 141) hx hb dL_isVehicle_121 (by decide) (fun c64 => ?_) (fun c64 => ?_)
              · refine lv_iconst (v := 0) hx hb dL_isVehicle_141 (by decide) ?_
                have eb65 : (0 : Int32) = bI ((¬ (x45 ≤ 499)) ∧ ((¬ (40001 ≤ x45)) ∧ ((¬ (60001 ≤ x47)) ∧ ((¬ (x49 ≤ 0)) ∧ (¬ (301 ≤ x49)))))) := (bI_f (fun k => (fun k => (fun k => k.1 c64) k.2) k.2)).symm
                rw [eb65]
                exact hJ51
              · refine lv_iload hx hb dL_isVehicle_124 (lv_at hl 0 rfl) ?_
                refine lv_if_le (tgt := 141) hx hb dL_isVehicle_126 (by decide) (fun c66 => ?_) (fun c66 => ?_)
                · refine lv_iconst (v := 0) hx hb dL_isVehicle_141 (by decide) ?_
                  have eb67 : (0 : Int32) = bI ((¬ (x45 ≤ 499)) ∧ ((¬ (40001 ≤ x45)) ∧ ((¬ (60001 ≤ x47)) ∧ ((¬ (x49 ≤ 0)) ∧ (¬ (301 ≤ x49)))))) := (bI_f (fun k => (fun k => (fun k => (fun k => k.1 c66) k.2) k.2) k.2)).symm
                  rw [eb67]
                  exact hJ51
                · refine lv_iload hx hb dL_isVehicle_129 (lv_at hl 0 rfl) ?_
                  refine lv_sipush (v := 301) hx hb dL_isVehicle_131 (by decide) ?_
                  refine lv_icmp_ge (tgt := 141) hx hb dL_isVehicle_134 (by decide) (fun c68 => ?_) (fun c68 => ?_)
                  · refine lv_iconst (v := 0) hx hb dL_isVehicle_141 (by decide) ?_
                    have eb69 : (0 : Int32) = bI ((¬ (x45 ≤ 499)) ∧ ((¬ (40001 ≤ x45)) ∧ ((¬ (60001 ≤ x47)) ∧ ((¬ (x49 ≤ 0)) ∧ (¬ (301 ≤ x49)))))) := (bI_f (fun k => (fun k => (fun k => (fun k => (fun k => k c68) k.2) k.2) k.2) k.2)).symm
                    rw [eb69]
                    exact hJ51
                  · refine lv_iconst (v := 1) hx hb dL_isVehicle_137 (by decide) ?_
                    refine lv_goto (tgt := 142) hx hb dL_isVehicle_138 (by decide) ?_
                    have eb70 : (1 : Int32) = bI ((¬ (x45 ≤ 499)) ∧ ((¬ (40001 ≤ x45)) ∧ ((¬ (60001 ≤ x47)) ∧ ((¬ (x49 ≤ 0)) ∧ (¬ (301 ≤ x49)))))) := (bI_t ⟨c60, ⟨c62, ⟨c64, ⟨c66, c68⟩⟩⟩⟩).symm
                    rw [eb70]
                    exact hJ51
        refine lv_if_ne (tgt := 89) hx hb dL_isVehicle_74 (by decide) (fun c71 => ?_) (fun c71 => ?_)
        · refine lv_bipush (v := 30) hx hb dL_isVehicle_89 (by decide) ?_
          refine lv_iload hx hb dL_isVehicle_91 (lv_at hl 8 rfl) ?_
          refine lv_bipush (v := 9) hx hb dL_isVehicle_93 (by decide) ?_
          refine lv_idiv hx hb dL_isVehicle_95 (by decide) ?_
          refine lv_bipush (v := 90) hx hb dL_isVehicle_96 (by decide) ?_
          refine lv_irem hx hb dL_isVehicle_98 (by decide) ?_
          refine lv_iadd hx hb dL_isVehicle_99 ?_
          exact hJ50 (30 + ((one / 9) - (one / 9) / 90 * 90)) (by exact (if_neg c71).symm)
        · refine lv_iload hx hb dL_isVehicle_77 (lv_at hl 8 rfl) ?_
          refine lv_bipush (v := 81) hx hb dL_isVehicle_79 (by decide) ?_
          refine lv_idiv hx hb dL_isVehicle_81 (by decide) ?_
          refine lv_sipush (v := 302) hx hb dL_isVehicle_82 (by decide) ?_
          refine lv_irem hx hb dL_isVehicle_85 (by decide) ?_
          refine lv_goto (tgt := 100) hx hb dL_isVehicle_86 (by decide) ?_
          exact hJ50 ((one / 81) - (one / 81) / 302 * 302) (by exact (if_pos c71).symm)
      refine lv_if_ne (tgt := 58) hx hb dL_isVehicle_47 (by decide) (fun c72 => ?_) (fun c72 => ?_)
      · refine lv_iload hx hb dL_isVehicle_58 (lv_at hl 8 rfl) ?_
        refine lv_sipush (v := 20000) hx hb dL_isVehicle_60 (by decide) ?_
        refine lv_irem hx hb dL_isVehicle_63 (by decide) ?_
        exact hJ48 (two - two / 20000 * 20000) (by exact (if_neg c72).symm)
      · refine lv_iload hx hb dL_isVehicle_50 (lv_at hl 8 rfl) ?_
        refine lv_ldc (v := 60002) hx hb hown (hts _ q720) dL_isVehicle_52 ?_
        refine lv_irem hx hb dL_isVehicle_54 (by decide) ?_
        refine lv_goto (tgt := 64) hx hb dL_isVehicle_55 (by decide) ?_
        exact hJ48 (two - two / 60002 * 60002) (by exact (if_pos c72).symm)
    refine lv_if_ne (tgt := 30) hx hb dL_isVehicle_19 (by decide) (fun c73 => ?_) (fun c73 => ?_)
    · refine lv_sipush (v := 500) hx hb dL_isVehicle_30 (by decide) ?_
      refine lv_iload hx hb dL_isVehicle_33 (lv_at hl 6 rfl) ?_
      refine lv_sipush (v := 9000) hx hb dL_isVehicle_35 (by decide) ?_
      refine lv_irem hx hb dL_isVehicle_38 (by decide) ?_
      refine lv_iadd hx hb dL_isVehicle_39 ?_
      exact hJ46 (500 + (one - one / 9000 * 9000)) (by exact (if_neg c73).symm)
    · refine lv_iload hx hb dL_isVehicle_22 (lv_at hl 6 rfl) ?_
      refine lv_ldc (v := 40002) hx hb hown (hts _ q719) dL_isVehicle_24 ?_
      refine lv_irem hx hb dL_isVehicle_26 (by decide) ?_
      refine lv_goto (tgt := 40) hx hb dL_isVehicle_27 (by decide) ?_
      exact hJ46 (one - one / 40002 * 40002) (by exact (if_pos c73).symm)
set_option maxHeartbeats 4000000 in
set_option maxRecDepth 100000 in
theorem qV_1 (G : GX) (hst : G.1.stackTraces = false) {Z : XZ} {S0 : XS} {M : MS} {L : LwS} {t : Nat} {la : Nat → Nat} (hR : RR Z S0 M L t) (ht : t ≤ 100) (one two : Int32) (h1 : nB one 60000) (h2 : nB two 60000) : FC G yL_isVehicle cL_isVehicle 16 (some .boolean) { frames := 9, cells := 5, slots := 802, locals := 263 } [.ref (Z.A 0 0), .ref (la 3), .ref (la 4), .ref (la 5), .ref (la 6), .int 1, .int one, .int two] (jn (xW G.2.2.2 G.2.1 Z S0) (lW G.2.2.2 la L)) (poR G.2.2.2 G.2.1 (Z.A 0 0) la t) := by
  refine FC.go (lv := [(0, .ref (Z.A 0 0)), (1, .ref (la 3)), (2, .ref (la 4)), (3, .ref (la 5)), (4, .ref (la 6)), (5, .int 1), (6, .int one), (7, .int two)]) (by decide) (Nat.le_of_ble_eq_true rfl) rfl (fun p e s m args below meth c A H locs ls Q hx hb hr hts hown hml hlocks hnm hK hE hI hA hl hQ => ?_)
  have hown : s.vm.findClass "IcehighwayLaw" = some m.cls := hown
  obtain ⟨np, enp⟩ : ∃ x : Nat, x = Z.N 0 := ⟨_, rfl⟩
  obtain ⟨nv, env⟩ : ∃ x : Nat, x = Z.N 1 := ⟨_, rfl⟩
  have h63 : L 6 3 = nI np := by rw [enp]; exact hR.l.g.2.2.2.1
  have h64 : L 6 4 = nI nv := by rw [env]; exact hR.l.g.2.2.2.2
  have hnp : np ≤ 8 := by rw [enp]; exact hR.np
  have hnv : nv ≤ 8 := by rw [env]; exact hR.nv
  have ht5 : t < 512 := by omega
  refine lv_iload hx hb dL_isVehicle_0 (lv_at hl 5 rfl) ?_
  refine lv_if_ne (tgt := 253) hx hb dL_isVehicle_2 (by decide) (fun _ => ?_) (fun h => absurd h (by decide))
  refine lv_iload hx hb dL_isVehicle_253 (lv_at hl 6 rfl) ?_
  refine lv_aload hx hb dL_isVehicle_255 (lv_at hl 4 rfl) ?_
  refine lv_iconst (v := 4) hx hb dL_isVehicle_257 (by decide) ?_
  refine gA (k := 6) (n := 5) (q := 4) hx hb hK hI (by decide) rfl (by unfold vp_in; decide) (by decide) dL_isVehicle_258 ?_
  rw [h64]
  refine lv_iconst (v := 1) hx hb dL_isVehicle_259 (by decide) ?_
  refine lv_iadd hx hb dL_isVehicle_260 ?_
  refine lv_irem hx hb dL_isVehicle_261 (ix_ne (n := nv) rfl (by omega)) ?_
  obtain ⟨jj, hpp, hle⟩ := ix_1 (g := nI nv) (n := nv) h1 (by decide) rfl (by omega)
  rw [hpp]
  rcases Nat.lt_or_ge jj nv with hp | hp
  · skip
    refine lv_istore (lv' := [(8, .int (nI jj)), (0, .ref (Z.A 0 0)), (1, .ref (la 3)), (2, .ref (la 4)), (3, .ref (la 5)), (4, .ref (la 6)), (5, .int 1), (6, .int one), (7, .int two)]) hx hb dL_isVehicle_262 hl (by decide) rfl (fun ls hl => ?_)
    refine lv_iload hx hb dL_isVehicle_264 (lv_at hl 0 rfl) ?_
    refine lv_aload hx hb dL_isVehicle_266 (lv_at hl 5 rfl) ?_
    refine lv_iconst (v := 4) hx hb dL_isVehicle_268 (by decide) ?_
    refine gA (k := 6) (n := 5) (q := 4) hx hb hK hI (by decide) rfl (by unfold vp_in; decide) (by decide) dL_isVehicle_269 ?_
    rw [h64]
    refine lv_icmp_ge (tgt := 277) hx hb dL_isVehicle_270 (by decide) (fun h9 => absurd h9 (show ¬ nI nv ≤ nI jj from fun z => absurd ((nI_leI (by omega) (by omega)).mp z) (by omega))) (fun _ => ?_)
    refine lv_iconst (v := 1) hx hb dL_isVehicle_273 (by decide) ?_
    refine lv_goto (tgt := 278) hx hb dL_isVehicle_274 (by decide) ?_
    refine lv_istore (lv' := [(9, .int 1), (8, .int (nI jj)), (0, .ref (Z.A 0 0)), (1, .ref (la 3)), (2, .ref (la 4)), (3, .ref (la 5)), (4, .ref (la 6)), (5, .int 1), (6, .int one), (7, .int two)]) hx hb dL_isVehicle_278 hl (by decide) rfl (fun ls hl => ?_)
    refine lv_iload hx hb dL_isVehicle_280 (lv_at hl 7 rfl) ?_
    refine lv_iconst (v := 2) hx hb dL_isVehicle_282 (by decide) ?_
    refine lv_icmp_ge (tgt := 544) hx hb dL_isVehicle_283 (by decide) (fun h => absurd h (by decide)) (fun _ => ?_)
    refine lv_iload hx hb dL_isVehicle_286 (lv_at hl 9 rfl) ?_
    refine lv_bipush (v := 9) hx hb dL_isVehicle_288 (by decide) ?_
    refine lv_irem hx hb dL_isVehicle_290 (by decide) ?_
    refine lv_bipush (v := 8) hx hb dL_isVehicle_291 (by decide) ?_
    have hJ2 : ∀ (x1 : Int32), (x1 = if (two - two / 9 * 9) = 8 then 3 else (two - two / 3 * 3)) → W p G.1 e ({ frames := 9, cells := 5, slots := 802, locals := 263 }) s m args below meth c H locs 0 0 Q (F0 m 304 ls [.int x1]) := by
      intro x1 ex1
      refine lv_istore (lv' := [(10, .int x1), (9, .int 1), (8, .int (nI jj)), (0, .ref (Z.A 0 0)), (1, .ref (la 3)), (2, .ref (la 4)), (3, .ref (la 5)), (4, .ref (la 6)), (5, .int 1), (6, .int one), (7, .int two)]) hx hb dL_isVehicle_304 hl (by decide) rfl (fun ls hl => ?_)
      obtain ⟨gg, rfl, hlg⟩ : nB x1 4 := nB_ite ex1 (nB_lit 3 rfl (by decide)) (nB_up (rem_nB (b := 3) h2 (by decide) rfl (by decide) (by decide)) (by decide))
      rcases Nat.lt_or_ge gg 3 with hgg | hgg
      · skip
        refine lv_iload hx hb dL_isVehicle_306 (lv_at hl 1 rfl) ?_
        refine lv_if_eq (tgt := 321) hx hb dL_isVehicle_308 (by decide) (fun h => absurd h (by decide)) (fun _ => ?_)
        refine lv_aload_n hx hb dL_isVehicle_311 rfl (lv_at hl 5 rfl) ?_
        refine lv_bipush (v := 16) hx hb dL_isVehicle_312 (by decide) ?_
        refine lv_iload hx hb dL_isVehicle_314 (lv_at hl 2 rfl) ?_
        refine lv_iadd hx hb dL_isVehicle_316 ?_
        refine gA (k := 4) (n := 40) (q := 16 + jj) hx hb hK hI (by decide) rfl (vo_n 16 rfl (show jj < 8 by omega) (by decide) (by decide)) (vo_nc 16 rfl (show jj < 8 by omega) (by decide)) dL_isVehicle_317 ?_
        refine lv_goto (tgt := 322) hx hb dL_isVehicle_318 (by decide) ?_
        refine lv_istore (lv' := [(11, .int (L 4 (16 + jj))), (10, .int (nI gg)), (9, .int 1), (8, .int (nI jj)), (0, .ref (Z.A 0 0)), (1, .ref (la 3)), (2, .ref (la 4)), (3, .ref (la 5)), (4, .ref (la 6)), (5, .int 1), (6, .int one), (7, .int two)]) hx hb dL_isVehicle_322 hl (by decide) rfl (fun ls hl => ?_)
        refine lv_iload hx hb dL_isVehicle_324 (lv_at hl 11 rfl) ?_
        refine lv_bipush (v := 9) hx hb dL_isVehicle_326 (by decide) ?_
        refine lv_idiv hx hb dL_isVehicle_328 (by decide) ?_
        refine lv_bipush (v := 9) hx hb dL_isVehicle_329 (by decide) ?_
        refine lv_irem hx hb dL_isVehicle_331 (by decide) ?_
        have hJ4 : ∀ (x3 : Int32), (x3 = if ((two / 9) - (two / 9) / 9 * 9) = 0 then (((two / 81) - (two / 81) / 2 * 2) * ((L 4 (16 + jj)) + 1)) else (if (L 4 (16 + jj)) = 0 then 1 else (1 + (((two / 9) * 7) - ((two / 9) * 7) / (L 4 (16 + jj)) * (L 4 (16 + jj)))))) → W p G.1 e ({ frames := 9, cells := 5, slots := 802, locals := 263 }) s m args below meth c H locs 0 0 Q (F0 m 372 ls [.int x3]) := by
          intro x3 ex3
          refine lv_istore (lv' := [(12, .int x3), (11, .int (L 4 (16 + jj))), (10, .int (nI gg)), (9, .int 1), (8, .int (nI jj)), (0, .ref (Z.A 0 0)), (1, .ref (la 3)), (2, .ref (la 4)), (3, .ref (la 5)), (4, .ref (la 6)), (5, .int 1), (6, .int one), (7, .int two)]) hx hb dL_isVehicle_372 hl (by decide) rfl (fun ls hl => ?_)
          refine lv_iload hx hb dL_isVehicle_374 (lv_at hl 3 rfl) ?_
          refine lv_if_eq (tgt := 389) hx hb dL_isVehicle_376 (by decide) (fun h => absurd h (by decide)) (fun _ => ?_)
          refine lv_iload hx hb dL_isVehicle_379 (lv_at hl 2 rfl) ?_
          refine lv_iconst (v := 3) hx hb dL_isVehicle_381 (by decide) ?_
          refine lv_icmp_ge (tgt := 389) hx hb dL_isVehicle_382 (by decide) (fun h9 => absurd h9 (show ¬ (3 : Int32) ≤ nI gg from fun z => absurd ((nI_leI (a := 3) (by decide) (by omega)).mp z) (by omega))) (fun _ => ?_)
          refine lv_iconst (v := 1) hx hb dL_isVehicle_385 (by decide) ?_
          refine lv_goto (tgt := 390) hx hb dL_isVehicle_386 (by decide) ?_
          refine lv_istore (lv' := [(13, .int 1), (12, .int x3), (11, .int (L 4 (16 + jj))), (10, .int (nI gg)), (9, .int 1), (8, .int (nI jj)), (0, .ref (Z.A 0 0)), (1, .ref (la 3)), (2, .ref (la 4)), (3, .ref (la 5)), (4, .ref (la 6)), (5, .int 1), (6, .int one), (7, .int two)]) hx hb dL_isVehicle_390 hl (by decide) rfl (fun ls hl => ?_)
          refine lv_iload hx hb dL_isVehicle_392 (lv_at hl 1 rfl) ?_
          have hJ5 : W p G.1 e ({ frames := 9, cells := 5, slots := 802, locals := 263 }) s m args below meth c H locs 0 0 Q (F0 m 409 ls [.int (bI ((¬ (x3 ≤ 0)) ∧ (¬ ((L 4 (16 + jj)) < x3))))]) := by
            by_cases hb14 : (¬ (x3 ≤ 0)) ∧ (¬ ((L 4 (16 + jj)) < x3))
            · rw [bI_t hb14]
              refine lv_istore (lv' := [(14, .int 1), (13, .int 1), (12, .int x3), (11, .int (L 4 (16 + jj))), (10, .int (nI gg)), (9, .int 1), (8, .int (nI jj)), (0, .ref (Z.A 0 0)), (1, .ref (la 3)), (2, .ref (la 4)), (3, .ref (la 5)), (4, .ref (la 6)), (5, .int 1), (6, .int one), (7, .int two)]) hx hb dL_isVehicle_409 hl (by decide) rfl (fun ls hl => ?_)
              refine lv_iload hx hb dL_isVehicle_411 (lv_at hl 1 rfl) ?_
              refine lv_if_eq (tgt := 445) hx hb dL_isVehicle_413 (by decide) (fun h => absurd h (by decide)) (fun _ => ?_)
              refine lv_iload hx hb dL_isVehicle_416 (lv_at hl 0 rfl) ?_
              refine lv_if_eq (tgt := 445) hx hb dL_isVehicle_418 (by decide) (fun h => absurd h (by decide)) (fun _ => ?_)
              refine lv_aload_n hx hb dL_isVehicle_421 rfl (lv_at hl 8 rfl) ?_
              refine lv_iload hx hb dL_isVehicle_422 (lv_at hl 6 rfl) ?_
              refine gA (k := 3) (n := 8) (q := jj) hx hb hK hI (by decide) rfl (vp_in_nI (Nat.lt_of_lt_of_le (show jj < 8 by omega) (by decide)) (by decide)) (nI_clamp (Nat.lt_of_lt_of_le (show jj < 8 by omega) (by decide))) dL_isVehicle_424 ?_
              refine lv_bipush (v := 8) hx hb dL_isVehicle_425 (by decide) ?_
              refine lv_irem hx hb dL_isVehicle_427 (by decide) ?_
              have hJ6 : W p G.1 e ({ frames := 9, cells := 5, slots := 802, locals := 263 }) s m args below meth c H locs 0 0 Q (F0 m 446 ls [.int (bI ((((L 3 jj) - (L 3 jj) / 8 * 8) = 0) ∧ ((L 4 (8 + jj)) = 0)))]) := by
                by_cases hb15 : (((L 3 jj) - (L 3 jj) / 8 * 8) = 0) ∧ ((L 4 (8 + jj)) = 0)
                · rw [bI_t hb15]
                  refine lv_istore (lv' := [(15, .int 1), (14, .int 1), (13, .int 1), (12, .int x3), (11, .int (L 4 (16 + jj))), (10, .int (nI gg)), (9, .int 1), (8, .int (nI jj)), (0, .ref (Z.A 0 0)), (1, .ref (la 3)), (2, .ref (la 4)), (3, .ref (la 5)), (4, .ref (la 6)), (5, .int 1), (6, .int one), (7, .int two)]) hx hb dL_isVehicle_446 hl (by decide) rfl (fun ls hl => ?_)
                  refine lv_iload hx hb dL_isVehicle_448 (lv_at hl 0 rfl) ?_
                  refine lv_if_eq (tgt := 486) hx hb dL_isVehicle_450 (by decide) (fun h => absurd h (by decide)) (fun _ => ?_)
                  refine lv_aload_n hx hb dL_isVehicle_453 rfl (lv_at hl 10 rfl) ?_
                  refine lv_bipush (v := 8) hx hb dL_isVehicle_454 (by decide) ?_
                  refine lv_iload hx hb dL_isVehicle_456 (lv_at hl 7 rfl) ?_
                  refine lv_iadd hx hb dL_isVehicle_458 ?_
                  refine lv_iload hx hb dL_isVehicle_459 (lv_at hl 3 rfl) ?_
                  obtain ⟨S7, eS7⟩ : ∃ z : LwS, z = lset L 4 (8 + jj) x3 := ⟨_, rfl⟩
                  refine sA (k := 4) (n := 40) (q := 8 + jj) hx hb hK hI (by decide) rfl (vo_n 8 rfl (show jj < 8 by omega) (by decide) (by decide)) (vo_nc 8 rfl (show jj < 8 by omega) (by decide)) eS7 dL_isVehicle_461 (fun H locs hI => ?_)
                  refine lv_aload_n hx hb dL_isVehicle_462 rfl (lv_at hl 9 rfl) ?_
                  refine lv_iload hx hb dL_isVehicle_463 (lv_at hl 7 rfl) ?_
                  refine lv_dup2_11 hx hb dL_isVehicle_465 rfl rfl ?_
                  refine gA (k := 3) (n := 8) (q := jj) hx hb hK hI (by decide) rfl (vp_in_nI (Nat.lt_of_lt_of_le (show jj < 8 by omega) (by decide)) (by decide)) (nI_clamp (Nat.lt_of_lt_of_le (show jj < 8 by omega) (by decide))) dL_isVehicle_466 ?_
                  refine lv_sipush (v := 256) hx hb dL_isVehicle_467 (by decide) ?_
                  refine lv_iload hx hb dL_isVehicle_470 (lv_at hl 5 rfl) ?_
                  refine lv_iconst (v := 1) hx hb dL_isVehicle_472 (by decide) ?_
                  refine lv_iadd hx hb dL_isVehicle_473 ?_
                  refine lv_imul hx hb dL_isVehicle_474 ?_
                  refine lv_iadd hx hb dL_isVehicle_475 ?_
                  obtain ⟨S8, eS8⟩ : ∃ z : LwS, z = lset S7 3 jj ((S7 3 jj) + (256 * ((nI gg) + 1))) := ⟨_, rfl⟩
                  refine sA (k := 3) (n := 8) (q := jj) hx hb hK hI (by decide) rfl (vp_in_nI (Nat.lt_of_lt_of_le (show jj < 8 by omega) (by decide)) (by decide)) (nI_clamp (Nat.lt_of_lt_of_le (show jj < 8 by omega) (by decide))) eS8 dL_isVehicle_476 (fun H locs hI => ?_)
                  refine lv_aload_n hx hb dL_isVehicle_477 rfl (lv_at hl 11 rfl) ?_
                  refine lv_iload hx hb dL_isVehicle_478 (lv_at hl 5 rfl) ?_
                  refine lv_dup2_11 hx hb dL_isVehicle_480 rfl rfl ?_
                  refine gA (k := 5) (n := 10) (q := gg) hx hb hK hI (by decide) rfl (vp_in_nI (Nat.lt_of_lt_of_le hgg (by decide)) (by decide)) (nI_clamp (Nat.lt_of_lt_of_le hgg (by decide))) dL_isVehicle_481 ?_
                  refine lv_iload hx hb dL_isVehicle_482 (lv_at hl 3 rfl) ?_
                  refine lv_iadd hx hb dL_isVehicle_484 ?_
                  obtain ⟨S9, eS9⟩ : ∃ z : LwS, z = lset S8 5 gg ((S8 5 gg) + x3) := ⟨_, rfl⟩
                  refine sA (k := 5) (n := 10) (q := gg) hx hb hK hI (by decide) rfl (vp_in_nI (Nat.lt_of_lt_of_le hgg (by decide)) (by decide)) (nI_clamp (Nat.lt_of_lt_of_le hgg (by decide))) eS9 dL_isVehicle_485 (fun H locs hI => ?_)
                  refine lv_aload_n hx hb dL_isVehicle_486 rfl (lv_at hl 8 rfl) ?_
                  refine lv_bipush (v := 10) hx hb dL_isVehicle_487 (by decide) ?_
                  refine lv_iload hx hb dL_isVehicle_489 (lv_at hl 7 rfl) ?_
                  refine lv_iload hx hb dL_isVehicle_491 (lv_at hl 5 rfl) ?_
                  refine lv_iload hx hb dL_isVehicle_493 (lv_at hl 3 rfl) ?_
                  refine jx_callH (rest := []) (as := [.ref (Z.A 0 0), .int 10, .int (nI jj), .int (nI gg), .int x3]) hx hb hml hts hown hK hE Dj_xl hI (qD_load G hst Z S0 (nI jj) (nI gg) x3 hR.1.1.1 hR.1.1.2.1) kw_does ⟨(Nat.le_of_ble_eq_true rfl), (Nat.le_of_ble_eq_true rfl)⟩ hl.1 (Nat.le_of_ble_eq_true rfl) dL_isVehicle_495 ⟨(Nat.le_of_ble_eq_true rfl), (Nat.le_of_ble_eq_true rfl)⟩ (fun v w1 H locs hpE hI => ?_)
                  obtain ⟨hv, Z99, S99, M99, hR9, hA9, hw9⟩ : FIN G.2.2.2 G.2.1 Z t S9 ((L 4 jj) + x3) v w1 := by subst eS9 eS8 eS7 ex3; subst enp env; exact fv1d hR ht5 hp hgg ⟨by have := (i_le (n := 0) (by decide)).mp hb14.1; omega, by have := hb14.2; rw [Int32.lt_iff_toInt_lt] at this; omega⟩ hb15 hpE
                  subst hv
                  subst hw9
                  refine lv_iload hx hb dL_isVehicle_498 (lv_at hl 2 rfl) ?_
                  refine lv_if_ne (tgt := 508) hx hb dL_isVehicle_500 (by decide) (fun _ => ?_) (fun h => absurd h (by decide))
                  refine lv_iload hx hb dL_isVehicle_508 (lv_at hl 1 rfl) ?_
                  refine lv_if_ne (tgt := 518) hx hb dL_isVehicle_510 (by decide) (fun _ => ?_) (fun h => absurd h (by decide))
                  refine lv_iload hx hb dL_isVehicle_518 (lv_at hl 0 rfl) ?_
                  refine lv_if_eq (tgt := 533) hx hb dL_isVehicle_520 (by decide) (fun h => absurd h (by decide)) (fun _ => ?_)
                  refine lv_aload_n hx hb dL_isVehicle_523 rfl (lv_at hl 10 rfl) ?_
                  refine lv_iload hx hb dL_isVehicle_524 (lv_at hl 7 rfl) ?_
                  refine gA (k := 4) (n := 40) (q := jj) hx hb hK hI (by decide) rfl (vp_in_nI (Nat.lt_of_lt_of_le (show jj < 8 by omega) (by decide)) (by decide)) (nI_clamp (Nat.lt_of_lt_of_le (show jj < 8 by omega) (by decide))) dL_isVehicle_526 ?_
                  refine lv_iload hx hb dL_isVehicle_527 (lv_at hl 3 rfl) ?_
                  refine lv_iadd hx hb dL_isVehicle_529 ?_
                  refine lv_goto (tgt := 535) hx hb dL_isVehicle_530 (by decide) ?_
                  have hm : ((L 4 jj) + x3 : Int32) = (S9 4 jj) + x3 := by rw [eS9, lset_k (by decide), eS8, lset_k (by decide), eS7, lset_n (by omega)]
                  refine lv_icmp_ne (tgt := 542) hx hb dL_isVehicle_535 (by decide) (fun h9 => absurd hm h9) (fun _ => ?_)
                  refine lv_iconst (v := 1) hx hb dL_isVehicle_538 (by decide) ?_
                  refine lv_goto (tgt := 543) hx hb dL_isVehicle_539 (by decide) ?_
                  exact rt_z hx hb hr hlocks (by decide) hI hA hQ ⟨rfl, Z99, S99, M99, S9, hR9, hA9, rfl⟩ (Nat.le_of_ble_eq_true rfl) (Nat.le_of_ble_eq_true rfl) dL_isVehicle_543
                · rw [bI_f hb15]
                  refine lv_istore (lv' := [(15, .int 0), (14, .int 1), (13, .int 1), (12, .int x3), (11, .int (L 4 (16 + jj))), (10, .int (nI gg)), (9, .int 1), (8, .int (nI jj)), (0, .ref (Z.A 0 0)), (1, .ref (la 3)), (2, .ref (la 4)), (3, .ref (la 5)), (4, .ref (la 6)), (5, .int 1), (6, .int one), (7, .int two)]) hx hb dL_isVehicle_446 hl (by decide) rfl (fun ls hl => ?_)
                  refine lv_iload hx hb dL_isVehicle_448 (lv_at hl 0 rfl) ?_
                  refine lv_if_eq (tgt := 486) hx hb dL_isVehicle_450 (by decide) (fun _ => ?_) (fun h => absurd h (by decide))
                  refine lv_aload_n hx hb dL_isVehicle_486 rfl (lv_at hl 8 rfl) ?_
                  refine lv_bipush (v := 10) hx hb dL_isVehicle_487 (by decide) ?_
                  refine lv_iload hx hb dL_isVehicle_489 (lv_at hl 7 rfl) ?_
                  refine lv_iload hx hb dL_isVehicle_491 (lv_at hl 5 rfl) ?_
                  refine lv_iload hx hb dL_isVehicle_493 (lv_at hl 3 rfl) ?_
                  refine jx_callH (rest := []) (as := [.ref (Z.A 0 0), .int 10, .int (nI jj), .int (nI gg), .int x3]) hx hb hml hts hown hK hE Dj_xl hI (qD_load G hst Z S0 (nI jj) (nI gg) x3 hR.1.1.1 hR.1.1.2.1) kw_does ⟨(Nat.le_of_ble_eq_true rfl), (Nat.le_of_ble_eq_true rfl)⟩ hl.1 (Nat.le_of_ble_eq_true rfl) dL_isVehicle_495 ⟨(Nat.le_of_ble_eq_true rfl), (Nat.le_of_ble_eq_true rfl)⟩ (fun v w1 H locs hpE hI => ?_)
                  obtain ⟨hv, Z99, S99, M99, hR9, hA9, hw9⟩ : FIN G.2.2.2 G.2.1 Z t L (-10000000) v w1 := by subst ex3; subst enp env; exact fv1e hR ht5 hp hgg ⟨by have := (i_le (n := 0) (by decide)).mp hb14.1; omega, by have := hb14.2; rw [Int32.lt_iff_toInt_lt] at this; omega⟩ hb15 hpE
                  subst hv
                  subst hw9
                  refine lv_iload hx hb dL_isVehicle_498 (lv_at hl 2 rfl) ?_
                  refine lv_if_ne (tgt := 508) hx hb dL_isVehicle_500 (by decide) (fun _ => ?_) (fun h => absurd h (by decide))
                  refine lv_iload hx hb dL_isVehicle_508 (lv_at hl 1 rfl) ?_
                  refine lv_if_ne (tgt := 518) hx hb dL_isVehicle_510 (by decide) (fun _ => ?_) (fun h => absurd h (by decide))
                  refine lv_iload hx hb dL_isVehicle_518 (lv_at hl 0 rfl) ?_
                  refine lv_if_eq (tgt := 533) hx hb dL_isVehicle_520 (by decide) (fun _ => ?_) (fun h => absurd h (by decide))
                  refine lv_ldc (v := -10000000) hx hb hown (hts _ q654) dL_isVehicle_533 ?_
                  have hm : (-10000000 : Int32) = -10000000 := rfl
                  refine lv_icmp_ne (tgt := 542) hx hb dL_isVehicle_535 (by decide) (fun h9 => absurd hm h9) (fun _ => ?_)
                  refine lv_iconst (v := 1) hx hb dL_isVehicle_538 (by decide) ?_
                  refine lv_goto (tgt := 543) hx hb dL_isVehicle_539 (by decide) ?_
                  exact rt_z hx hb hr hlocks (by decide) hI hA hQ ⟨rfl, Z99, S99, M99, L, hR9, hA9, rfl⟩ (Nat.le_of_ble_eq_true rfl) (Nat.le_of_ble_eq_true rfl) dL_isVehicle_543
              refine lv_if_ne (tgt := 445) hx hb dL_isVehicle_428 (by decide) (fun c10 => ?_) (fun c10 => ?_)
              · refine lv_iconst (v := 0) hx hb dL_isVehicle_445 (by decide) ?_
                have eb11 : (0 : Int32) = bI ((((L 3 jj) - (L 3 jj) / 8 * 8) = 0) ∧ ((L 4 (8 + jj)) = 0)) := (bI_f (fun k => c10 k.1)).symm
                rw [eb11]
                exact hJ6
              · refine lv_aload_n hx hb dL_isVehicle_431 rfl (lv_at hl 9 rfl) ?_
                refine lv_bipush (v := 8) hx hb dL_isVehicle_432 (by decide) ?_
                refine lv_iload hx hb dL_isVehicle_434 (lv_at hl 6 rfl) ?_
                refine lv_iadd hx hb dL_isVehicle_436 ?_
                refine gA (k := 4) (n := 40) (q := 8 + jj) hx hb hK hI (by decide) rfl (vo_n 8 rfl (show jj < 8 by omega) (by decide) (by decide)) (vo_nc 8 rfl (show jj < 8 by omega) (by decide)) dL_isVehicle_437 ?_
                refine lv_if_ne (tgt := 445) hx hb dL_isVehicle_438 (by decide) (fun c12 => ?_) (fun c12 => ?_)
                · refine lv_iconst (v := 0) hx hb dL_isVehicle_445 (by decide) ?_
                  have eb13 : (0 : Int32) = bI ((((L 3 jj) - (L 3 jj) / 8 * 8) = 0) ∧ ((L 4 (8 + jj)) = 0)) := (bI_f (fun k => c12 k.2)).symm
                  rw [eb13]
                  exact hJ6
                · refine lv_iconst (v := 1) hx hb dL_isVehicle_441 (by decide) ?_
                  refine lv_goto (tgt := 446) hx hb dL_isVehicle_442 (by decide) ?_
                  have eb14 : (1 : Int32) = bI ((((L 3 jj) - (L 3 jj) / 8 * 8) = 0) ∧ ((L 4 (8 + jj)) = 0)) := (bI_t ⟨c10, c12⟩).symm
                  rw [eb14]
                  exact hJ6
            · rw [bI_f hb14]
              refine lv_istore (lv' := [(14, .int 0), (13, .int 1), (12, .int x3), (11, .int (L 4 (16 + jj))), (10, .int (nI gg)), (9, .int 1), (8, .int (nI jj)), (0, .ref (Z.A 0 0)), (1, .ref (la 3)), (2, .ref (la 4)), (3, .ref (la 5)), (4, .ref (la 6)), (5, .int 1), (6, .int one), (7, .int two)]) hx hb dL_isVehicle_409 hl (by decide) rfl (fun ls hl => ?_)
              refine lv_iload hx hb dL_isVehicle_411 (lv_at hl 1 rfl) ?_
              refine lv_if_eq (tgt := 445) hx hb dL_isVehicle_413 (by decide) (fun h => absurd h (by decide)) (fun _ => ?_)
              refine lv_iload hx hb dL_isVehicle_416 (lv_at hl 0 rfl) ?_
              refine lv_if_eq (tgt := 445) hx hb dL_isVehicle_418 (by decide) (fun _ => ?_) (fun h => absurd h (by decide))
              refine lv_iconst (v := 0) hx hb dL_isVehicle_445 (by decide) ?_
              refine lv_istore (lv' := [(15, .int 0), (14, .int 0), (13, .int 1), (12, .int x3), (11, .int (L 4 (16 + jj))), (10, .int (nI gg)), (9, .int 1), (8, .int (nI jj)), (0, .ref (Z.A 0 0)), (1, .ref (la 3)), (2, .ref (la 4)), (3, .ref (la 5)), (4, .ref (la 6)), (5, .int 1), (6, .int one), (7, .int two)]) hx hb dL_isVehicle_446 hl (by decide) rfl (fun ls hl => ?_)
              refine lv_iload hx hb dL_isVehicle_448 (lv_at hl 0 rfl) ?_
              refine lv_if_eq (tgt := 486) hx hb dL_isVehicle_450 (by decide) (fun _ => ?_) (fun h => absurd h (by decide))
              refine lv_aload_n hx hb dL_isVehicle_486 rfl (lv_at hl 8 rfl) ?_
              refine lv_bipush (v := 10) hx hb dL_isVehicle_487 (by decide) ?_
              refine lv_iload hx hb dL_isVehicle_489 (lv_at hl 7 rfl) ?_
              refine lv_iload hx hb dL_isVehicle_491 (lv_at hl 5 rfl) ?_
              refine lv_iload hx hb dL_isVehicle_493 (lv_at hl 3 rfl) ?_
              refine jx_callH (rest := []) (as := [.ref (Z.A 0 0), .int 10, .int (nI jj), .int (nI gg), .int x3]) hx hb hml hts hown hK hE Dj_xl hI (qD_load G hst Z S0 (nI jj) (nI gg) x3 hR.1.1.1 hR.1.1.2.1) kw_does ⟨(Nat.le_of_ble_eq_true rfl), (Nat.le_of_ble_eq_true rfl)⟩ hl.1 (Nat.le_of_ble_eq_true rfl) dL_isVehicle_495 ⟨(Nat.le_of_ble_eq_true rfl), (Nat.le_of_ble_eq_true rfl)⟩ (fun v w1 H locs hpE hI => ?_)
              obtain ⟨hv, Z99, S99, M99, hR9, hA9, hw9⟩ : FIN G.2.2.2 G.2.1 Z t L (-20000000) v w1 := by subst ex3; subst enp env; exact fv1c hR ht5 hp hgg (fun z => hb14 ⟨(i_le (n := 0) (by decide)).mpr (by omega), fun y => by rw [Int32.lt_iff_toInt_lt] at y; omega⟩) hpE
              subst hv
              subst hw9
              refine lv_iload hx hb dL_isVehicle_498 (lv_at hl 2 rfl) ?_
              refine lv_if_ne (tgt := 508) hx hb dL_isVehicle_500 (by decide) (fun _ => ?_) (fun h => absurd h (by decide))
              refine lv_iload hx hb dL_isVehicle_508 (lv_at hl 1 rfl) ?_
              refine lv_if_ne (tgt := 518) hx hb dL_isVehicle_510 (by decide) (fun h => absurd h (by decide)) (fun _ => ?_)
              refine lv_ldc (v := -20000000) hx hb hown (hts _ q653) dL_isVehicle_513 ?_
              refine lv_goto (tgt := 535) hx hb dL_isVehicle_515 (by decide) ?_
              have hm : (-20000000 : Int32) = -20000000 := rfl
              refine lv_icmp_ne (tgt := 542) hx hb dL_isVehicle_535 (by decide) (fun h9 => absurd hm h9) (fun _ => ?_)
              refine lv_iconst (v := 1) hx hb dL_isVehicle_538 (by decide) ?_
              refine lv_goto (tgt := 543) hx hb dL_isVehicle_539 (by decide) ?_
              exact rt_z hx hb hr hlocks (by decide) hI hA hQ ⟨rfl, Z99, S99, M99, L, hR9, hA9, rfl⟩ (Nat.le_of_ble_eq_true rfl) (Nat.le_of_ble_eq_true rfl) dL_isVehicle_543
          refine lv_if_le (tgt := 408) hx hb dL_isVehicle_394 (by decide) (fun c15 => ?_) (fun c15 => ?_)
          · refine lv_iconst (v := 0) hx hb dL_isVehicle_408 (by decide) ?_
            have eb16 : (0 : Int32) = bI ((¬ (x3 ≤ 0)) ∧ (¬ ((L 4 (16 + jj)) < x3))) := (bI_f (fun k => k.1 c15)).symm
            rw [eb16]
            exact hJ5
          · refine lv_iload hx hb dL_isVehicle_397 (lv_at hl 1 rfl) ?_
            refine lv_iload hx hb dL_isVehicle_399 (lv_at hl 2 rfl) ?_
            refine lv_icmp_gt (tgt := 408) hx hb dL_isVehicle_401 (by decide) (fun c17 => ?_) (fun c17 => ?_)
            · refine lv_iconst (v := 0) hx hb dL_isVehicle_408 (by decide) ?_
              have eb18 : (0 : Int32) = bI ((¬ (x3 ≤ 0)) ∧ (¬ ((L 4 (16 + jj)) < x3))) := (bI_f (fun k => (fun k => k c17) k.2)).symm
              rw [eb18]
              exact hJ5
            · refine lv_iconst (v := 1) hx hb dL_isVehicle_404 (by decide) ?_
              refine lv_goto (tgt := 409) hx hb dL_isVehicle_405 (by decide) ?_
              have eb19 : (1 : Int32) = bI ((¬ (x3 ≤ 0)) ∧ (¬ ((L 4 (16 + jj)) < x3))) := (bI_t ⟨c15, c17⟩).symm
              rw [eb19]
              exact hJ5
        refine lv_if_ne (tgt := 350) hx hb dL_isVehicle_332 (by decide) (fun c20 => ?_) (fun c20 => ?_)
        · refine lv_iload hx hb dL_isVehicle_350 (lv_at hl 0 rfl) ?_
          refine lv_if_ne (tgt := 359) hx hb dL_isVehicle_352 (by decide) (fun c21 => ?_) (fun c21 => ?_)
          · refine lv_iconst (v := 1) hx hb dL_isVehicle_359 (by decide) ?_
            refine lv_iload hx hb dL_isVehicle_360 (lv_at hl 11 rfl) ?_
            refine lv_bipush (v := 9) hx hb dL_isVehicle_362 (by decide) ?_
            refine lv_idiv hx hb dL_isVehicle_364 (by decide) ?_
            refine lv_bipush (v := 7) hx hb dL_isVehicle_365 (by decide) ?_
            refine lv_imul hx hb dL_isVehicle_367 ?_
            refine lv_iload hx hb dL_isVehicle_368 (lv_at hl 0 rfl) ?_
            refine lv_irem hx hb dL_isVehicle_370 c21 ?_
            refine lv_iadd hx hb dL_isVehicle_371 ?_
            exact hJ4 (1 + (((two / 9) * 7) - ((two / 9) * 7) / (L 4 (16 + jj)) * (L 4 (16 + jj)))) (by exact ((if_neg c20).trans (if_neg c21)).symm)
          · refine lv_iconst (v := 1) hx hb dL_isVehicle_355 (by decide) ?_
            refine lv_goto (tgt := 372) hx hb dL_isVehicle_356 (by decide) ?_
            exact hJ4 1 (by exact ((if_neg c20).trans (if_pos c21)).symm)
        · refine lv_iload hx hb dL_isVehicle_335 (lv_at hl 11 rfl) ?_
          refine lv_bipush (v := 81) hx hb dL_isVehicle_337 (by decide) ?_
          refine lv_idiv hx hb dL_isVehicle_339 (by decide) ?_
          refine lv_iconst (v := 2) hx hb dL_isVehicle_340 (by decide) ?_
          refine lv_irem hx hb dL_isVehicle_341 (by decide) ?_
          refine lv_iload hx hb dL_isVehicle_342 (lv_at hl 0 rfl) ?_
          refine lv_iconst (v := 1) hx hb dL_isVehicle_344 (by decide) ?_
          refine lv_iadd hx hb dL_isVehicle_345 ?_
          refine lv_imul hx hb dL_isVehicle_346 ?_
          refine lv_goto (tgt := 372) hx hb dL_isVehicle_347 (by decide) ?_
          exact hJ4 (((two / 81) - (two / 81) / 2 * 2) * ((L 4 (16 + jj)) + 1)) (by exact (if_pos c20).symm)
      · obtain rfl : gg = 3 := by omega
        refine lv_iload hx hb dL_isVehicle_306 (lv_at hl 1 rfl) ?_
        refine lv_if_eq (tgt := 321) hx hb dL_isVehicle_308 (by decide) (fun h => absurd h (by decide)) (fun _ => ?_)
        refine lv_aload_n hx hb dL_isVehicle_311 rfl (lv_at hl 5 rfl) ?_
        refine lv_bipush (v := 16) hx hb dL_isVehicle_312 (by decide) ?_
        refine lv_iload hx hb dL_isVehicle_314 (lv_at hl 2 rfl) ?_
        refine lv_iadd hx hb dL_isVehicle_316 ?_
        refine gA (k := 4) (n := 40) (q := 16 + jj) hx hb hK hI (by decide) rfl (vo_n 16 rfl (show jj < 8 by omega) (by decide) (by decide)) (vo_nc 16 rfl (show jj < 8 by omega) (by decide)) dL_isVehicle_317 ?_
        refine lv_goto (tgt := 322) hx hb dL_isVehicle_318 (by decide) ?_
        refine lv_istore (lv' := [(11, .int (L 4 (16 + jj))), (10, .int (nI 3)), (9, .int 1), (8, .int (nI jj)), (0, .ref (Z.A 0 0)), (1, .ref (la 3)), (2, .ref (la 4)), (3, .ref (la 5)), (4, .ref (la 6)), (5, .int 1), (6, .int one), (7, .int two)]) hx hb dL_isVehicle_322 hl (by decide) rfl (fun ls hl => ?_)
        refine lv_iload hx hb dL_isVehicle_324 (lv_at hl 11 rfl) ?_
        refine lv_bipush (v := 9) hx hb dL_isVehicle_326 (by decide) ?_
        refine lv_idiv hx hb dL_isVehicle_328 (by decide) ?_
        refine lv_bipush (v := 9) hx hb dL_isVehicle_329 (by decide) ?_
        refine lv_irem hx hb dL_isVehicle_331 (by decide) ?_
        have hJ23 : ∀ (x22 : Int32), (x22 = if ((two / 9) - (two / 9) / 9 * 9) = 0 then (((two / 81) - (two / 81) / 2 * 2) * ((L 4 (16 + jj)) + 1)) else (if (L 4 (16 + jj)) = 0 then 1 else (1 + (((two / 9) * 7) - ((two / 9) * 7) / (L 4 (16 + jj)) * (L 4 (16 + jj)))))) → W p G.1 e ({ frames := 9, cells := 5, slots := 802, locals := 263 }) s m args below meth c H locs 0 0 Q (F0 m 372 ls [.int x22]) := by
          intro x22 ex22
          refine lv_istore (lv' := [(12, .int x22), (11, .int (L 4 (16 + jj))), (10, .int (nI 3)), (9, .int 1), (8, .int (nI jj)), (0, .ref (Z.A 0 0)), (1, .ref (la 3)), (2, .ref (la 4)), (3, .ref (la 5)), (4, .ref (la 6)), (5, .int 1), (6, .int one), (7, .int two)]) hx hb dL_isVehicle_372 hl (by decide) rfl (fun ls hl => ?_)
          refine lv_iload hx hb dL_isVehicle_374 (lv_at hl 3 rfl) ?_
          refine lv_if_eq (tgt := 389) hx hb dL_isVehicle_376 (by decide) (fun h => absurd h (by decide)) (fun _ => ?_)
          refine lv_iload hx hb dL_isVehicle_379 (lv_at hl 2 rfl) ?_
          refine lv_iconst (v := 3) hx hb dL_isVehicle_381 (by decide) ?_
          refine lv_icmp_ge (tgt := 389) hx hb dL_isVehicle_382 (by decide) (fun _ => ?_) (fun h9 => absurd (show (3 : Int32) ≤ nI 3 by decide) h9)
          refine lv_iconst (v := 0) hx hb dL_isVehicle_389 (by decide) ?_
          refine lv_istore (lv' := [(13, .int 0), (12, .int x22), (11, .int (L 4 (16 + jj))), (10, .int (nI 3)), (9, .int 1), (8, .int (nI jj)), (0, .ref (Z.A 0 0)), (1, .ref (la 3)), (2, .ref (la 4)), (3, .ref (la 5)), (4, .ref (la 6)), (5, .int 1), (6, .int one), (7, .int two)]) hx hb dL_isVehicle_390 hl (by decide) rfl (fun ls hl => ?_)
          refine lv_iload hx hb dL_isVehicle_392 (lv_at hl 1 rfl) ?_
          have hJ24 : W p G.1 e ({ frames := 9, cells := 5, slots := 802, locals := 263 }) s m args below meth c H locs 0 0 Q (F0 m 409 ls [.int (bI ((¬ (x22 ≤ 0)) ∧ (¬ ((L 4 (16 + jj)) < x22))))]) := by
            by_cases hb14 : (¬ (x22 ≤ 0)) ∧ (¬ ((L 4 (16 + jj)) < x22))
            · rw [bI_t hb14]
              refine lv_istore (lv' := [(14, .int 1), (13, .int 0), (12, .int x22), (11, .int (L 4 (16 + jj))), (10, .int (nI 3)), (9, .int 1), (8, .int (nI jj)), (0, .ref (Z.A 0 0)), (1, .ref (la 3)), (2, .ref (la 4)), (3, .ref (la 5)), (4, .ref (la 6)), (5, .int 1), (6, .int one), (7, .int two)]) hx hb dL_isVehicle_409 hl (by decide) rfl (fun ls hl => ?_)
              refine lv_iload hx hb dL_isVehicle_411 (lv_at hl 1 rfl) ?_
              refine lv_if_eq (tgt := 445) hx hb dL_isVehicle_413 (by decide) (fun _ => ?_) (fun h => absurd h (by decide))
              refine lv_iconst (v := 0) hx hb dL_isVehicle_445 (by decide) ?_
              refine lv_istore (lv' := [(15, .int 0), (14, .int 1), (13, .int 0), (12, .int x22), (11, .int (L 4 (16 + jj))), (10, .int (nI 3)), (9, .int 1), (8, .int (nI jj)), (0, .ref (Z.A 0 0)), (1, .ref (la 3)), (2, .ref (la 4)), (3, .ref (la 5)), (4, .ref (la 6)), (5, .int 1), (6, .int one), (7, .int two)]) hx hb dL_isVehicle_446 hl (by decide) rfl (fun ls hl => ?_)
              refine lv_iload hx hb dL_isVehicle_448 (lv_at hl 0 rfl) ?_
              refine lv_if_eq (tgt := 486) hx hb dL_isVehicle_450 (by decide) (fun _ => ?_) (fun h => absurd h (by decide))
              refine lv_aload_n hx hb dL_isVehicle_486 rfl (lv_at hl 8 rfl) ?_
              refine lv_bipush (v := 10) hx hb dL_isVehicle_487 (by decide) ?_
              refine lv_iload hx hb dL_isVehicle_489 (lv_at hl 7 rfl) ?_
              refine lv_iload hx hb dL_isVehicle_491 (lv_at hl 5 rfl) ?_
              refine lv_iload hx hb dL_isVehicle_493 (lv_at hl 3 rfl) ?_
              refine jx_callH (rest := []) (as := [.ref (Z.A 0 0), .int 10, .int (nI jj), .int (nI 3), .int x22]) hx hb hml hts hown hK hE Dj_xl hI (qD_load G hst Z S0 (nI jj) (nI 3) x22 hR.1.1.1 hR.1.1.2.1) kw_does ⟨(Nat.le_of_ble_eq_true rfl), (Nat.le_of_ble_eq_true rfl)⟩ hl.1 (Nat.le_of_ble_eq_true rfl) dL_isVehicle_495 ⟨(Nat.le_of_ble_eq_true rfl), (Nat.le_of_ble_eq_true rfl)⟩ (fun v w1 H locs hpE hI => ?_)
              obtain ⟨hv, Z99, S99, M99, hR9, hA9, hw9⟩ : FIN G.2.2.2 G.2.1 Z t L (-30000000) v w1 := by subst ex22; subst enp env; exact fv1b hR ht5 hpE
              subst hv
              subst hw9
              refine lv_iload hx hb dL_isVehicle_498 (lv_at hl 2 rfl) ?_
              refine lv_if_ne (tgt := 508) hx hb dL_isVehicle_500 (by decide) (fun h => absurd h (by decide)) (fun _ => ?_)
              refine lv_ldc (v := -30000000) hx hb hown (hts _ q652) dL_isVehicle_503 ?_
              refine lv_goto (tgt := 535) hx hb dL_isVehicle_505 (by decide) ?_
              have hm : (-30000000 : Int32) = -30000000 := rfl
              refine lv_icmp_ne (tgt := 542) hx hb dL_isVehicle_535 (by decide) (fun h9 => absurd hm h9) (fun _ => ?_)
              refine lv_iconst (v := 1) hx hb dL_isVehicle_538 (by decide) ?_
              refine lv_goto (tgt := 543) hx hb dL_isVehicle_539 (by decide) ?_
              exact rt_z hx hb hr hlocks (by decide) hI hA hQ ⟨rfl, Z99, S99, M99, L, hR9, hA9, rfl⟩ (Nat.le_of_ble_eq_true rfl) (Nat.le_of_ble_eq_true rfl) dL_isVehicle_543
            · rw [bI_f hb14]
              refine lv_istore (lv' := [(14, .int 0), (13, .int 0), (12, .int x22), (11, .int (L 4 (16 + jj))), (10, .int (nI 3)), (9, .int 1), (8, .int (nI jj)), (0, .ref (Z.A 0 0)), (1, .ref (la 3)), (2, .ref (la 4)), (3, .ref (la 5)), (4, .ref (la 6)), (5, .int 1), (6, .int one), (7, .int two)]) hx hb dL_isVehicle_409 hl (by decide) rfl (fun ls hl => ?_)
              refine lv_iload hx hb dL_isVehicle_411 (lv_at hl 1 rfl) ?_
              refine lv_if_eq (tgt := 445) hx hb dL_isVehicle_413 (by decide) (fun _ => ?_) (fun h => absurd h (by decide))
              refine lv_iconst (v := 0) hx hb dL_isVehicle_445 (by decide) ?_
              refine lv_istore (lv' := [(15, .int 0), (14, .int 0), (13, .int 0), (12, .int x22), (11, .int (L 4 (16 + jj))), (10, .int (nI 3)), (9, .int 1), (8, .int (nI jj)), (0, .ref (Z.A 0 0)), (1, .ref (la 3)), (2, .ref (la 4)), (3, .ref (la 5)), (4, .ref (la 6)), (5, .int 1), (6, .int one), (7, .int two)]) hx hb dL_isVehicle_446 hl (by decide) rfl (fun ls hl => ?_)
              refine lv_iload hx hb dL_isVehicle_448 (lv_at hl 0 rfl) ?_
              refine lv_if_eq (tgt := 486) hx hb dL_isVehicle_450 (by decide) (fun _ => ?_) (fun h => absurd h (by decide))
              refine lv_aload_n hx hb dL_isVehicle_486 rfl (lv_at hl 8 rfl) ?_
              refine lv_bipush (v := 10) hx hb dL_isVehicle_487 (by decide) ?_
              refine lv_iload hx hb dL_isVehicle_489 (lv_at hl 7 rfl) ?_
              refine lv_iload hx hb dL_isVehicle_491 (lv_at hl 5 rfl) ?_
              refine lv_iload hx hb dL_isVehicle_493 (lv_at hl 3 rfl) ?_
              refine jx_callH (rest := []) (as := [.ref (Z.A 0 0), .int 10, .int (nI jj), .int (nI 3), .int x22]) hx hb hml hts hown hK hE Dj_xl hI (qD_load G hst Z S0 (nI jj) (nI 3) x22 hR.1.1.1 hR.1.1.2.1) kw_does ⟨(Nat.le_of_ble_eq_true rfl), (Nat.le_of_ble_eq_true rfl)⟩ hl.1 (Nat.le_of_ble_eq_true rfl) dL_isVehicle_495 ⟨(Nat.le_of_ble_eq_true rfl), (Nat.le_of_ble_eq_true rfl)⟩ (fun v w1 H locs hpE hI => ?_)
              obtain ⟨hv, Z99, S99, M99, hR9, hA9, hw9⟩ : FIN G.2.2.2 G.2.1 Z t L (-30000000) v w1 := by subst ex22; subst enp env; exact fv1b hR ht5 hpE
              subst hv
              subst hw9
              refine lv_iload hx hb dL_isVehicle_498 (lv_at hl 2 rfl) ?_
              refine lv_if_ne (tgt := 508) hx hb dL_isVehicle_500 (by decide) (fun h => absurd h (by decide)) (fun _ => ?_)
              refine lv_ldc (v := -30000000) hx hb hown (hts _ q652) dL_isVehicle_503 ?_
              refine lv_goto (tgt := 535) hx hb dL_isVehicle_505 (by decide) ?_
              have hm : (-30000000 : Int32) = -30000000 := rfl
              refine lv_icmp_ne (tgt := 542) hx hb dL_isVehicle_535 (by decide) (fun h9 => absurd hm h9) (fun _ => ?_)
              refine lv_iconst (v := 1) hx hb dL_isVehicle_538 (by decide) ?_
              refine lv_goto (tgt := 543) hx hb dL_isVehicle_539 (by decide) ?_
              exact rt_z hx hb hr hlocks (by decide) hI hA hQ ⟨rfl, Z99, S99, M99, L, hR9, hA9, rfl⟩ (Nat.le_of_ble_eq_true rfl) (Nat.le_of_ble_eq_true rfl) dL_isVehicle_543
          refine lv_if_le (tgt := 408) hx hb dL_isVehicle_394 (by decide) (fun c25 => ?_) (fun c25 => ?_)
          · refine lv_iconst (v := 0) hx hb dL_isVehicle_408 (by decide) ?_
            have eb26 : (0 : Int32) = bI ((¬ (x22 ≤ 0)) ∧ (¬ ((L 4 (16 + jj)) < x22))) := (bI_f (fun k => k.1 c25)).symm
            rw [eb26]
            exact hJ24
          · refine lv_iload hx hb dL_isVehicle_397 (lv_at hl 1 rfl) ?_
            refine lv_iload hx hb dL_isVehicle_399 (lv_at hl 2 rfl) ?_
            refine lv_icmp_gt (tgt := 408) hx hb dL_isVehicle_401 (by decide) (fun c27 => ?_) (fun c27 => ?_)
            · refine lv_iconst (v := 0) hx hb dL_isVehicle_408 (by decide) ?_
              have eb28 : (0 : Int32) = bI ((¬ (x22 ≤ 0)) ∧ (¬ ((L 4 (16 + jj)) < x22))) := (bI_f (fun k => (fun k => k c27) k.2)).symm
              rw [eb28]
              exact hJ24
            · refine lv_iconst (v := 1) hx hb dL_isVehicle_404 (by decide) ?_
              refine lv_goto (tgt := 409) hx hb dL_isVehicle_405 (by decide) ?_
              have eb29 : (1 : Int32) = bI ((¬ (x22 ≤ 0)) ∧ (¬ ((L 4 (16 + jj)) < x22))) := (bI_t ⟨c25, c27⟩).symm
              rw [eb29]
              exact hJ24
        refine lv_if_ne (tgt := 350) hx hb dL_isVehicle_332 (by decide) (fun c30 => ?_) (fun c30 => ?_)
        · refine lv_iload hx hb dL_isVehicle_350 (lv_at hl 0 rfl) ?_
          refine lv_if_ne (tgt := 359) hx hb dL_isVehicle_352 (by decide) (fun c31 => ?_) (fun c31 => ?_)
          · refine lv_iconst (v := 1) hx hb dL_isVehicle_359 (by decide) ?_
            refine lv_iload hx hb dL_isVehicle_360 (lv_at hl 11 rfl) ?_
            refine lv_bipush (v := 9) hx hb dL_isVehicle_362 (by decide) ?_
            refine lv_idiv hx hb dL_isVehicle_364 (by decide) ?_
            refine lv_bipush (v := 7) hx hb dL_isVehicle_365 (by decide) ?_
            refine lv_imul hx hb dL_isVehicle_367 ?_
            refine lv_iload hx hb dL_isVehicle_368 (lv_at hl 0 rfl) ?_
            refine lv_irem hx hb dL_isVehicle_370 c31 ?_
            refine lv_iadd hx hb dL_isVehicle_371 ?_
            exact hJ23 (1 + (((two / 9) * 7) - ((two / 9) * 7) / (L 4 (16 + jj)) * (L 4 (16 + jj)))) (by exact ((if_neg c30).trans (if_neg c31)).symm)
          · refine lv_iconst (v := 1) hx hb dL_isVehicle_355 (by decide) ?_
            refine lv_goto (tgt := 372) hx hb dL_isVehicle_356 (by decide) ?_
            exact hJ23 1 (by exact ((if_neg c30).trans (if_pos c31)).symm)
        · refine lv_iload hx hb dL_isVehicle_335 (lv_at hl 11 rfl) ?_
          refine lv_bipush (v := 81) hx hb dL_isVehicle_337 (by decide) ?_
          refine lv_idiv hx hb dL_isVehicle_339 (by decide) ?_
          refine lv_iconst (v := 2) hx hb dL_isVehicle_340 (by decide) ?_
          refine lv_irem hx hb dL_isVehicle_341 (by decide) ?_
          refine lv_iload hx hb dL_isVehicle_342 (lv_at hl 0 rfl) ?_
          refine lv_iconst (v := 1) hx hb dL_isVehicle_344 (by decide) ?_
          refine lv_iadd hx hb dL_isVehicle_345 ?_
          refine lv_imul hx hb dL_isVehicle_346 ?_
          refine lv_goto (tgt := 372) hx hb dL_isVehicle_347 (by decide) ?_
          exact hJ23 (((two / 81) - (two / 81) / 2 * 2) * ((L 4 (16 + jj)) + 1)) (by exact (if_pos c30).symm)
    refine lv_icmp_ne (tgt := 300) hx hb dL_isVehicle_293 (by decide) (fun c32 => ?_) (fun c32 => ?_)
    · refine lv_iload hx hb dL_isVehicle_300 (lv_at hl 9 rfl) ?_
      refine lv_iconst (v := 3) hx hb dL_isVehicle_302 (by decide) ?_
      refine lv_irem hx hb dL_isVehicle_303 (by decide) ?_
      exact hJ2 (two - two / 3 * 3) (by exact (if_neg c32).symm)
    · refine lv_iconst (v := 3) hx hb dL_isVehicle_296 (by decide) ?_
      refine lv_goto (tgt := 304) hx hb dL_isVehicle_297 (by decide) ?_
      exact hJ2 3 (by exact (if_pos c32).symm)
  · have epp : jj = nv := by omega
    rw [epp]
    refine lv_istore (lv' := [(8, .int (nI nv)), (0, .ref (Z.A 0 0)), (1, .ref (la 3)), (2, .ref (la 4)), (3, .ref (la 5)), (4, .ref (la 6)), (5, .int 1), (6, .int one), (7, .int two)]) hx hb dL_isVehicle_262 hl (by decide) rfl (fun ls hl => ?_)
    refine lv_iload hx hb dL_isVehicle_264 (lv_at hl 0 rfl) ?_
    refine lv_aload hx hb dL_isVehicle_266 (lv_at hl 5 rfl) ?_
    refine lv_iconst (v := 4) hx hb dL_isVehicle_268 (by decide) ?_
    refine gA (k := 6) (n := 5) (q := 4) hx hb hK hI (by decide) rfl (by unfold vp_in; decide) (by decide) dL_isVehicle_269 ?_
    rw [h64]
    refine lv_icmp_ge (tgt := 277) hx hb dL_isVehicle_270 (by decide) (fun _ => ?_) (fun h9 => absurd (nI_le (Nat.le_refl nv) (by omega)) h9)
    refine lv_iconst (v := 0) hx hb dL_isVehicle_277 (by decide) ?_
    refine lv_istore (lv' := [(9, .int 0), (8, .int (nI nv)), (0, .ref (Z.A 0 0)), (1, .ref (la 3)), (2, .ref (la 4)), (3, .ref (la 5)), (4, .ref (la 6)), (5, .int 1), (6, .int one), (7, .int two)]) hx hb dL_isVehicle_278 hl (by decide) rfl (fun ls hl => ?_)
    refine lv_iload hx hb dL_isVehicle_280 (lv_at hl 7 rfl) ?_
    refine lv_iconst (v := 2) hx hb dL_isVehicle_282 (by decide) ?_
    refine lv_icmp_ge (tgt := 544) hx hb dL_isVehicle_283 (by decide) (fun h => absurd h (by decide)) (fun _ => ?_)
    refine lv_iload hx hb dL_isVehicle_286 (lv_at hl 9 rfl) ?_
    refine lv_bipush (v := 9) hx hb dL_isVehicle_288 (by decide) ?_
    refine lv_irem hx hb dL_isVehicle_290 (by decide) ?_
    refine lv_bipush (v := 8) hx hb dL_isVehicle_291 (by decide) ?_
    have hJ34 : ∀ (x33 : Int32), (x33 = if (two - two / 9 * 9) = 8 then 3 else (two - two / 3 * 3)) → W p G.1 e ({ frames := 9, cells := 5, slots := 802, locals := 263 }) s m args below meth c H locs 0 0 Q (F0 m 304 ls [.int x33]) := by
      intro x33 ex33
      refine lv_istore (lv' := [(10, .int x33), (9, .int 0), (8, .int (nI nv)), (0, .ref (Z.A 0 0)), (1, .ref (la 3)), (2, .ref (la 4)), (3, .ref (la 5)), (4, .ref (la 6)), (5, .int 1), (6, .int one), (7, .int two)]) hx hb dL_isVehicle_304 hl (by decide) rfl (fun ls hl => ?_)
      refine lv_iload hx hb dL_isVehicle_306 (lv_at hl 1 rfl) ?_
      refine lv_if_eq (tgt := 321) hx hb dL_isVehicle_308 (by decide) (fun _ => ?_) (fun h => absurd h (by decide))
      refine lv_iconst (v := 0) hx hb dL_isVehicle_321 (by decide) ?_
      refine lv_istore (lv' := [(11, .int 0), (10, .int x33), (9, .int 0), (8, .int (nI nv)), (0, .ref (Z.A 0 0)), (1, .ref (la 3)), (2, .ref (la 4)), (3, .ref (la 5)), (4, .ref (la 6)), (5, .int 1), (6, .int one), (7, .int two)]) hx hb dL_isVehicle_322 hl (by decide) rfl (fun ls hl => ?_)
      refine lv_iload hx hb dL_isVehicle_324 (lv_at hl 11 rfl) ?_
      refine lv_bipush (v := 9) hx hb dL_isVehicle_326 (by decide) ?_
      refine lv_idiv hx hb dL_isVehicle_328 (by decide) ?_
      refine lv_bipush (v := 9) hx hb dL_isVehicle_329 (by decide) ?_
      refine lv_irem hx hb dL_isVehicle_331 (by decide) ?_
      have hJ36 : ∀ (x35 : Int32), (x35 = if ((two / 9) - (two / 9) / 9 * 9) = 0 then (((two / 81) - (two / 81) / 2 * 2) * 1) else 1) → W p G.1 e ({ frames := 9, cells := 5, slots := 802, locals := 263 }) s m args below meth c H locs 0 0 Q (F0 m 372 ls [.int x35]) := by
        intro x35 ex35
        refine lv_istore (lv' := [(12, .int x35), (11, .int 0), (10, .int x33), (9, .int 0), (8, .int (nI nv)), (0, .ref (Z.A 0 0)), (1, .ref (la 3)), (2, .ref (la 4)), (3, .ref (la 5)), (4, .ref (la 6)), (5, .int 1), (6, .int one), (7, .int two)]) hx hb dL_isVehicle_372 hl (by decide) rfl (fun ls hl => ?_)
        refine lv_iload hx hb dL_isVehicle_374 (lv_at hl 3 rfl) ?_
        refine lv_if_eq (tgt := 389) hx hb dL_isVehicle_376 (by decide) (fun _ => ?_) (fun h => absurd h (by decide))
        refine lv_iconst (v := 0) hx hb dL_isVehicle_389 (by decide) ?_
        refine lv_istore (lv' := [(13, .int 0), (12, .int x35), (11, .int 0), (10, .int x33), (9, .int 0), (8, .int (nI nv)), (0, .ref (Z.A 0 0)), (1, .ref (la 3)), (2, .ref (la 4)), (3, .ref (la 5)), (4, .ref (la 6)), (5, .int 1), (6, .int one), (7, .int two)]) hx hb dL_isVehicle_390 hl (by decide) rfl (fun ls hl => ?_)
        refine lv_iload hx hb dL_isVehicle_392 (lv_at hl 1 rfl) ?_
        have hJ37 : W p G.1 e ({ frames := 9, cells := 5, slots := 802, locals := 263 }) s m args below meth c H locs 0 0 Q (F0 m 409 ls [.int (bI ((¬ (x35 ≤ 0)) ∧ (¬ (0 < x35))))]) := by
          by_cases hb14 : (¬ (x35 ≤ 0)) ∧ (¬ (0 < x35))
          · rw [bI_t hb14]
            refine lv_istore (lv' := [(14, .int 1), (13, .int 0), (12, .int x35), (11, .int 0), (10, .int x33), (9, .int 0), (8, .int (nI nv)), (0, .ref (Z.A 0 0)), (1, .ref (la 3)), (2, .ref (la 4)), (3, .ref (la 5)), (4, .ref (la 6)), (5, .int 1), (6, .int one), (7, .int two)]) hx hb dL_isVehicle_409 hl (by decide) rfl (fun ls hl => ?_)
            refine lv_iload hx hb dL_isVehicle_411 (lv_at hl 1 rfl) ?_
            refine lv_if_eq (tgt := 445) hx hb dL_isVehicle_413 (by decide) (fun _ => ?_) (fun h => absurd h (by decide))
            refine lv_iconst (v := 0) hx hb dL_isVehicle_445 (by decide) ?_
            refine lv_istore (lv' := [(15, .int 0), (14, .int 1), (13, .int 0), (12, .int x35), (11, .int 0), (10, .int x33), (9, .int 0), (8, .int (nI nv)), (0, .ref (Z.A 0 0)), (1, .ref (la 3)), (2, .ref (la 4)), (3, .ref (la 5)), (4, .ref (la 6)), (5, .int 1), (6, .int one), (7, .int two)]) hx hb dL_isVehicle_446 hl (by decide) rfl (fun ls hl => ?_)
            refine lv_iload hx hb dL_isVehicle_448 (lv_at hl 0 rfl) ?_
            refine lv_if_eq (tgt := 486) hx hb dL_isVehicle_450 (by decide) (fun _ => ?_) (fun h => absurd h (by decide))
            refine lv_aload_n hx hb dL_isVehicle_486 rfl (lv_at hl 8 rfl) ?_
            refine lv_bipush (v := 10) hx hb dL_isVehicle_487 (by decide) ?_
            refine lv_iload hx hb dL_isVehicle_489 (lv_at hl 7 rfl) ?_
            refine lv_iload hx hb dL_isVehicle_491 (lv_at hl 5 rfl) ?_
            refine lv_iload hx hb dL_isVehicle_493 (lv_at hl 3 rfl) ?_
            refine jx_callH (rest := []) (as := [.ref (Z.A 0 0), .int 10, .int (nI nv), .int x33, .int x35]) hx hb hml hts hown hK hE Dj_xl hI (qD_load G hst Z S0 (nI nv) x33 x35 hR.1.1.1 hR.1.1.2.1) kw_does ⟨(Nat.le_of_ble_eq_true rfl), (Nat.le_of_ble_eq_true rfl)⟩ hl.1 (Nat.le_of_ble_eq_true rfl) dL_isVehicle_495 ⟨(Nat.le_of_ble_eq_true rfl), (Nat.le_of_ble_eq_true rfl)⟩ (fun v w1 H locs hpE hI => ?_)
            obtain ⟨hv, Z99, S99, M99, hR9, hA9, hw9⟩ : FIN G.2.2.2 G.2.1 Z t L (-30000000) v w1 := by subst ex35 ex33; subst enp env; exact fv1a hR ht5 hpE
            subst hv
            subst hw9
            refine lv_iload hx hb dL_isVehicle_498 (lv_at hl 2 rfl) ?_
            refine lv_if_ne (tgt := 508) hx hb dL_isVehicle_500 (by decide) (fun h => absurd h (by decide)) (fun _ => ?_)
            refine lv_ldc (v := -30000000) hx hb hown (hts _ q652) dL_isVehicle_503 ?_
            refine lv_goto (tgt := 535) hx hb dL_isVehicle_505 (by decide) ?_
            have hm : (-30000000 : Int32) = -30000000 := rfl
            refine lv_icmp_ne (tgt := 542) hx hb dL_isVehicle_535 (by decide) (fun h9 => absurd hm h9) (fun _ => ?_)
            refine lv_iconst (v := 1) hx hb dL_isVehicle_538 (by decide) ?_
            refine lv_goto (tgt := 543) hx hb dL_isVehicle_539 (by decide) ?_
            exact rt_z hx hb hr hlocks (by decide) hI hA hQ ⟨rfl, Z99, S99, M99, L, hR9, hA9, rfl⟩ (Nat.le_of_ble_eq_true rfl) (Nat.le_of_ble_eq_true rfl) dL_isVehicle_543
          · rw [bI_f hb14]
            refine lv_istore (lv' := [(14, .int 0), (13, .int 0), (12, .int x35), (11, .int 0), (10, .int x33), (9, .int 0), (8, .int (nI nv)), (0, .ref (Z.A 0 0)), (1, .ref (la 3)), (2, .ref (la 4)), (3, .ref (la 5)), (4, .ref (la 6)), (5, .int 1), (6, .int one), (7, .int two)]) hx hb dL_isVehicle_409 hl (by decide) rfl (fun ls hl => ?_)
            refine lv_iload hx hb dL_isVehicle_411 (lv_at hl 1 rfl) ?_
            refine lv_if_eq (tgt := 445) hx hb dL_isVehicle_413 (by decide) (fun _ => ?_) (fun h => absurd h (by decide))
            refine lv_iconst (v := 0) hx hb dL_isVehicle_445 (by decide) ?_
            refine lv_istore (lv' := [(15, .int 0), (14, .int 0), (13, .int 0), (12, .int x35), (11, .int 0), (10, .int x33), (9, .int 0), (8, .int (nI nv)), (0, .ref (Z.A 0 0)), (1, .ref (la 3)), (2, .ref (la 4)), (3, .ref (la 5)), (4, .ref (la 6)), (5, .int 1), (6, .int one), (7, .int two)]) hx hb dL_isVehicle_446 hl (by decide) rfl (fun ls hl => ?_)
            refine lv_iload hx hb dL_isVehicle_448 (lv_at hl 0 rfl) ?_
            refine lv_if_eq (tgt := 486) hx hb dL_isVehicle_450 (by decide) (fun _ => ?_) (fun h => absurd h (by decide))
            refine lv_aload_n hx hb dL_isVehicle_486 rfl (lv_at hl 8 rfl) ?_
            refine lv_bipush (v := 10) hx hb dL_isVehicle_487 (by decide) ?_
            refine lv_iload hx hb dL_isVehicle_489 (lv_at hl 7 rfl) ?_
            refine lv_iload hx hb dL_isVehicle_491 (lv_at hl 5 rfl) ?_
            refine lv_iload hx hb dL_isVehicle_493 (lv_at hl 3 rfl) ?_
            refine jx_callH (rest := []) (as := [.ref (Z.A 0 0), .int 10, .int (nI nv), .int x33, .int x35]) hx hb hml hts hown hK hE Dj_xl hI (qD_load G hst Z S0 (nI nv) x33 x35 hR.1.1.1 hR.1.1.2.1) kw_does ⟨(Nat.le_of_ble_eq_true rfl), (Nat.le_of_ble_eq_true rfl)⟩ hl.1 (Nat.le_of_ble_eq_true rfl) dL_isVehicle_495 ⟨(Nat.le_of_ble_eq_true rfl), (Nat.le_of_ble_eq_true rfl)⟩ (fun v w1 H locs hpE hI => ?_)
            obtain ⟨hv, Z99, S99, M99, hR9, hA9, hw9⟩ : FIN G.2.2.2 G.2.1 Z t L (-30000000) v w1 := by subst ex35 ex33; subst enp env; exact fv1a hR ht5 hpE
            subst hv
            subst hw9
            refine lv_iload hx hb dL_isVehicle_498 (lv_at hl 2 rfl) ?_
            refine lv_if_ne (tgt := 508) hx hb dL_isVehicle_500 (by decide) (fun h => absurd h (by decide)) (fun _ => ?_)
            refine lv_ldc (v := -30000000) hx hb hown (hts _ q652) dL_isVehicle_503 ?_
            refine lv_goto (tgt := 535) hx hb dL_isVehicle_505 (by decide) ?_
            have hm : (-30000000 : Int32) = -30000000 := rfl
            refine lv_icmp_ne (tgt := 542) hx hb dL_isVehicle_535 (by decide) (fun h9 => absurd hm h9) (fun _ => ?_)
            refine lv_iconst (v := 1) hx hb dL_isVehicle_538 (by decide) ?_
            refine lv_goto (tgt := 543) hx hb dL_isVehicle_539 (by decide) ?_
            exact rt_z hx hb hr hlocks (by decide) hI hA hQ ⟨rfl, Z99, S99, M99, L, hR9, hA9, rfl⟩ (Nat.le_of_ble_eq_true rfl) (Nat.le_of_ble_eq_true rfl) dL_isVehicle_543
        refine lv_if_le (tgt := 408) hx hb dL_isVehicle_394 (by decide) (fun c38 => ?_) (fun c38 => ?_)
        · refine lv_iconst (v := 0) hx hb dL_isVehicle_408 (by decide) ?_
          have eb39 : (0 : Int32) = bI ((¬ (x35 ≤ 0)) ∧ (¬ (0 < x35))) := (bI_f (fun k => k.1 c38)).symm
          rw [eb39]
          exact hJ37
        · refine lv_iload hx hb dL_isVehicle_397 (lv_at hl 1 rfl) ?_
          refine lv_iload hx hb dL_isVehicle_399 (lv_at hl 2 rfl) ?_
          refine lv_icmp_gt (tgt := 408) hx hb dL_isVehicle_401 (by decide) (fun c40 => ?_) (fun c40 => ?_)
          · refine lv_iconst (v := 0) hx hb dL_isVehicle_408 (by decide) ?_
            have eb41 : (0 : Int32) = bI ((¬ (x35 ≤ 0)) ∧ (¬ (0 < x35))) := (bI_f (fun k => (fun k => k c40) k.2)).symm
            rw [eb41]
            exact hJ37
          · refine lv_iconst (v := 1) hx hb dL_isVehicle_404 (by decide) ?_
            refine lv_goto (tgt := 409) hx hb dL_isVehicle_405 (by decide) ?_
            have eb42 : (1 : Int32) = bI ((¬ (x35 ≤ 0)) ∧ (¬ (0 < x35))) := (bI_t ⟨c38, c40⟩).symm
            rw [eb42]
            exact hJ37
      refine lv_if_ne (tgt := 350) hx hb dL_isVehicle_332 (by decide) (fun c43 => ?_) (fun c43 => ?_)
      · refine lv_iload hx hb dL_isVehicle_350 (lv_at hl 0 rfl) ?_
        refine lv_if_ne (tgt := 359) hx hb dL_isVehicle_352 (by decide) (fun h => absurd h (by decide)) (fun _ => ?_)
        refine lv_iconst (v := 1) hx hb dL_isVehicle_355 (by decide) ?_
        refine lv_goto (tgt := 372) hx hb dL_isVehicle_356 (by decide) ?_
        exact hJ36 1 (by exact (if_neg c43).symm)
      · refine lv_iload hx hb dL_isVehicle_335 (lv_at hl 11 rfl) ?_
        refine lv_bipush (v := 81) hx hb dL_isVehicle_337 (by decide) ?_
        refine lv_idiv hx hb dL_isVehicle_339 (by decide) ?_
        refine lv_iconst (v := 2) hx hb dL_isVehicle_340 (by decide) ?_
        refine lv_irem hx hb dL_isVehicle_341 (by decide) ?_
        refine lv_iload hx hb dL_isVehicle_342 (lv_at hl 0 rfl) ?_
        refine lv_iconst (v := 1) hx hb dL_isVehicle_344 (by decide) ?_
        refine lv_iadd hx hb dL_isVehicle_345 ?_
        rw [show (0 : Int32) + 1 = 1 by decide]
        refine lv_imul hx hb dL_isVehicle_346 ?_
        refine lv_goto (tgt := 372) hx hb dL_isVehicle_347 (by decide) ?_
        exact hJ36 (((two / 81) - (two / 81) / 2 * 2) * 1) (by exact (if_pos c43).symm)
    refine lv_icmp_ne (tgt := 300) hx hb dL_isVehicle_293 (by decide) (fun c44 => ?_) (fun c44 => ?_)
    · refine lv_iload hx hb dL_isVehicle_300 (lv_at hl 9 rfl) ?_
      refine lv_iconst (v := 3) hx hb dL_isVehicle_302 (by decide) ?_
      refine lv_irem hx hb dL_isVehicle_303 (by decide) ?_
      exact hJ34 (two - two / 3 * 3) (by exact (if_neg c44).symm)
    · refine lv_iconst (v := 3) hx hb dL_isVehicle_296 (by decide) ?_
      refine lv_goto (tgt := 304) hx hb dL_isVehicle_297 (by decide) ?_
      exact hJ34 3 (by exact (if_pos c44).symm)
set_option maxHeartbeats 4000000 in
set_option maxRecDepth 100000 in
theorem qV_2 (G : GX) (hst : G.1.stackTraces = false) {Z : XZ} {S0 : XS} {M : MS} {L : LwS} {t : Nat} {la : Nat → Nat} (hR : RR Z S0 M L t) (ht : t ≤ 100) (one two : Int32) (h1 : nB one 60000) (h2 : nB two 60000) : FC G yL_isVehicle cL_isVehicle 16 (some .boolean) { frames := 9, cells := 5, slots := 802, locals := 263 } [.ref (Z.A 0 0), .ref (la 3), .ref (la 4), .ref (la 5), .ref (la 6), .int 2, .int one, .int two] (jn (xW G.2.2.2 G.2.1 Z S0) (lW G.2.2.2 la L)) (poR G.2.2.2 G.2.1 (Z.A 0 0) la t) := by
  refine FC.go (lv := [(0, .ref (Z.A 0 0)), (1, .ref (la 3)), (2, .ref (la 4)), (3, .ref (la 5)), (4, .ref (la 6)), (5, .int 2), (6, .int one), (7, .int two)]) (by decide) (Nat.le_of_ble_eq_true rfl) rfl (fun p e s m args below meth c A H locs ls Q hx hb hr hts hown hml hlocks hnm hK hE hI hA hl hQ => ?_)
  have hown : s.vm.findClass "IcehighwayLaw" = some m.cls := hown
  obtain ⟨np, enp⟩ : ∃ x : Nat, x = Z.N 0 := ⟨_, rfl⟩
  obtain ⟨nv, env⟩ : ∃ x : Nat, x = Z.N 1 := ⟨_, rfl⟩
  have h63 : L 6 3 = nI np := by rw [enp]; exact hR.l.g.2.2.2.1
  have h64 : L 6 4 = nI nv := by rw [env]; exact hR.l.g.2.2.2.2
  have hnp : np ≤ 8 := by rw [enp]; exact hR.np
  have hnv : nv ≤ 8 := by rw [env]; exact hR.nv
  have ht5 : t < 512 := by omega
  refine lv_iload hx hb dL_isVehicle_0 (lv_at hl 5 rfl) ?_
  refine lv_if_ne (tgt := 253) hx hb dL_isVehicle_2 (by decide) (fun _ => ?_) (fun h => absurd h (by decide))
  refine lv_iload hx hb dL_isVehicle_253 (lv_at hl 6 rfl) ?_
  refine lv_aload hx hb dL_isVehicle_255 (lv_at hl 4 rfl) ?_
  refine lv_iconst (v := 4) hx hb dL_isVehicle_257 (by decide) ?_
  refine gA (k := 6) (n := 5) (q := 4) hx hb hK hI (by decide) rfl (by unfold vp_in; decide) (by decide) dL_isVehicle_258 ?_
  rw [h64]
  refine lv_iconst (v := 1) hx hb dL_isVehicle_259 (by decide) ?_
  refine lv_iadd hx hb dL_isVehicle_260 ?_
  refine lv_irem hx hb dL_isVehicle_261 (ix_ne (n := nv) rfl (by omega)) ?_
  obtain ⟨jj, hpp, hle⟩ := ix_1 (g := nI nv) (n := nv) h1 (by decide) rfl (by omega)
  rw [hpp]
  rcases Nat.lt_or_ge jj nv with hp | hp
  · skip
    refine lv_istore (lv' := [(8, .int (nI jj)), (0, .ref (Z.A 0 0)), (1, .ref (la 3)), (2, .ref (la 4)), (3, .ref (la 5)), (4, .ref (la 6)), (5, .int 2), (6, .int one), (7, .int two)]) hx hb dL_isVehicle_262 hl (by decide) rfl (fun ls hl => ?_)
    refine lv_iload hx hb dL_isVehicle_264 (lv_at hl 0 rfl) ?_
    refine lv_aload hx hb dL_isVehicle_266 (lv_at hl 5 rfl) ?_
    refine lv_iconst (v := 4) hx hb dL_isVehicle_268 (by decide) ?_
    refine gA (k := 6) (n := 5) (q := 4) hx hb hK hI (by decide) rfl (by unfold vp_in; decide) (by decide) dL_isVehicle_269 ?_
    rw [h64]
    refine lv_icmp_ge (tgt := 277) hx hb dL_isVehicle_270 (by decide) (fun h9 => absurd h9 (show ¬ nI nv ≤ nI jj from fun z => absurd ((nI_leI (by omega) (by omega)).mp z) (by omega))) (fun _ => ?_)
    refine lv_iconst (v := 1) hx hb dL_isVehicle_273 (by decide) ?_
    refine lv_goto (tgt := 278) hx hb dL_isVehicle_274 (by decide) ?_
    refine lv_istore (lv' := [(9, .int 1), (8, .int (nI jj)), (0, .ref (Z.A 0 0)), (1, .ref (la 3)), (2, .ref (la 4)), (3, .ref (la 5)), (4, .ref (la 6)), (5, .int 2), (6, .int one), (7, .int two)]) hx hb dL_isVehicle_278 hl (by decide) rfl (fun ls hl => ?_)
    refine lv_iload hx hb dL_isVehicle_280 (lv_at hl 7 rfl) ?_
    refine lv_iconst (v := 2) hx hb dL_isVehicle_282 (by decide) ?_
    refine lv_icmp_ge (tgt := 544) hx hb dL_isVehicle_283 (by decide) (fun _ => ?_) (fun h => absurd (by decide) h)
    refine lv_iload hx hb dL_isVehicle_544 (lv_at hl 0 rfl) ?_
    refine lv_if_eq (tgt := 559) hx hb dL_isVehicle_546 (by decide) (fun h => absurd h (by decide)) (fun _ => ?_)
    refine lv_aload_n hx hb dL_isVehicle_549 rfl (lv_at hl 3 rfl) ?_
    refine lv_iload hx hb dL_isVehicle_550 (lv_at hl 1 rfl) ?_
    refine gA (k := 3) (n := 8) (q := jj) hx hb hK hI (by decide) rfl (vp_in_nI (Nat.lt_of_lt_of_le (show jj < 8 by omega) (by decide)) (by decide)) (nI_clamp (Nat.lt_of_lt_of_le (show jj < 8 by omega) (by decide))) dL_isVehicle_552 ?_
    refine lv_bipush (v := 8) hx hb dL_isVehicle_553 (by decide) ?_
    refine lv_irem hx hb dL_isVehicle_555 (by decide) ?_
    refine lv_goto (tgt := 560) hx hb dL_isVehicle_556 (by decide) ?_
    refine lv_istore (lv' := [(10, .int ((L 3 jj) - (L 3 jj) / 8 * 8)), (9, .int 1), (8, .int (nI jj)), (0, .ref (Z.A 0 0)), (1, .ref (la 3)), (2, .ref (la 4)), (3, .ref (la 5)), (4, .ref (la 6)), (5, .int 2), (6, .int one), (7, .int two)]) hx hb dL_isVehicle_560 hl (by decide) rfl (fun ls hl => ?_)
    refine lv_iload hx hb dL_isVehicle_562 (lv_at hl 1 rfl) ?_
    refine lv_if_eq (tgt := 580) hx hb dL_isVehicle_564 (by decide) (fun h => absurd h (by decide)) (fun _ => ?_)
    refine lv_aload_n hx hb dL_isVehicle_567 rfl (lv_at hl 4 rfl) ?_
    refine lv_iload hx hb dL_isVehicle_568 (lv_at hl 2 rfl) ?_
    refine gA (k := 3) (n := 8) (q := jj) hx hb hK hI (by decide) rfl (vp_in_nI (Nat.lt_of_lt_of_le (show jj < 8 by omega) (by decide)) (by decide)) (nI_clamp (Nat.lt_of_lt_of_le (show jj < 8 by omega) (by decide))) dL_isVehicle_570 ?_
    refine lv_sipush (v := 128) hx hb dL_isVehicle_571 (by decide) ?_
    refine lv_idiv hx hb dL_isVehicle_574 (by decide) ?_
    refine lv_iconst (v := 2) hx hb dL_isVehicle_575 (by decide) ?_
    refine lv_irem hx hb dL_isVehicle_576 (by decide) ?_
    refine lv_goto (tgt := 581) hx hb dL_isVehicle_577 (by decide) ?_
    refine lv_istore (lv' := [(11, .int (((L 3 jj) / 128) - ((L 3 jj) / 128) / 2 * 2)), (10, .int ((L 3 jj) - (L 3 jj) / 8 * 8)), (9, .int 1), (8, .int (nI jj)), (0, .ref (Z.A 0 0)), (1, .ref (la 3)), (2, .ref (la 4)), (3, .ref (la 5)), (4, .ref (la 6)), (5, .int 2), (6, .int one), (7, .int two)]) hx hb dL_isVehicle_581 hl (by decide) rfl (fun ls hl => ?_)
    refine lv_iload hx hb dL_isVehicle_583 (lv_at hl 9 rfl) ?_
    refine lv_iconst (v := 2) hx hb dL_isVehicle_585 (by decide) ?_
    refine lv_icmp_ne (tgt := 694) hx hb dL_isVehicle_586 (by decide) (fun h => absurd (by decide) h) (fun _ => ?_)
    refine lv_iload hx hb dL_isVehicle_589 (lv_at hl 1 rfl) ?_
    have hJ1 : W p G.1 e ({ frames := 9, cells := 5, slots := 802, locals := 263 }) s m args below meth c H locs 0 0 Q (F0 m 605 ls [.int (bI ((((L 3 jj) - (L 3 jj) / 8 * 8) = 0) ∨ (((L 3 jj) - (L 3 jj) / 8 * 8) = 3)))]) := by
      by_cases hb12 : (((L 3 jj) - (L 3 jj) / 8 * 8) = 0) ∨ (((L 3 jj) - (L 3 jj) / 8 * 8) = 3)
      · rw [bI_t hb12]
        refine lv_istore (lv' := [(12, .int 1), (11, .int (((L 3 jj) / 128) - ((L 3 jj) / 128) / 2 * 2)), (10, .int ((L 3 jj) - (L 3 jj) / 8 * 8)), (9, .int 1), (8, .int (nI jj)), (0, .ref (Z.A 0 0)), (1, .ref (la 3)), (2, .ref (la 4)), (3, .ref (la 5)), (4, .ref (la 6)), (5, .int 2), (6, .int one), (7, .int two)]) hx hb dL_isVehicle_605 hl (by decide) rfl (fun ls hl => ?_)
        by_cases hw0 : ((L 3 jj) - (L 3 jj) / 8 * 8) = 0
        · skip
          refine lv_iload hx hb dL_isVehicle_607 (lv_at hl 0 rfl) ?_
          refine lv_if_eq (tgt := 645) hx hb dL_isVehicle_609 (by decide) (fun h => absurd h (by decide)) (fun _ => ?_)
          refine lv_aload_n hx hb dL_isVehicle_612 rfl (lv_at hl 6 rfl) ?_
          refine lv_iload hx hb dL_isVehicle_613 (lv_at hl 4 rfl) ?_
          refine lv_dup2_11 hx hb dL_isVehicle_615 rfl rfl ?_
          refine gA (k := 3) (n := 8) (q := jj) hx hb hK hI (by decide) rfl (vp_in_nI (Nat.lt_of_lt_of_le (show jj < 8 by omega) (by decide)) (by decide)) (nI_clamp (Nat.lt_of_lt_of_le (show jj < 8 by omega) (by decide))) dL_isVehicle_616 ?_
          refine lv_iload hx hb dL_isVehicle_617 (lv_at hl 2 rfl) ?_
          refine lv_if_ne (tgt := 635) hx hb dL_isVehicle_619 (by decide) (fun h9 => absurd hw0 h9) (fun _ => ?_)
          refine lv_iconst (v := 2) hx hb dL_isVehicle_622 (by decide) ?_
          refine lv_sipush (v := 128) hx hb dL_isVehicle_623 (by decide) ?_
          refine lv_iconst (v := 1) hx hb dL_isVehicle_626 (by decide) ?_
          refine lv_iload hx hb dL_isVehicle_627 (lv_at hl 1 rfl) ?_
          refine lv_isub hx hb dL_isVehicle_629 ?_
          refine lv_imul hx hb dL_isVehicle_630 ?_
          refine lv_iadd hx hb dL_isVehicle_631 ?_
          refine lv_goto (tgt := 643) hx hb dL_isVehicle_632 (by decide) ?_
          refine lv_iadd hx hb dL_isVehicle_643 ?_
          obtain ⟨S2, eS2⟩ : ∃ z : LwS, z = lset L 3 jj ((L 3 jj) + (2 + (128 * (1 - (((L 3 jj) / 128) - ((L 3 jj) / 128) / 2 * 2))))) := ⟨_, rfl⟩
          refine sA (k := 3) (n := 8) (q := jj) hx hb hK hI (by decide) rfl (vp_in_nI (Nat.lt_of_lt_of_le (show jj < 8 by omega) (by decide)) (by decide)) (nI_clamp (Nat.lt_of_lt_of_le (show jj < 8 by omega) (by decide))) eS2 dL_isVehicle_644 (fun H locs hI => ?_)
          refine lv_aload_n hx hb dL_isVehicle_645 rfl (lv_at hl 5 rfl) ?_
          refine lv_bipush (v := 11) hx hb dL_isVehicle_646 (by decide) ?_
          refine lv_iload hx hb dL_isVehicle_648 (lv_at hl 4 rfl) ?_
          refine lv_iconst (v := 0) hx hb dL_isVehicle_650 (by decide) ?_
          refine lv_iconst (v := 0) hx hb dL_isVehicle_651 (by decide) ?_
          refine jx_callH (rest := []) (as := [.ref (Z.A 0 0), .int 11, .int (nI jj), .int 0, .int 0]) hx hb hml hts hown hK hE Dj_xl hI (qD_go G hst Z S0 (nI jj) 0 0 hR.1.1.1) kw_does ⟨(Nat.le_of_ble_eq_true rfl), (Nat.le_of_ble_eq_true rfl)⟩ hl.1 (Nat.le_of_ble_eq_true rfl) dL_isVehicle_652 ⟨(Nat.le_of_ble_eq_true rfl), (Nat.le_of_ble_eq_true rfl)⟩ (fun v w1 H locs hpE hI => ?_)
          obtain ⟨hv, Z99, S99, M99, hR9, hA9, hw9⟩ : FIN G.2.2.2 G.2.1 Z t S2 1 v w1 := by subst eS2; subst enp env; exact fv2b hR ht5 hp hw0 hpE
          subst hv
          subst hw9
          refine lv_iload hx hb dL_isVehicle_655 (lv_at hl 3 rfl) ?_
          refine lv_if_ne (tgt := 665) hx hb dL_isVehicle_657 (by decide) (fun _ => ?_) (fun h => absurd h (by decide))
          refine lv_iload hx hb dL_isVehicle_665 (lv_at hl 0 rfl) ?_
          refine lv_if_eq (tgt := 683) hx hb dL_isVehicle_667 (by decide) (fun h => absurd h (by decide)) (fun _ => ?_)
          refine lv_iload hx hb dL_isVehicle_670 (lv_at hl 2 rfl) ?_
          refine lv_if_ne (tgt := 679) hx hb dL_isVehicle_672 (by decide) (fun h9 => absurd hw0 h9) (fun _ => ?_)
          refine lv_iconst (v := 1) hx hb dL_isVehicle_675 (by decide) ?_
          refine lv_goto (tgt := 685) hx hb dL_isVehicle_676 (by decide) ?_
          have hm : (1 : Int32) = 1 := rfl
          refine lv_icmp_ne (tgt := 692) hx hb dL_isVehicle_685 (by decide) (fun h9 => absurd hm h9) (fun _ => ?_)
          refine lv_iconst (v := 1) hx hb dL_isVehicle_688 (by decide) ?_
          refine lv_goto (tgt := 693) hx hb dL_isVehicle_689 (by decide) ?_
          exact rt_z hx hb hr hlocks (by decide) hI hA hQ ⟨rfl, Z99, S99, M99, S2, hR9, hA9, rfl⟩ (Nat.le_of_ble_eq_true rfl) (Nat.le_of_ble_eq_true rfl) dL_isVehicle_693
        · skip
          refine lv_iload hx hb dL_isVehicle_607 (lv_at hl 0 rfl) ?_
          refine lv_if_eq (tgt := 645) hx hb dL_isVehicle_609 (by decide) (fun h => absurd h (by decide)) (fun _ => ?_)
          refine lv_aload_n hx hb dL_isVehicle_612 rfl (lv_at hl 6 rfl) ?_
          refine lv_iload hx hb dL_isVehicle_613 (lv_at hl 4 rfl) ?_
          refine lv_dup2_11 hx hb dL_isVehicle_615 rfl rfl ?_
          refine gA (k := 3) (n := 8) (q := jj) hx hb hK hI (by decide) rfl (vp_in_nI (Nat.lt_of_lt_of_le (show jj < 8 by omega) (by decide)) (by decide)) (nI_clamp (Nat.lt_of_lt_of_le (show jj < 8 by omega) (by decide))) dL_isVehicle_616 ?_
          refine lv_iload hx hb dL_isVehicle_617 (lv_at hl 2 rfl) ?_
          refine lv_if_ne (tgt := 635) hx hb dL_isVehicle_619 (by decide) (fun _ => ?_) (fun h9 => absurd h9 hw0)
          refine lv_iconst (v := (-1)) hx hb dL_isVehicle_635 (by decide) ?_
          refine lv_sipush (v := 128) hx hb dL_isVehicle_636 (by decide) ?_
          refine lv_iload hx hb dL_isVehicle_639 (lv_at hl 1 rfl) ?_
          refine lv_imul hx hb dL_isVehicle_641 ?_
          refine lv_isub hx hb dL_isVehicle_642 ?_
          refine lv_iadd hx hb dL_isVehicle_643 ?_
          obtain ⟨S3, eS3⟩ : ∃ z : LwS, z = lset L 3 jj ((L 3 jj) + ((-1) - (128 * (((L 3 jj) / 128) - ((L 3 jj) / 128) / 2 * 2)))) := ⟨_, rfl⟩
          refine sA (k := 3) (n := 8) (q := jj) hx hb hK hI (by decide) rfl (vp_in_nI (Nat.lt_of_lt_of_le (show jj < 8 by omega) (by decide)) (by decide)) (nI_clamp (Nat.lt_of_lt_of_le (show jj < 8 by omega) (by decide))) eS3 dL_isVehicle_644 (fun H locs hI => ?_)
          refine lv_aload_n hx hb dL_isVehicle_645 rfl (lv_at hl 5 rfl) ?_
          refine lv_bipush (v := 11) hx hb dL_isVehicle_646 (by decide) ?_
          refine lv_iload hx hb dL_isVehicle_648 (lv_at hl 4 rfl) ?_
          refine lv_iconst (v := 0) hx hb dL_isVehicle_650 (by decide) ?_
          refine lv_iconst (v := 0) hx hb dL_isVehicle_651 (by decide) ?_
          refine jx_callH (rest := []) (as := [.ref (Z.A 0 0), .int 11, .int (nI jj), .int 0, .int 0]) hx hb hml hts hown hK hE Dj_xl hI (qD_go G hst Z S0 (nI jj) 0 0 hR.1.1.1) kw_does ⟨(Nat.le_of_ble_eq_true rfl), (Nat.le_of_ble_eq_true rfl)⟩ hl.1 (Nat.le_of_ble_eq_true rfl) dL_isVehicle_652 ⟨(Nat.le_of_ble_eq_true rfl), (Nat.le_of_ble_eq_true rfl)⟩ (fun v w1 H locs hpE hI => ?_)
          obtain ⟨hv, Z99, S99, M99, hR9, hA9, hw9⟩ : FIN G.2.2.2 G.2.1 Z t S3 0 v w1 := by subst eS3; subst enp env; exact fv2c hR ht5 hp (hb12.resolve_left hw0) hpE
          subst hv
          subst hw9
          refine lv_iload hx hb dL_isVehicle_655 (lv_at hl 3 rfl) ?_
          refine lv_if_ne (tgt := 665) hx hb dL_isVehicle_657 (by decide) (fun _ => ?_) (fun h => absurd h (by decide))
          refine lv_iload hx hb dL_isVehicle_665 (lv_at hl 0 rfl) ?_
          refine lv_if_eq (tgt := 683) hx hb dL_isVehicle_667 (by decide) (fun h => absurd h (by decide)) (fun _ => ?_)
          refine lv_iload hx hb dL_isVehicle_670 (lv_at hl 2 rfl) ?_
          refine lv_if_ne (tgt := 679) hx hb dL_isVehicle_672 (by decide) (fun _ => ?_) (fun h9 => absurd h9 hw0)
          refine lv_iconst (v := 0) hx hb dL_isVehicle_679 (by decide) ?_
          refine lv_goto (tgt := 685) hx hb dL_isVehicle_680 (by decide) ?_
          have hm : (0 : Int32) = 0 := rfl
          refine lv_icmp_ne (tgt := 692) hx hb dL_isVehicle_685 (by decide) (fun h9 => absurd hm h9) (fun _ => ?_)
          refine lv_iconst (v := 1) hx hb dL_isVehicle_688 (by decide) ?_
          refine lv_goto (tgt := 693) hx hb dL_isVehicle_689 (by decide) ?_
          exact rt_z hx hb hr hlocks (by decide) hI hA hQ ⟨rfl, Z99, S99, M99, S3, hR9, hA9, rfl⟩ (Nat.le_of_ble_eq_true rfl) (Nat.le_of_ble_eq_true rfl) dL_isVehicle_693
      · rw [bI_f hb12]
        refine lv_istore (lv' := [(12, .int 0), (11, .int (((L 3 jj) / 128) - ((L 3 jj) / 128) / 2 * 2)), (10, .int ((L 3 jj) - (L 3 jj) / 8 * 8)), (9, .int 1), (8, .int (nI jj)), (0, .ref (Z.A 0 0)), (1, .ref (la 3)), (2, .ref (la 4)), (3, .ref (la 5)), (4, .ref (la 6)), (5, .int 2), (6, .int one), (7, .int two)]) hx hb dL_isVehicle_605 hl (by decide) rfl (fun ls hl => ?_)
        refine lv_iload hx hb dL_isVehicle_607 (lv_at hl 0 rfl) ?_
        refine lv_if_eq (tgt := 645) hx hb dL_isVehicle_609 (by decide) (fun _ => ?_) (fun h => absurd h (by decide))
        refine lv_aload_n hx hb dL_isVehicle_645 rfl (lv_at hl 5 rfl) ?_
        refine lv_bipush (v := 11) hx hb dL_isVehicle_646 (by decide) ?_
        refine lv_iload hx hb dL_isVehicle_648 (lv_at hl 4 rfl) ?_
        refine lv_iconst (v := 0) hx hb dL_isVehicle_650 (by decide) ?_
        refine lv_iconst (v := 0) hx hb dL_isVehicle_651 (by decide) ?_
        refine jx_callH (rest := []) (as := [.ref (Z.A 0 0), .int 11, .int (nI jj), .int 0, .int 0]) hx hb hml hts hown hK hE Dj_xl hI (qD_go G hst Z S0 (nI jj) 0 0 hR.1.1.1) kw_does ⟨(Nat.le_of_ble_eq_true rfl), (Nat.le_of_ble_eq_true rfl)⟩ hl.1 (Nat.le_of_ble_eq_true rfl) dL_isVehicle_652 ⟨(Nat.le_of_ble_eq_true rfl), (Nat.le_of_ble_eq_true rfl)⟩ (fun v w1 H locs hpE hI => ?_)
        obtain ⟨hv, Z99, S99, M99, hR9, hA9, hw9⟩ : FIN G.2.2.2 G.2.1 Z t L (-10000000) v w1 := by subst enp env; exact fv2d hR ht5 hp (fun z => hb12 (Or.inl z)) (fun z => hb12 (Or.inr z)) hpE
        subst hv
        subst hw9
        refine lv_iload hx hb dL_isVehicle_655 (lv_at hl 3 rfl) ?_
        refine lv_if_ne (tgt := 665) hx hb dL_isVehicle_657 (by decide) (fun _ => ?_) (fun h => absurd h (by decide))
        refine lv_iload hx hb dL_isVehicle_665 (lv_at hl 0 rfl) ?_
        refine lv_if_eq (tgt := 683) hx hb dL_isVehicle_667 (by decide) (fun _ => ?_) (fun h => absurd h (by decide))
        refine lv_ldc (v := -10000000) hx hb hown (hts _ q654) dL_isVehicle_683 ?_
        have hm : (-10000000 : Int32) = -10000000 := rfl
        refine lv_icmp_ne (tgt := 692) hx hb dL_isVehicle_685 (by decide) (fun h9 => absurd hm h9) (fun _ => ?_)
        refine lv_iconst (v := 1) hx hb dL_isVehicle_688 (by decide) ?_
        refine lv_goto (tgt := 693) hx hb dL_isVehicle_689 (by decide) ?_
        exact rt_z hx hb hr hlocks (by decide) hI hA hQ ⟨rfl, Z99, S99, M99, L, hR9, hA9, rfl⟩ (Nat.le_of_ble_eq_true rfl) (Nat.le_of_ble_eq_true rfl) dL_isVehicle_693
    refine lv_if_eq (tgt := 600) hx hb dL_isVehicle_591 (by decide) (fun c4 => ?_) (fun c4 => ?_)
    · refine lv_iconst (v := 1) hx hb dL_isVehicle_600 (by decide) ?_
      refine lv_goto (tgt := 605) hx hb dL_isVehicle_601 (by decide) ?_
      have eb5 : (1 : Int32) = bI ((((L 3 jj) - (L 3 jj) / 8 * 8) = 0) ∨ (((L 3 jj) - (L 3 jj) / 8 * 8) = 3)) := (bI_t (Or.inl c4)).symm
      rw [eb5]
      exact hJ1
    · refine lv_iload hx hb dL_isVehicle_594 (lv_at hl 1 rfl) ?_
      refine lv_iconst (v := 3) hx hb dL_isVehicle_596 (by decide) ?_
      refine lv_icmp_ne (tgt := 604) hx hb dL_isVehicle_597 (by decide) (fun c6 => ?_) (fun c6 => ?_)
      · refine lv_iconst (v := 0) hx hb dL_isVehicle_604 (by decide) ?_
        have eb7 : (0 : Int32) = bI ((((L 3 jj) - (L 3 jj) / 8 * 8) = 0) ∨ (((L 3 jj) - (L 3 jj) / 8 * 8) = 3)) := (bI_f (fun k => k.elim c4 c6)).symm
        rw [eb7]
        exact hJ1
      · refine lv_iconst (v := 1) hx hb dL_isVehicle_600 (by decide) ?_
        refine lv_goto (tgt := 605) hx hb dL_isVehicle_601 (by decide) ?_
        have eb8 : (1 : Int32) = bI ((((L 3 jj) - (L 3 jj) / 8 * 8) = 0) ∨ (((L 3 jj) - (L 3 jj) / 8 * 8) = 3)) := (bI_t (Or.inr c6)).symm
        rw [eb8]
        exact hJ1
  · have epp : jj = nv := by omega
    rw [epp]
    refine lv_istore (lv' := [(8, .int (nI nv)), (0, .ref (Z.A 0 0)), (1, .ref (la 3)), (2, .ref (la 4)), (3, .ref (la 5)), (4, .ref (la 6)), (5, .int 2), (6, .int one), (7, .int two)]) hx hb dL_isVehicle_262 hl (by decide) rfl (fun ls hl => ?_)
    refine lv_iload hx hb dL_isVehicle_264 (lv_at hl 0 rfl) ?_
    refine lv_aload hx hb dL_isVehicle_266 (lv_at hl 5 rfl) ?_
    refine lv_iconst (v := 4) hx hb dL_isVehicle_268 (by decide) ?_
    refine gA (k := 6) (n := 5) (q := 4) hx hb hK hI (by decide) rfl (by unfold vp_in; decide) (by decide) dL_isVehicle_269 ?_
    rw [h64]
    refine lv_icmp_ge (tgt := 277) hx hb dL_isVehicle_270 (by decide) (fun _ => ?_) (fun h9 => absurd (nI_le (Nat.le_refl nv) (by omega)) h9)
    refine lv_iconst (v := 0) hx hb dL_isVehicle_277 (by decide) ?_
    refine lv_istore (lv' := [(9, .int 0), (8, .int (nI nv)), (0, .ref (Z.A 0 0)), (1, .ref (la 3)), (2, .ref (la 4)), (3, .ref (la 5)), (4, .ref (la 6)), (5, .int 2), (6, .int one), (7, .int two)]) hx hb dL_isVehicle_278 hl (by decide) rfl (fun ls hl => ?_)
    refine lv_iload hx hb dL_isVehicle_280 (lv_at hl 7 rfl) ?_
    refine lv_iconst (v := 2) hx hb dL_isVehicle_282 (by decide) ?_
    refine lv_icmp_ge (tgt := 544) hx hb dL_isVehicle_283 (by decide) (fun _ => ?_) (fun h => absurd (by decide) h)
    refine lv_iload hx hb dL_isVehicle_544 (lv_at hl 0 rfl) ?_
    refine lv_if_eq (tgt := 559) hx hb dL_isVehicle_546 (by decide) (fun _ => ?_) (fun h => absurd h (by decide))
    refine lv_iconst (v := 4) hx hb dL_isVehicle_559 (by decide) ?_
    refine lv_istore (lv' := [(10, .int 4), (9, .int 0), (8, .int (nI nv)), (0, .ref (Z.A 0 0)), (1, .ref (la 3)), (2, .ref (la 4)), (3, .ref (la 5)), (4, .ref (la 6)), (5, .int 2), (6, .int one), (7, .int two)]) hx hb dL_isVehicle_560 hl (by decide) rfl (fun ls hl => ?_)
    refine lv_iload hx hb dL_isVehicle_562 (lv_at hl 1 rfl) ?_
    refine lv_if_eq (tgt := 580) hx hb dL_isVehicle_564 (by decide) (fun _ => ?_) (fun h => absurd h (by decide))
    refine lv_iconst (v := 0) hx hb dL_isVehicle_580 (by decide) ?_
    refine lv_istore (lv' := [(11, .int 0), (10, .int 4), (9, .int 0), (8, .int (nI nv)), (0, .ref (Z.A 0 0)), (1, .ref (la 3)), (2, .ref (la 4)), (3, .ref (la 5)), (4, .ref (la 6)), (5, .int 2), (6, .int one), (7, .int two)]) hx hb dL_isVehicle_581 hl (by decide) rfl (fun ls hl => ?_)
    refine lv_iload hx hb dL_isVehicle_583 (lv_at hl 9 rfl) ?_
    refine lv_iconst (v := 2) hx hb dL_isVehicle_585 (by decide) ?_
    refine lv_icmp_ne (tgt := 694) hx hb dL_isVehicle_586 (by decide) (fun h => absurd (by decide) h) (fun _ => ?_)
    refine lv_iload hx hb dL_isVehicle_589 (lv_at hl 1 rfl) ?_
    refine lv_if_eq (tgt := 600) hx hb dL_isVehicle_591 (by decide) (fun h => absurd h (by decide)) (fun _ => ?_)
    refine lv_iload hx hb dL_isVehicle_594 (lv_at hl 1 rfl) ?_
    refine lv_iconst (v := 3) hx hb dL_isVehicle_596 (by decide) ?_
    refine lv_icmp_ne (tgt := 604) hx hb dL_isVehicle_597 (by decide) (fun _ => ?_) (fun h => absurd h (by decide))
    refine lv_iconst (v := 0) hx hb dL_isVehicle_604 (by decide) ?_
    refine lv_istore (lv' := [(12, .int 0), (11, .int 0), (10, .int 4), (9, .int 0), (8, .int (nI nv)), (0, .ref (Z.A 0 0)), (1, .ref (la 3)), (2, .ref (la 4)), (3, .ref (la 5)), (4, .ref (la 6)), (5, .int 2), (6, .int one), (7, .int two)]) hx hb dL_isVehicle_605 hl (by decide) rfl (fun ls hl => ?_)
    refine lv_iload hx hb dL_isVehicle_607 (lv_at hl 0 rfl) ?_
    refine lv_if_eq (tgt := 645) hx hb dL_isVehicle_609 (by decide) (fun _ => ?_) (fun h => absurd h (by decide))
    refine lv_aload_n hx hb dL_isVehicle_645 rfl (lv_at hl 5 rfl) ?_
    refine lv_bipush (v := 11) hx hb dL_isVehicle_646 (by decide) ?_
    refine lv_iload hx hb dL_isVehicle_648 (lv_at hl 4 rfl) ?_
    refine lv_iconst (v := 0) hx hb dL_isVehicle_650 (by decide) ?_
    refine lv_iconst (v := 0) hx hb dL_isVehicle_651 (by decide) ?_
    refine jx_callH (rest := []) (as := [.ref (Z.A 0 0), .int 11, .int (nI nv), .int 0, .int 0]) hx hb hml hts hown hK hE Dj_xl hI (qD_go G hst Z S0 (nI nv) 0 0 hR.1.1.1) kw_does ⟨(Nat.le_of_ble_eq_true rfl), (Nat.le_of_ble_eq_true rfl)⟩ hl.1 (Nat.le_of_ble_eq_true rfl) dL_isVehicle_652 ⟨(Nat.le_of_ble_eq_true rfl), (Nat.le_of_ble_eq_true rfl)⟩ (fun v w1 H locs hpE hI => ?_)
    obtain ⟨hv, Z99, S99, M99, hR9, hA9, hw9⟩ : FIN G.2.2.2 G.2.1 Z t L (-30000000) v w1 := by subst enp env; exact fv2a hR ht5 hpE
    subst hv
    subst hw9
    refine lv_iload hx hb dL_isVehicle_655 (lv_at hl 3 rfl) ?_
    refine lv_if_ne (tgt := 665) hx hb dL_isVehicle_657 (by decide) (fun h => absurd h (by decide)) (fun _ => ?_)
    refine lv_ldc (v := -30000000) hx hb hown (hts _ q652) dL_isVehicle_660 ?_
    refine lv_goto (tgt := 685) hx hb dL_isVehicle_662 (by decide) ?_
    have hm : (-30000000 : Int32) = -30000000 := rfl
    refine lv_icmp_ne (tgt := 692) hx hb dL_isVehicle_685 (by decide) (fun h9 => absurd hm h9) (fun _ => ?_)
    refine lv_iconst (v := 1) hx hb dL_isVehicle_688 (by decide) ?_
    refine lv_goto (tgt := 693) hx hb dL_isVehicle_689 (by decide) ?_
    exact rt_z hx hb hr hlocks (by decide) hI hA hQ ⟨rfl, Z99, S99, M99, L, hR9, hA9, rfl⟩ (Nat.le_of_ble_eq_true rfl) (Nat.le_of_ble_eq_true rfl) dL_isVehicle_693
set_option maxHeartbeats 4000000 in
set_option maxRecDepth 100000 in
theorem qV_3 (G : GX) (hst : G.1.stackTraces = false) {Z : XZ} {S0 : XS} {M : MS} {L : LwS} {t : Nat} {la : Nat → Nat} (hR : RR Z S0 M L t) (ht : t ≤ 100) (one two : Int32) (h1 : nB one 60000) (h2 : nB two 60000) : FC G yL_isVehicle cL_isVehicle 16 (some .boolean) { frames := 9, cells := 5, slots := 802, locals := 263 } [.ref (Z.A 0 0), .ref (la 3), .ref (la 4), .ref (la 5), .ref (la 6), .int 3, .int one, .int two] (jn (xW G.2.2.2 G.2.1 Z S0) (lW G.2.2.2 la L)) (poR G.2.2.2 G.2.1 (Z.A 0 0) la t) := by
  refine FC.go (lv := [(0, .ref (Z.A 0 0)), (1, .ref (la 3)), (2, .ref (la 4)), (3, .ref (la 5)), (4, .ref (la 6)), (5, .int 3), (6, .int one), (7, .int two)]) (by decide) (Nat.le_of_ble_eq_true rfl) rfl (fun p e s m args below meth c A H locs ls Q hx hb hr hts hown hml hlocks hnm hK hE hI hA hl hQ => ?_)
  have hown : s.vm.findClass "IcehighwayLaw" = some m.cls := hown
  obtain ⟨np, enp⟩ : ∃ x : Nat, x = Z.N 0 := ⟨_, rfl⟩
  obtain ⟨nv, env⟩ : ∃ x : Nat, x = Z.N 1 := ⟨_, rfl⟩
  have h63 : L 6 3 = nI np := by rw [enp]; exact hR.l.g.2.2.2.1
  have h64 : L 6 4 = nI nv := by rw [env]; exact hR.l.g.2.2.2.2
  have hnp : np ≤ 8 := by rw [enp]; exact hR.np
  have hnv : nv ≤ 8 := by rw [env]; exact hR.nv
  have ht5 : t < 512 := by omega
  refine lv_iload hx hb dL_isVehicle_0 (lv_at hl 5 rfl) ?_
  refine lv_if_ne (tgt := 253) hx hb dL_isVehicle_2 (by decide) (fun _ => ?_) (fun h => absurd h (by decide))
  refine lv_iload hx hb dL_isVehicle_253 (lv_at hl 6 rfl) ?_
  refine lv_aload hx hb dL_isVehicle_255 (lv_at hl 4 rfl) ?_
  refine lv_iconst (v := 4) hx hb dL_isVehicle_257 (by decide) ?_
  refine gA (k := 6) (n := 5) (q := 4) hx hb hK hI (by decide) rfl (by unfold vp_in; decide) (by decide) dL_isVehicle_258 ?_
  rw [h64]
  refine lv_iconst (v := 1) hx hb dL_isVehicle_259 (by decide) ?_
  refine lv_iadd hx hb dL_isVehicle_260 ?_
  refine lv_irem hx hb dL_isVehicle_261 (ix_ne (n := nv) rfl (by omega)) ?_
  obtain ⟨jj, hpp, hle⟩ := ix_1 (g := nI nv) (n := nv) h1 (by decide) rfl (by omega)
  rw [hpp]
  rcases Nat.lt_or_ge jj nv with hp | hp
  · skip
    refine lv_istore (lv' := [(8, .int (nI jj)), (0, .ref (Z.A 0 0)), (1, .ref (la 3)), (2, .ref (la 4)), (3, .ref (la 5)), (4, .ref (la 6)), (5, .int 3), (6, .int one), (7, .int two)]) hx hb dL_isVehicle_262 hl (by decide) rfl (fun ls hl => ?_)
    refine lv_iload hx hb dL_isVehicle_264 (lv_at hl 0 rfl) ?_
    refine lv_aload hx hb dL_isVehicle_266 (lv_at hl 5 rfl) ?_
    refine lv_iconst (v := 4) hx hb dL_isVehicle_268 (by decide) ?_
    refine gA (k := 6) (n := 5) (q := 4) hx hb hK hI (by decide) rfl (by unfold vp_in; decide) (by decide) dL_isVehicle_269 ?_
    rw [h64]
    refine lv_icmp_ge (tgt := 277) hx hb dL_isVehicle_270 (by decide) (fun h9 => absurd h9 (show ¬ nI nv ≤ nI jj from fun z => absurd ((nI_leI (by omega) (by omega)).mp z) (by omega))) (fun _ => ?_)
    refine lv_iconst (v := 1) hx hb dL_isVehicle_273 (by decide) ?_
    refine lv_goto (tgt := 278) hx hb dL_isVehicle_274 (by decide) ?_
    refine lv_istore (lv' := [(9, .int 1), (8, .int (nI jj)), (0, .ref (Z.A 0 0)), (1, .ref (la 3)), (2, .ref (la 4)), (3, .ref (la 5)), (4, .ref (la 6)), (5, .int 3), (6, .int one), (7, .int two)]) hx hb dL_isVehicle_278 hl (by decide) rfl (fun ls hl => ?_)
    refine lv_iload hx hb dL_isVehicle_280 (lv_at hl 7 rfl) ?_
    refine lv_iconst (v := 2) hx hb dL_isVehicle_282 (by decide) ?_
    refine lv_icmp_ge (tgt := 544) hx hb dL_isVehicle_283 (by decide) (fun _ => ?_) (fun h => absurd (by decide) h)
    refine lv_iload hx hb dL_isVehicle_544 (lv_at hl 0 rfl) ?_
    refine lv_if_eq (tgt := 559) hx hb dL_isVehicle_546 (by decide) (fun h => absurd h (by decide)) (fun _ => ?_)
    refine lv_aload_n hx hb dL_isVehicle_549 rfl (lv_at hl 3 rfl) ?_
    refine lv_iload hx hb dL_isVehicle_550 (lv_at hl 1 rfl) ?_
    refine gA (k := 3) (n := 8) (q := jj) hx hb hK hI (by decide) rfl (vp_in_nI (Nat.lt_of_lt_of_le (show jj < 8 by omega) (by decide)) (by decide)) (nI_clamp (Nat.lt_of_lt_of_le (show jj < 8 by omega) (by decide))) dL_isVehicle_552 ?_
    refine lv_bipush (v := 8) hx hb dL_isVehicle_553 (by decide) ?_
    refine lv_irem hx hb dL_isVehicle_555 (by decide) ?_
    refine lv_goto (tgt := 560) hx hb dL_isVehicle_556 (by decide) ?_
    refine lv_istore (lv' := [(10, .int ((L 3 jj) - (L 3 jj) / 8 * 8)), (9, .int 1), (8, .int (nI jj)), (0, .ref (Z.A 0 0)), (1, .ref (la 3)), (2, .ref (la 4)), (3, .ref (la 5)), (4, .ref (la 6)), (5, .int 3), (6, .int one), (7, .int two)]) hx hb dL_isVehicle_560 hl (by decide) rfl (fun ls hl => ?_)
    refine lv_iload hx hb dL_isVehicle_562 (lv_at hl 1 rfl) ?_
    refine lv_if_eq (tgt := 580) hx hb dL_isVehicle_564 (by decide) (fun h => absurd h (by decide)) (fun _ => ?_)
    refine lv_aload_n hx hb dL_isVehicle_567 rfl (lv_at hl 4 rfl) ?_
    refine lv_iload hx hb dL_isVehicle_568 (lv_at hl 2 rfl) ?_
    refine gA (k := 3) (n := 8) (q := jj) hx hb hK hI (by decide) rfl (vp_in_nI (Nat.lt_of_lt_of_le (show jj < 8 by omega) (by decide)) (by decide)) (nI_clamp (Nat.lt_of_lt_of_le (show jj < 8 by omega) (by decide))) dL_isVehicle_570 ?_
    refine lv_sipush (v := 128) hx hb dL_isVehicle_571 (by decide) ?_
    refine lv_idiv hx hb dL_isVehicle_574 (by decide) ?_
    refine lv_iconst (v := 2) hx hb dL_isVehicle_575 (by decide) ?_
    refine lv_irem hx hb dL_isVehicle_576 (by decide) ?_
    refine lv_goto (tgt := 581) hx hb dL_isVehicle_577 (by decide) ?_
    refine lv_istore (lv' := [(11, .int (((L 3 jj) / 128) - ((L 3 jj) / 128) / 2 * 2)), (10, .int ((L 3 jj) - (L 3 jj) / 8 * 8)), (9, .int 1), (8, .int (nI jj)), (0, .ref (Z.A 0 0)), (1, .ref (la 3)), (2, .ref (la 4)), (3, .ref (la 5)), (4, .ref (la 6)), (5, .int 3), (6, .int one), (7, .int two)]) hx hb dL_isVehicle_581 hl (by decide) rfl (fun ls hl => ?_)
    refine lv_iload hx hb dL_isVehicle_583 (lv_at hl 9 rfl) ?_
    refine lv_iconst (v := 2) hx hb dL_isVehicle_585 (by decide) ?_
    refine lv_icmp_ne (tgt := 694) hx hb dL_isVehicle_586 (by decide) (fun _ => ?_) (fun h => absurd h (by decide))
    refine lv_iload hx hb dL_isVehicle_694 (lv_at hl 1 rfl) ?_
    refine lv_iconst (v := 2) hx hb dL_isVehicle_696 (by decide) ?_
    have hJ1 : W p G.1 e ({ frames := 9, cells := 5, slots := 802, locals := 263 }) s m args below meth c H locs 0 0 Q (F0 m 705 ls [.int (bI (((L 3 jj) - (L 3 jj) / 8 * 8) = 2))]) := by
      by_cases hb12 : ((L 3 jj) - (L 3 jj) / 8 * 8) = 2
      · rw [bI_t hb12]
        refine lv_istore (lv' := [(12, .int 1), (11, .int (((L 3 jj) / 128) - ((L 3 jj) / 128) / 2 * 2)), (10, .int ((L 3 jj) - (L 3 jj) / 8 * 8)), (9, .int 1), (8, .int (nI jj)), (0, .ref (Z.A 0 0)), (1, .ref (la 3)), (2, .ref (la 4)), (3, .ref (la 5)), (4, .ref (la 6)), (5, .int 3), (6, .int one), (7, .int two)]) hx hb dL_isVehicle_705 hl (by decide) rfl (fun ls hl => ?_)
        refine lv_iload hx hb dL_isVehicle_707 (lv_at hl 0 rfl) ?_
        refine lv_if_eq (tgt := 807) hx hb dL_isVehicle_709 (by decide) (fun h => absurd h (by decide)) (fun _ => ?_)
        refine lv_aload_n hx hb dL_isVehicle_712 rfl (lv_at hl 6 rfl) ?_
        refine lv_iload hx hb dL_isVehicle_713 (lv_at hl 4 rfl) ?_
        refine lv_dup2_11 hx hb dL_isVehicle_715 rfl rfl ?_
        refine gA (k := 3) (n := 8) (q := jj) hx hb hK hI (by decide) rfl (vp_in_nI (Nat.lt_of_lt_of_le (show jj < 8 by omega) (by decide)) (by decide)) (nI_clamp (Nat.lt_of_lt_of_le (show jj < 8 by omega) (by decide))) dL_isVehicle_716 ?_
        by_cases hw1 : (((L 3 jj) / 128) - ((L 3 jj) / 128) / 2 * 2) = 1
        · skip
          refine lv_iload hx hb dL_isVehicle_717 (lv_at hl 1 rfl) ?_
          refine lv_iconst (v := 1) hx hb dL_isVehicle_719 (by decide) ?_
          refine lv_icmp_ne (tgt := 728) hx hb dL_isVehicle_720 (by decide) (fun h9 => absurd hw1 h9) (fun _ => ?_)
          refine lv_bipush (v := -128) hx hb dL_isVehicle_723 (by decide) ?_
          refine lv_goto (tgt := 731) hx hb dL_isVehicle_725 (by decide) ?_
          refine lv_iadd hx hb dL_isVehicle_731 ?_
          obtain ⟨S2, eS2⟩ : ∃ z : LwS, z = lset L 3 jj ((L 3 jj) + (-128)) := ⟨_, rfl⟩
          refine sA (k := 3) (n := 8) (q := jj) hx hb hK hI (by decide) rfl (vp_in_nI (Nat.lt_of_lt_of_le (show jj < 8 by omega) (by decide)) (by decide)) (nI_clamp (Nat.lt_of_lt_of_le (show jj < 8 by omega) (by decide))) eS2 dL_isVehicle_732 (fun H locs hI => ?_)
          refine lv_aload_n hx hb dL_isVehicle_733 rfl (lv_at hl 6 rfl) ?_
          refine lv_iload hx hb dL_isVehicle_734 (lv_at hl 4 rfl) ?_
          refine gA (k := 3) (n := 8) (q := jj) hx hb hK hI (by decide) rfl (vp_in_nI (Nat.lt_of_lt_of_le (show jj < 8 by omega) (by decide)) (by decide)) (nI_clamp (Nat.lt_of_lt_of_le (show jj < 8 by omega) (by decide))) dL_isVehicle_736 ?_
          refine lv_bipush (v := 8) hx hb dL_isVehicle_737 (by decide) ?_
          refine lv_idiv hx hb dL_isVehicle_739 (by decide) ?_
          refine lv_bipush (v := 16) hx hb dL_isVehicle_740 (by decide) ?_
          refine lv_irem hx hb dL_isVehicle_742 (by decide) ?_
          obtain ⟨x3, ex3⟩ : ∃ z : Int32, z = ((S2 3 jj) / 8) - ((S2 3 jj) / 8) / 16 * 16 := ⟨_, rfl⟩
          rw [← ex3]
          refine lv_istore (lv' := [(13, .int x3), (12, .int 1), (11, .int (((L 3 jj) / 128) - ((L 3 jj) / 128) / 2 * 2)), (10, .int ((L 3 jj) - (L 3 jj) / 8 * 8)), (9, .int 1), (8, .int (nI jj)), (0, .ref (Z.A 0 0)), (1, .ref (la 3)), (2, .ref (la 4)), (3, .ref (la 5)), (4, .ref (la 6)), (5, .int 3), (6, .int one), (7, .int two)]) hx hb dL_isVehicle_743 hl (by decide) rfl (fun ls hl => ?_)
          by_cases hat : x3 = 0
          · have hc9 : L 3 jj / 8 - L 3 jj / 8 / 16 * 16 = 0 := by rw [← at_tn (hR.l.w (show jj < Z.N 1 by omega)) eS2 (Or.inl ⟨hw1, rfl⟩), ← ex3]; exact hat
            refine lv_iload hx hb dL_isVehicle_745 (lv_at hl 2 rfl) ?_
            refine lv_iconst (v := 1) hx hb dL_isVehicle_747 (by decide) ?_
            refine lv_icmp_ne (tgt := 756) hx hb dL_isVehicle_748 (by decide) (fun h9 => absurd hw1 h9) (fun _ => ?_)
            refine lv_iload hx hb dL_isVehicle_751 (lv_at hl 0 rfl) ?_
            refine lv_if_eq (tgt := 770) hx hb dL_isVehicle_753 (by decide) (fun _ => ?_) (fun h9 => absurd hat h9)
            refine lv_aload_n hx hb dL_isVehicle_770 rfl (lv_at hl 7 rfl) ?_
            refine lv_iload hx hb dL_isVehicle_771 (lv_at hl 5 rfl) ?_
            refine lv_dup2_11 hx hb dL_isVehicle_773 rfl rfl ?_
            refine gA (k := 3) (n := 8) (q := jj) hx hb hK hI (by decide) rfl (vp_in_nI (Nat.lt_of_lt_of_le (show jj < 8 by omega) (by decide)) (by decide)) (nI_clamp (Nat.lt_of_lt_of_le (show jj < 8 by omega) (by decide))) dL_isVehicle_774 ?_
            refine lv_iload hx hb dL_isVehicle_775 (lv_at hl 2 rfl) ?_
            refine lv_iconst (v := 1) hx hb dL_isVehicle_777 (by decide) ?_
            refine lv_icmp_ne (tgt := 786) hx hb dL_isVehicle_778 (by decide) (fun h9 => absurd hw1 h9) (fun _ => ?_)
            refine lv_bipush (v := -2) hx hb dL_isVehicle_781 (by decide) ?_
            refine lv_goto (tgt := 787) hx hb dL_isVehicle_783 (by decide) ?_
            refine lv_iadd hx hb dL_isVehicle_787 ?_
            obtain ⟨S4, eS4⟩ : ∃ z : LwS, z = lset S2 3 jj ((S2 3 jj) + (-2)) := ⟨_, rfl⟩
            refine sA (k := 3) (n := 8) (q := jj) hx hb hK hI (by decide) rfl (vp_in_nI (Nat.lt_of_lt_of_le (show jj < 8 by omega) (by decide)) (by decide)) (nI_clamp (Nat.lt_of_lt_of_le (show jj < 8 by omega) (by decide))) eS4 dL_isVehicle_788 (fun H locs hI => ?_)
            refine lv_aload_n hx hb dL_isVehicle_789 rfl (lv_at hl 7 rfl) ?_
            refine lv_aload_n hx hb dL_isVehicle_790 rfl (lv_at hl 8 rfl) ?_
            refine lv_aload_n hx hb dL_isVehicle_791 rfl (lv_at hl 9 rfl) ?_
            refine lv_iload hx hb dL_isVehicle_792 (lv_at hl 5 rfl) ?_
            refine lv_iload hx hb dL_isVehicle_794 (lv_at hl 2 rfl) ?_
            refine lv_if_ne (tgt := 803) hx hb dL_isVehicle_796 (by decide) (fun _ => ?_) (fun h9 => absurd h9 (show ¬ (((L 3 jj) / 128) - ((L 3 jj) / 128) / 2 * 2) = 0 by rw [hw1]; decide))
            refine lv_iconst (v := 0) hx hb dL_isVehicle_803 (by decide) ?_
            obtain ⟨S5, eS5⟩ : ∃ z : LwS, z = L_unloads S4 (nI jj) 0 := ⟨_, rfl⟩
            refine cS0 (rest := []) hx hb hml hts hown hK hE hI (qL_unloads G _ la S4 (nI jj) 0 (vp_in_nI (Nat.lt_of_lt_of_le (show jj < 8 by omega) (by decide)) (by decide)) (gd_tn (show jj < 8 by omega) (hR.l.w (show jj < Z.N 1 by omega)) hb12 eS2 eS4 (Or.inl ⟨hw1, rfl, rfl⟩))) kw_112 ⟨Nat.le_of_ble_eq_true rfl, Nat.le_of_ble_eq_true rfl⟩ rfl rfl hl.1 rfl (Nat.le_of_ble_eq_true rfl) dL_isVehicle_804 ⟨Nat.le_of_ble_eq_true rfl, Nat.le_of_ble_eq_true rfl⟩ (fun H locs hI => ?_)
            rw [← eS5] at hI
            refine lv_aload_n hx hb dL_isVehicle_807 rfl (lv_at hl 6 rfl) ?_
            refine lv_bipush (v := 12) hx hb dL_isVehicle_808 (by decide) ?_
            refine lv_iload hx hb dL_isVehicle_810 (lv_at hl 5 rfl) ?_
            refine lv_iconst (v := 0) hx hb dL_isVehicle_812 (by decide) ?_
            refine lv_iconst (v := 0) hx hb dL_isVehicle_813 (by decide) ?_
            refine jx_callH (rest := []) (as := [.ref (Z.A 0 0), .int 12, .int (nI jj), .int 0, .int 0]) hx hb hml hts hown hK hE Dj_xl hI (qD_turn G hst Z S0 (nI jj) 0 0 hR.1.1.1 hR.1.1.2.1) kw_does ⟨(Nat.le_of_ble_eq_true rfl), (Nat.le_of_ble_eq_true rfl)⟩ hl.1 (Nat.le_of_ble_eq_true rfl) dL_isVehicle_814 ⟨(Nat.le_of_ble_eq_true rfl), (Nat.le_of_ble_eq_true rfl)⟩ (fun v w1 H locs hpE hI => ?_)
            obtain ⟨hv, Z99, S99, M99, hR9, hA9, hw9⟩ : FIN G.2.2.2 G.2.1 Z t S5 0 v w1 := by subst eS5 eS4 ex3 eS2; subst enp env; exact fv3_at (y' := 0) hR ht5 hp hb12 hw1 (Or.inl ⟨rfl, rfl, rfl, rfl⟩) (by first | exact hc9 | (rw [h63]; exact hc9) | exact hc9.trans h63.symm) hpE
            subst hv
            subst hw9
            refine lv_iload hx hb dL_isVehicle_817 (lv_at hl 4 rfl) ?_
            refine lv_if_ne (tgt := 827) hx hb dL_isVehicle_819 (by decide) (fun _ => ?_) (fun h => absurd h (by decide))
            refine lv_iload hx hb dL_isVehicle_827 (lv_at hl 1 rfl) ?_
            refine lv_if_eq (tgt := 839) hx hb dL_isVehicle_829 (by decide) (fun h => absurd h (by decide)) (fun _ => ?_)
            refine lv_iconst (v := 1) hx hb dL_isVehicle_832 (by decide) ?_
            refine lv_iload hx hb dL_isVehicle_833 (lv_at hl 2 rfl) ?_
            refine lv_isub hx hb dL_isVehicle_835 ?_
            refine lv_goto (tgt := 841) hx hb dL_isVehicle_836 (by decide) ?_
            have hm : (0 : Int32) = 1 - (((L 3 jj) / 128) - ((L 3 jj) / 128) / 2 * 2) := by rw [hw1]; decide
            refine lv_icmp_ne (tgt := 848) hx hb dL_isVehicle_841 (by decide) (fun h9 => absurd hm h9) (fun _ => ?_)
            refine lv_iconst (v := 1) hx hb dL_isVehicle_844 (by decide) ?_
            refine lv_goto (tgt := 849) hx hb dL_isVehicle_845 (by decide) ?_
            exact rt_z hx hb hr hlocks (by decide) hI hA hQ ⟨rfl, Z99, S99, M99, S5, hR9, hA9, rfl⟩ (Nat.le_of_ble_eq_true rfl) (Nat.le_of_ble_eq_true rfl) dL_isVehicle_849
          · have hc9 : ¬ L 3 jj / 8 - L 3 jj / 8 / 16 * 16 = 0 := by rw [← at_tn (hR.l.w (show jj < Z.N 1 by omega)) eS2 (Or.inl ⟨hw1, rfl⟩), ← ex3]; exact hat
            refine lv_iload hx hb dL_isVehicle_745 (lv_at hl 2 rfl) ?_
            refine lv_iconst (v := 1) hx hb dL_isVehicle_747 (by decide) ?_
            refine lv_icmp_ne (tgt := 756) hx hb dL_isVehicle_748 (by decide) (fun h9 => absurd hw1 h9) (fun _ => ?_)
            refine lv_iload hx hb dL_isVehicle_751 (lv_at hl 0 rfl) ?_
            refine lv_if_eq (tgt := 770) hx hb dL_isVehicle_753 (by decide) (fun h9 => absurd h9 hat) (fun _ => ?_)
            refine lv_iload hx hb dL_isVehicle_756 (lv_at hl 2 rfl) ?_
            refine lv_if_ne (tgt := 807) hx hb dL_isVehicle_758 (by decide) (fun _ => ?_) (fun h9 => absurd h9 (show ¬ (((L 3 jj) / 128) - ((L 3 jj) / 128) / 2 * 2) = 0 by rw [hw1]; decide))
            refine lv_aload_n hx hb dL_isVehicle_807 rfl (lv_at hl 6 rfl) ?_
            refine lv_bipush (v := 12) hx hb dL_isVehicle_808 (by decide) ?_
            refine lv_iload hx hb dL_isVehicle_810 (lv_at hl 5 rfl) ?_
            refine lv_iconst (v := 0) hx hb dL_isVehicle_812 (by decide) ?_
            refine lv_iconst (v := 0) hx hb dL_isVehicle_813 (by decide) ?_
            refine jx_callH (rest := []) (as := [.ref (Z.A 0 0), .int 12, .int (nI jj), .int 0, .int 0]) hx hb hml hts hown hK hE Dj_xl hI (qD_turn G hst Z S0 (nI jj) 0 0 hR.1.1.1 hR.1.1.2.1) kw_does ⟨(Nat.le_of_ble_eq_true rfl), (Nat.le_of_ble_eq_true rfl)⟩ hl.1 (Nat.le_of_ble_eq_true rfl) dL_isVehicle_814 ⟨(Nat.le_of_ble_eq_true rfl), (Nat.le_of_ble_eq_true rfl)⟩ (fun v w1 H locs hpE hI => ?_)
            obtain ⟨hv, Z99, S99, M99, hR9, hA9, hw9⟩ : FIN G.2.2.2 G.2.1 Z t S2 0 v w1 := by subst ex3 eS2; subst enp env; exact fv3_no (y' := 0) hR ht5 hp hb12 hw1 (Or.inl ⟨rfl, rfl, rfl⟩) (by first | exact hc9 | exact (fun z => hc9 (z.trans h63))) hpE
            subst hv
            subst hw9
            refine lv_iload hx hb dL_isVehicle_817 (lv_at hl 4 rfl) ?_
            refine lv_if_ne (tgt := 827) hx hb dL_isVehicle_819 (by decide) (fun _ => ?_) (fun h => absurd h (by decide))
            refine lv_iload hx hb dL_isVehicle_827 (lv_at hl 1 rfl) ?_
            refine lv_if_eq (tgt := 839) hx hb dL_isVehicle_829 (by decide) (fun h => absurd h (by decide)) (fun _ => ?_)
            refine lv_iconst (v := 1) hx hb dL_isVehicle_832 (by decide) ?_
            refine lv_iload hx hb dL_isVehicle_833 (lv_at hl 2 rfl) ?_
            refine lv_isub hx hb dL_isVehicle_835 ?_
            refine lv_goto (tgt := 841) hx hb dL_isVehicle_836 (by decide) ?_
            have hm : (0 : Int32) = 1 - (((L 3 jj) / 128) - ((L 3 jj) / 128) / 2 * 2) := by rw [hw1]; decide
            refine lv_icmp_ne (tgt := 848) hx hb dL_isVehicle_841 (by decide) (fun h9 => absurd hm h9) (fun _ => ?_)
            refine lv_iconst (v := 1) hx hb dL_isVehicle_844 (by decide) ?_
            refine lv_goto (tgt := 849) hx hb dL_isVehicle_845 (by decide) ?_
            exact rt_z hx hb hr hlocks (by decide) hI hA hQ ⟨rfl, Z99, S99, M99, S2, hR9, hA9, rfl⟩ (Nat.le_of_ble_eq_true rfl) (Nat.le_of_ble_eq_true rfl) dL_isVehicle_849
        · have hw00 : (((L 3 jj) / 128) - ((L 3 jj) / 128) / 2 * 2 : Int32) = 0 := by
            rcases (hR.l.w (show jj < Z.N 1 by omega)).w01 with z | z
            · rw [(hR.l.w (show jj < Z.N 1 by omega)).way]; exact z
            · exact absurd (by rw [(hR.l.w (show jj < Z.N 1 by omega)).way]; exact z) hw1
          refine lv_iload hx hb dL_isVehicle_717 (lv_at hl 1 rfl) ?_
          refine lv_iconst (v := 1) hx hb dL_isVehicle_719 (by decide) ?_
          refine lv_icmp_ne (tgt := 728) hx hb dL_isVehicle_720 (by decide) (fun _ => ?_) (fun h9 => absurd h9 hw1)
          refine lv_sipush (v := 128) hx hb dL_isVehicle_728 (by decide) ?_
          refine lv_iadd hx hb dL_isVehicle_731 ?_
          obtain ⟨S6, eS6⟩ : ∃ z : LwS, z = lset L 3 jj ((L 3 jj) + 128) := ⟨_, rfl⟩
          refine sA (k := 3) (n := 8) (q := jj) hx hb hK hI (by decide) rfl (vp_in_nI (Nat.lt_of_lt_of_le (show jj < 8 by omega) (by decide)) (by decide)) (nI_clamp (Nat.lt_of_lt_of_le (show jj < 8 by omega) (by decide))) eS6 dL_isVehicle_732 (fun H locs hI => ?_)
          refine lv_aload_n hx hb dL_isVehicle_733 rfl (lv_at hl 6 rfl) ?_
          refine lv_iload hx hb dL_isVehicle_734 (lv_at hl 4 rfl) ?_
          refine gA (k := 3) (n := 8) (q := jj) hx hb hK hI (by decide) rfl (vp_in_nI (Nat.lt_of_lt_of_le (show jj < 8 by omega) (by decide)) (by decide)) (nI_clamp (Nat.lt_of_lt_of_le (show jj < 8 by omega) (by decide))) dL_isVehicle_736 ?_
          refine lv_bipush (v := 8) hx hb dL_isVehicle_737 (by decide) ?_
          refine lv_idiv hx hb dL_isVehicle_739 (by decide) ?_
          refine lv_bipush (v := 16) hx hb dL_isVehicle_740 (by decide) ?_
          refine lv_irem hx hb dL_isVehicle_742 (by decide) ?_
          obtain ⟨x7, ex7⟩ : ∃ z : Int32, z = ((S6 3 jj) / 8) - ((S6 3 jj) / 8) / 16 * 16 := ⟨_, rfl⟩
          rw [← ex7]
          refine lv_istore (lv' := [(13, .int x7), (12, .int 1), (11, .int (((L 3 jj) / 128) - ((L 3 jj) / 128) / 2 * 2)), (10, .int ((L 3 jj) - (L 3 jj) / 8 * 8)), (9, .int 1), (8, .int (nI jj)), (0, .ref (Z.A 0 0)), (1, .ref (la 3)), (2, .ref (la 4)), (3, .ref (la 5)), (4, .ref (la 6)), (5, .int 3), (6, .int one), (7, .int two)]) hx hb dL_isVehicle_743 hl (by decide) rfl (fun ls hl => ?_)
          by_cases hat : x7 = (nI np)
          · have hc9 : L 3 jj / 8 - L 3 jj / 8 / 16 * 16 = nI np := by rw [← at_tn (hR.l.w (show jj < Z.N 1 by omega)) eS6 (Or.inr ⟨hw00, rfl⟩), ← ex7]; exact hat
            refine lv_iload hx hb dL_isVehicle_745 (lv_at hl 2 rfl) ?_
            refine lv_iconst (v := 1) hx hb dL_isVehicle_747 (by decide) ?_
            refine lv_icmp_ne (tgt := 756) hx hb dL_isVehicle_748 (by decide) (fun _ => ?_) (fun h9 => absurd h9 hw1)
            refine lv_iload hx hb dL_isVehicle_756 (lv_at hl 2 rfl) ?_
            refine lv_if_ne (tgt := 807) hx hb dL_isVehicle_758 (by decide) (fun h9 => absurd hw00 h9) (fun _ => ?_)
            refine lv_iload hx hb dL_isVehicle_761 (lv_at hl 0 rfl) ?_
            refine lv_aload hx hb dL_isVehicle_763 (lv_at hl 10 rfl) ?_
            refine lv_iconst (v := 3) hx hb dL_isVehicle_765 (by decide) ?_
            refine gA (k := 6) (n := 5) (q := 3) hx hb hK hI (by decide) rfl (by unfold vp_in; decide) (by decide) dL_isVehicle_766 ?_
            rw [(show S6 6 3 = nI np by rw [eS6, lset_k (by decide)]; exact h63)]
            refine lv_icmp_ne (tgt := 807) hx hb dL_isVehicle_767 (by decide) (fun h9 => absurd hat h9) (fun _ => ?_)
            refine lv_aload_n hx hb dL_isVehicle_770 rfl (lv_at hl 7 rfl) ?_
            refine lv_iload hx hb dL_isVehicle_771 (lv_at hl 5 rfl) ?_
            refine lv_dup2_11 hx hb dL_isVehicle_773 rfl rfl ?_
            refine gA (k := 3) (n := 8) (q := jj) hx hb hK hI (by decide) rfl (vp_in_nI (Nat.lt_of_lt_of_le (show jj < 8 by omega) (by decide)) (by decide)) (nI_clamp (Nat.lt_of_lt_of_le (show jj < 8 by omega) (by decide))) dL_isVehicle_774 ?_
            refine lv_iload hx hb dL_isVehicle_775 (lv_at hl 2 rfl) ?_
            refine lv_iconst (v := 1) hx hb dL_isVehicle_777 (by decide) ?_
            refine lv_icmp_ne (tgt := 786) hx hb dL_isVehicle_778 (by decide) (fun _ => ?_) (fun h9 => absurd h9 hw1)
            refine lv_iconst (v := 1) hx hb dL_isVehicle_786 (by decide) ?_
            refine lv_iadd hx hb dL_isVehicle_787 ?_
            obtain ⟨S8, eS8⟩ : ∃ z : LwS, z = lset S6 3 jj ((S6 3 jj) + 1) := ⟨_, rfl⟩
            refine sA (k := 3) (n := 8) (q := jj) hx hb hK hI (by decide) rfl (vp_in_nI (Nat.lt_of_lt_of_le (show jj < 8 by omega) (by decide)) (by decide)) (nI_clamp (Nat.lt_of_lt_of_le (show jj < 8 by omega) (by decide))) eS8 dL_isVehicle_788 (fun H locs hI => ?_)
            refine lv_aload_n hx hb dL_isVehicle_789 rfl (lv_at hl 7 rfl) ?_
            refine lv_aload_n hx hb dL_isVehicle_790 rfl (lv_at hl 8 rfl) ?_
            refine lv_aload_n hx hb dL_isVehicle_791 rfl (lv_at hl 9 rfl) ?_
            refine lv_iload hx hb dL_isVehicle_792 (lv_at hl 5 rfl) ?_
            refine lv_iload hx hb dL_isVehicle_794 (lv_at hl 2 rfl) ?_
            refine lv_if_ne (tgt := 803) hx hb dL_isVehicle_796 (by decide) (fun h9 => absurd hw00 h9) (fun _ => ?_)
            refine lv_iconst (v := 1) hx hb dL_isVehicle_799 (by decide) ?_
            refine lv_goto (tgt := 804) hx hb dL_isVehicle_800 (by decide) ?_
            obtain ⟨S9, eS9⟩ : ∃ z : LwS, z = L_unloads S8 (nI jj) 1 := ⟨_, rfl⟩
            refine cS0 (rest := []) hx hb hml hts hown hK hE hI (qL_unloads G _ la S8 (nI jj) 1 (vp_in_nI (Nat.lt_of_lt_of_le (show jj < 8 by omega) (by decide)) (by decide)) (gd_tn (show jj < 8 by omega) (hR.l.w (show jj < Z.N 1 by omega)) hb12 eS6 eS8 (Or.inr ⟨hw00, rfl, rfl⟩))) kw_112 ⟨Nat.le_of_ble_eq_true rfl, Nat.le_of_ble_eq_true rfl⟩ rfl rfl hl.1 rfl (Nat.le_of_ble_eq_true rfl) dL_isVehicle_804 ⟨Nat.le_of_ble_eq_true rfl, Nat.le_of_ble_eq_true rfl⟩ (fun H locs hI => ?_)
            rw [← eS9] at hI
            refine lv_aload_n hx hb dL_isVehicle_807 rfl (lv_at hl 6 rfl) ?_
            refine lv_bipush (v := 12) hx hb dL_isVehicle_808 (by decide) ?_
            refine lv_iload hx hb dL_isVehicle_810 (lv_at hl 5 rfl) ?_
            refine lv_iconst (v := 0) hx hb dL_isVehicle_812 (by decide) ?_
            refine lv_iconst (v := 0) hx hb dL_isVehicle_813 (by decide) ?_
            refine jx_callH (rest := []) (as := [.ref (Z.A 0 0), .int 12, .int (nI jj), .int 0, .int 0]) hx hb hml hts hown hK hE Dj_xl hI (qD_turn G hst Z S0 (nI jj) 0 0 hR.1.1.1 hR.1.1.2.1) kw_does ⟨(Nat.le_of_ble_eq_true rfl), (Nat.le_of_ble_eq_true rfl)⟩ hl.1 (Nat.le_of_ble_eq_true rfl) dL_isVehicle_814 ⟨(Nat.le_of_ble_eq_true rfl), (Nat.le_of_ble_eq_true rfl)⟩ (fun v w1 H locs hpE hI => ?_)
            obtain ⟨hv, Z99, S99, M99, hR9, hA9, hw9⟩ : FIN G.2.2.2 G.2.1 Z t S9 1 v w1 := by subst eS9 eS8 ex7 eS6; subst enp env; exact fv3_at (y' := 1) hR ht5 hp hb12 hw00 (Or.inr ⟨rfl, rfl, rfl, rfl⟩) (by first | exact hc9 | (rw [h63]; exact hc9) | exact hc9.trans h63.symm) hpE
            subst hv
            subst hw9
            refine lv_iload hx hb dL_isVehicle_817 (lv_at hl 4 rfl) ?_
            refine lv_if_ne (tgt := 827) hx hb dL_isVehicle_819 (by decide) (fun _ => ?_) (fun h => absurd h (by decide))
            refine lv_iload hx hb dL_isVehicle_827 (lv_at hl 1 rfl) ?_
            refine lv_if_eq (tgt := 839) hx hb dL_isVehicle_829 (by decide) (fun h => absurd h (by decide)) (fun _ => ?_)
            refine lv_iconst (v := 1) hx hb dL_isVehicle_832 (by decide) ?_
            refine lv_iload hx hb dL_isVehicle_833 (lv_at hl 2 rfl) ?_
            refine lv_isub hx hb dL_isVehicle_835 ?_
            refine lv_goto (tgt := 841) hx hb dL_isVehicle_836 (by decide) ?_
            have hm : (1 : Int32) = 1 - (((L 3 jj) / 128) - ((L 3 jj) / 128) / 2 * 2) := by rw [hw00]; decide
            refine lv_icmp_ne (tgt := 848) hx hb dL_isVehicle_841 (by decide) (fun h9 => absurd hm h9) (fun _ => ?_)
            refine lv_iconst (v := 1) hx hb dL_isVehicle_844 (by decide) ?_
            refine lv_goto (tgt := 849) hx hb dL_isVehicle_845 (by decide) ?_
            exact rt_z hx hb hr hlocks (by decide) hI hA hQ ⟨rfl, Z99, S99, M99, S9, hR9, hA9, rfl⟩ (Nat.le_of_ble_eq_true rfl) (Nat.le_of_ble_eq_true rfl) dL_isVehicle_849
          · have hc9 : ¬ L 3 jj / 8 - L 3 jj / 8 / 16 * 16 = nI np := by rw [← at_tn (hR.l.w (show jj < Z.N 1 by omega)) eS6 (Or.inr ⟨hw00, rfl⟩), ← ex7]; exact hat
            refine lv_iload hx hb dL_isVehicle_745 (lv_at hl 2 rfl) ?_
            refine lv_iconst (v := 1) hx hb dL_isVehicle_747 (by decide) ?_
            refine lv_icmp_ne (tgt := 756) hx hb dL_isVehicle_748 (by decide) (fun _ => ?_) (fun h9 => absurd h9 hw1)
            refine lv_iload hx hb dL_isVehicle_756 (lv_at hl 2 rfl) ?_
            refine lv_if_ne (tgt := 807) hx hb dL_isVehicle_758 (by decide) (fun h9 => absurd hw00 h9) (fun _ => ?_)
            refine lv_iload hx hb dL_isVehicle_761 (lv_at hl 0 rfl) ?_
            refine lv_aload hx hb dL_isVehicle_763 (lv_at hl 10 rfl) ?_
            refine lv_iconst (v := 3) hx hb dL_isVehicle_765 (by decide) ?_
            refine gA (k := 6) (n := 5) (q := 3) hx hb hK hI (by decide) rfl (by unfold vp_in; decide) (by decide) dL_isVehicle_766 ?_
            rw [(show S6 6 3 = nI np by rw [eS6, lset_k (by decide)]; exact h63)]
            refine lv_icmp_ne (tgt := 807) hx hb dL_isVehicle_767 (by decide) (fun _ => ?_) (fun h9 => absurd h9 hat)
            refine lv_aload_n hx hb dL_isVehicle_807 rfl (lv_at hl 6 rfl) ?_
            refine lv_bipush (v := 12) hx hb dL_isVehicle_808 (by decide) ?_
            refine lv_iload hx hb dL_isVehicle_810 (lv_at hl 5 rfl) ?_
            refine lv_iconst (v := 0) hx hb dL_isVehicle_812 (by decide) ?_
            refine lv_iconst (v := 0) hx hb dL_isVehicle_813 (by decide) ?_
            refine jx_callH (rest := []) (as := [.ref (Z.A 0 0), .int 12, .int (nI jj), .int 0, .int 0]) hx hb hml hts hown hK hE Dj_xl hI (qD_turn G hst Z S0 (nI jj) 0 0 hR.1.1.1 hR.1.1.2.1) kw_does ⟨(Nat.le_of_ble_eq_true rfl), (Nat.le_of_ble_eq_true rfl)⟩ hl.1 (Nat.le_of_ble_eq_true rfl) dL_isVehicle_814 ⟨(Nat.le_of_ble_eq_true rfl), (Nat.le_of_ble_eq_true rfl)⟩ (fun v w1 H locs hpE hI => ?_)
            obtain ⟨hv, Z99, S99, M99, hR9, hA9, hw9⟩ : FIN G.2.2.2 G.2.1 Z t S6 1 v w1 := by subst ex7 eS6; subst enp env; exact fv3_no (y' := 1) hR ht5 hp hb12 hw00 (Or.inr ⟨rfl, rfl, rfl⟩) (by first | exact hc9 | exact (fun z => hc9 (z.trans h63))) hpE
            subst hv
            subst hw9
            refine lv_iload hx hb dL_isVehicle_817 (lv_at hl 4 rfl) ?_
            refine lv_if_ne (tgt := 827) hx hb dL_isVehicle_819 (by decide) (fun _ => ?_) (fun h => absurd h (by decide))
            refine lv_iload hx hb dL_isVehicle_827 (lv_at hl 1 rfl) ?_
            refine lv_if_eq (tgt := 839) hx hb dL_isVehicle_829 (by decide) (fun h => absurd h (by decide)) (fun _ => ?_)
            refine lv_iconst (v := 1) hx hb dL_isVehicle_832 (by decide) ?_
            refine lv_iload hx hb dL_isVehicle_833 (lv_at hl 2 rfl) ?_
            refine lv_isub hx hb dL_isVehicle_835 ?_
            refine lv_goto (tgt := 841) hx hb dL_isVehicle_836 (by decide) ?_
            have hm : (1 : Int32) = 1 - (((L 3 jj) / 128) - ((L 3 jj) / 128) / 2 * 2) := by rw [hw00]; decide
            refine lv_icmp_ne (tgt := 848) hx hb dL_isVehicle_841 (by decide) (fun h9 => absurd hm h9) (fun _ => ?_)
            refine lv_iconst (v := 1) hx hb dL_isVehicle_844 (by decide) ?_
            refine lv_goto (tgt := 849) hx hb dL_isVehicle_845 (by decide) ?_
            exact rt_z hx hb hr hlocks (by decide) hI hA hQ ⟨rfl, Z99, S99, M99, S6, hR9, hA9, rfl⟩ (Nat.le_of_ble_eq_true rfl) (Nat.le_of_ble_eq_true rfl) dL_isVehicle_849
      · rw [bI_f hb12]
        refine lv_istore (lv' := [(12, .int 0), (11, .int (((L 3 jj) / 128) - ((L 3 jj) / 128) / 2 * 2)), (10, .int ((L 3 jj) - (L 3 jj) / 8 * 8)), (9, .int 1), (8, .int (nI jj)), (0, .ref (Z.A 0 0)), (1, .ref (la 3)), (2, .ref (la 4)), (3, .ref (la 5)), (4, .ref (la 6)), (5, .int 3), (6, .int one), (7, .int two)]) hx hb dL_isVehicle_705 hl (by decide) rfl (fun ls hl => ?_)
        refine lv_iload hx hb dL_isVehicle_707 (lv_at hl 0 rfl) ?_
        refine lv_if_eq (tgt := 807) hx hb dL_isVehicle_709 (by decide) (fun _ => ?_) (fun h => absurd h (by decide))
        refine lv_aload_n hx hb dL_isVehicle_807 rfl (lv_at hl 5 rfl) ?_
        refine lv_bipush (v := 12) hx hb dL_isVehicle_808 (by decide) ?_
        refine lv_iload hx hb dL_isVehicle_810 (lv_at hl 4 rfl) ?_
        refine lv_iconst (v := 0) hx hb dL_isVehicle_812 (by decide) ?_
        refine lv_iconst (v := 0) hx hb dL_isVehicle_813 (by decide) ?_
        refine jx_callH (rest := []) (as := [.ref (Z.A 0 0), .int 12, .int (nI jj), .int 0, .int 0]) hx hb hml hts hown hK hE Dj_xl hI (qD_turn G hst Z S0 (nI jj) 0 0 hR.1.1.1 hR.1.1.2.1) kw_does ⟨(Nat.le_of_ble_eq_true rfl), (Nat.le_of_ble_eq_true rfl)⟩ hl.1 (Nat.le_of_ble_eq_true rfl) dL_isVehicle_814 ⟨(Nat.le_of_ble_eq_true rfl), (Nat.le_of_ble_eq_true rfl)⟩ (fun v w1 H locs hpE hI => ?_)
        obtain ⟨hv, Z99, S99, M99, hR9, hA9, hw9⟩ : FIN G.2.2.2 G.2.1 Z t L (-10000000) v w1 := by subst enp env; exact fv3z hR ht5 hp hb12 hpE
        subst hv
        subst hw9
        refine lv_iload hx hb dL_isVehicle_817 (lv_at hl 3 rfl) ?_
        refine lv_if_ne (tgt := 827) hx hb dL_isVehicle_819 (by decide) (fun _ => ?_) (fun h => absurd h (by decide))
        refine lv_iload hx hb dL_isVehicle_827 (lv_at hl 0 rfl) ?_
        refine lv_if_eq (tgt := 839) hx hb dL_isVehicle_829 (by decide) (fun _ => ?_) (fun h => absurd h (by decide))
        refine lv_ldc (v := -10000000) hx hb hown (hts _ q654) dL_isVehicle_839 ?_
        have hm : (-10000000 : Int32) = -10000000 := rfl
        refine lv_icmp_ne (tgt := 848) hx hb dL_isVehicle_841 (by decide) (fun h9 => absurd hm h9) (fun _ => ?_)
        refine lv_iconst (v := 1) hx hb dL_isVehicle_844 (by decide) ?_
        refine lv_goto (tgt := 849) hx hb dL_isVehicle_845 (by decide) ?_
        exact rt_z hx hb hr hlocks (by decide) hI hA hQ ⟨rfl, Z99, S99, M99, L, hR9, hA9, rfl⟩ (Nat.le_of_ble_eq_true rfl) (Nat.le_of_ble_eq_true rfl) dL_isVehicle_849
    refine lv_icmp_ne (tgt := 704) hx hb dL_isVehicle_697 (by decide) (fun c10 => ?_) (fun c10 => ?_)
    · refine lv_iconst (v := 0) hx hb dL_isVehicle_704 (by decide) ?_
      have eb11 : (0 : Int32) = bI (((L 3 jj) - (L 3 jj) / 8 * 8) = 2) := (bI_f c10).symm
      rw [eb11]
      exact hJ1
    · refine lv_iconst (v := 1) hx hb dL_isVehicle_700 (by decide) ?_
      refine lv_goto (tgt := 705) hx hb dL_isVehicle_701 (by decide) ?_
      have eb12 : (1 : Int32) = bI (((L 3 jj) - (L 3 jj) / 8 * 8) = 2) := (bI_t c10).symm
      rw [eb12]
      exact hJ1
  · have epp : jj = nv := by omega
    rw [epp]
    refine lv_istore (lv' := [(8, .int (nI nv)), (0, .ref (Z.A 0 0)), (1, .ref (la 3)), (2, .ref (la 4)), (3, .ref (la 5)), (4, .ref (la 6)), (5, .int 3), (6, .int one), (7, .int two)]) hx hb dL_isVehicle_262 hl (by decide) rfl (fun ls hl => ?_)
    refine lv_iload hx hb dL_isVehicle_264 (lv_at hl 0 rfl) ?_
    refine lv_aload hx hb dL_isVehicle_266 (lv_at hl 5 rfl) ?_
    refine lv_iconst (v := 4) hx hb dL_isVehicle_268 (by decide) ?_
    refine gA (k := 6) (n := 5) (q := 4) hx hb hK hI (by decide) rfl (by unfold vp_in; decide) (by decide) dL_isVehicle_269 ?_
    rw [h64]
    refine lv_icmp_ge (tgt := 277) hx hb dL_isVehicle_270 (by decide) (fun _ => ?_) (fun h9 => absurd (nI_le (Nat.le_refl nv) (by omega)) h9)
    refine lv_iconst (v := 0) hx hb dL_isVehicle_277 (by decide) ?_
    refine lv_istore (lv' := [(9, .int 0), (8, .int (nI nv)), (0, .ref (Z.A 0 0)), (1, .ref (la 3)), (2, .ref (la 4)), (3, .ref (la 5)), (4, .ref (la 6)), (5, .int 3), (6, .int one), (7, .int two)]) hx hb dL_isVehicle_278 hl (by decide) rfl (fun ls hl => ?_)
    refine lv_iload hx hb dL_isVehicle_280 (lv_at hl 7 rfl) ?_
    refine lv_iconst (v := 2) hx hb dL_isVehicle_282 (by decide) ?_
    refine lv_icmp_ge (tgt := 544) hx hb dL_isVehicle_283 (by decide) (fun _ => ?_) (fun h => absurd (by decide) h)
    refine lv_iload hx hb dL_isVehicle_544 (lv_at hl 0 rfl) ?_
    refine lv_if_eq (tgt := 559) hx hb dL_isVehicle_546 (by decide) (fun _ => ?_) (fun h => absurd h (by decide))
    refine lv_iconst (v := 4) hx hb dL_isVehicle_559 (by decide) ?_
    refine lv_istore (lv' := [(10, .int 4), (9, .int 0), (8, .int (nI nv)), (0, .ref (Z.A 0 0)), (1, .ref (la 3)), (2, .ref (la 4)), (3, .ref (la 5)), (4, .ref (la 6)), (5, .int 3), (6, .int one), (7, .int two)]) hx hb dL_isVehicle_560 hl (by decide) rfl (fun ls hl => ?_)
    refine lv_iload hx hb dL_isVehicle_562 (lv_at hl 1 rfl) ?_
    refine lv_if_eq (tgt := 580) hx hb dL_isVehicle_564 (by decide) (fun _ => ?_) (fun h => absurd h (by decide))
    refine lv_iconst (v := 0) hx hb dL_isVehicle_580 (by decide) ?_
    refine lv_istore (lv' := [(11, .int 0), (10, .int 4), (9, .int 0), (8, .int (nI nv)), (0, .ref (Z.A 0 0)), (1, .ref (la 3)), (2, .ref (la 4)), (3, .ref (la 5)), (4, .ref (la 6)), (5, .int 3), (6, .int one), (7, .int two)]) hx hb dL_isVehicle_581 hl (by decide) rfl (fun ls hl => ?_)
    refine lv_iload hx hb dL_isVehicle_583 (lv_at hl 9 rfl) ?_
    refine lv_iconst (v := 2) hx hb dL_isVehicle_585 (by decide) ?_
    refine lv_icmp_ne (tgt := 694) hx hb dL_isVehicle_586 (by decide) (fun _ => ?_) (fun h => absurd h (by decide))
    refine lv_iload hx hb dL_isVehicle_694 (lv_at hl 1 rfl) ?_
    refine lv_iconst (v := 2) hx hb dL_isVehicle_696 (by decide) ?_
    refine lv_icmp_ne (tgt := 704) hx hb dL_isVehicle_697 (by decide) (fun _ => ?_) (fun h => absurd h (by decide))
    refine lv_iconst (v := 0) hx hb dL_isVehicle_704 (by decide) ?_
    refine lv_istore (lv' := [(12, .int 0), (11, .int 0), (10, .int 4), (9, .int 0), (8, .int (nI nv)), (0, .ref (Z.A 0 0)), (1, .ref (la 3)), (2, .ref (la 4)), (3, .ref (la 5)), (4, .ref (la 6)), (5, .int 3), (6, .int one), (7, .int two)]) hx hb dL_isVehicle_705 hl (by decide) rfl (fun ls hl => ?_)
    refine lv_iload hx hb dL_isVehicle_707 (lv_at hl 0 rfl) ?_
    refine lv_if_eq (tgt := 807) hx hb dL_isVehicle_709 (by decide) (fun _ => ?_) (fun h => absurd h (by decide))
    refine lv_aload_n hx hb dL_isVehicle_807 rfl (lv_at hl 5 rfl) ?_
    refine lv_bipush (v := 12) hx hb dL_isVehicle_808 (by decide) ?_
    refine lv_iload hx hb dL_isVehicle_810 (lv_at hl 4 rfl) ?_
    refine lv_iconst (v := 0) hx hb dL_isVehicle_812 (by decide) ?_
    refine lv_iconst (v := 0) hx hb dL_isVehicle_813 (by decide) ?_
    refine jx_callH (rest := []) (as := [.ref (Z.A 0 0), .int 12, .int (nI nv), .int 0, .int 0]) hx hb hml hts hown hK hE Dj_xl hI (qD_turn G hst Z S0 (nI nv) 0 0 hR.1.1.1 hR.1.1.2.1) kw_does ⟨(Nat.le_of_ble_eq_true rfl), (Nat.le_of_ble_eq_true rfl)⟩ hl.1 (Nat.le_of_ble_eq_true rfl) dL_isVehicle_814 ⟨(Nat.le_of_ble_eq_true rfl), (Nat.le_of_ble_eq_true rfl)⟩ (fun v w1 H locs hpE hI => ?_)
    obtain ⟨hv, Z99, S99, M99, hR9, hA9, hw9⟩ : FIN G.2.2.2 G.2.1 Z t L (-30000000) v w1 := by subst enp env; exact fv3a hR ht5 hpE
    subst hv
    subst hw9
    refine lv_iload hx hb dL_isVehicle_817 (lv_at hl 3 rfl) ?_
    refine lv_if_ne (tgt := 827) hx hb dL_isVehicle_819 (by decide) (fun h => absurd h (by decide)) (fun _ => ?_)
    refine lv_ldc (v := -30000000) hx hb hown (hts _ q652) dL_isVehicle_822 ?_
    refine lv_goto (tgt := 841) hx hb dL_isVehicle_824 (by decide) ?_
    have hm : (-30000000 : Int32) = -30000000 := rfl
    refine lv_icmp_ne (tgt := 848) hx hb dL_isVehicle_841 (by decide) (fun h9 => absurd hm h9) (fun _ => ?_)
    refine lv_iconst (v := 1) hx hb dL_isVehicle_844 (by decide) ?_
    refine lv_goto (tgt := 849) hx hb dL_isVehicle_845 (by decide) ?_
    exact rt_z hx hb hr hlocks (by decide) hI hA hQ ⟨rfl, Z99, S99, M99, L, hR9, hA9, rfl⟩ (Nat.le_of_ble_eq_true rfl) (Nat.le_of_ble_eq_true rfl) dL_isVehicle_849
set_option maxHeartbeats 4000000 in
set_option maxRecDepth 100000 in
theorem qT_0 (G : GX) (hst : G.1.stackTraces = false) {Z : XZ} {S0 : XS} {M : MS} {L : LwS} {t : Nat} {la : Nat → Nat} (hR : RR Z S0 M L t) (ht : t ≤ 100) (one two : Int32) (h1 : nB one 60000) (h2 : nB two 60000) : FC G yL_isTold cL_isTold 14 (some .boolean) { frames := 9, cells := 5, slots := 802, locals := 199 } [.ref (Z.A 0 0), .ref (la 0), .ref (la 1), .ref (la 2), .ref (la 3), .ref (la 4), .ref (la 5), .ref (la 6), .int 0, .int one, .int two] (jn (xW G.2.2.2 G.2.1 Z S0) (lW G.2.2.2 la L)) (poR G.2.2.2 G.2.1 (Z.A 0 0) la t) := by
  refine FC.go (lv := [(0, .ref (Z.A 0 0)), (1, .ref (la 0)), (2, .ref (la 1)), (3, .ref (la 2)), (4, .ref (la 3)), (5, .ref (la 4)), (6, .ref (la 5)), (7, .ref (la 6)), (8, .int 0), (9, .int one), (10, .int two)]) (by decide) (Nat.le_of_ble_eq_true rfl) rfl (fun p e s m args below meth c A H locs ls Q hx hb hr hts hown hml hlocks hnm hK hE hI hA hl hQ => ?_)
  have hown : s.vm.findClass "IcehighwayLaw" = some m.cls := hown
  obtain ⟨np, enp⟩ : ∃ x : Nat, x = Z.N 0 := ⟨_, rfl⟩
  obtain ⟨nv, env⟩ : ∃ x : Nat, x = Z.N 1 := ⟨_, rfl⟩
  have h63 : L 6 3 = nI np := by rw [enp]; exact hR.l.g.2.2.2.1
  have h64 : L 6 4 = nI nv := by rw [env]; exact hR.l.g.2.2.2.2
  have hnp : np ≤ 8 := by rw [enp]; exact hR.np
  have hnv : nv ≤ 8 := by rw [env]; exact hR.nv
  have ht5 : t < 512 := by omega
  refine lv_iload hx hb dL_isTold_0 (lv_at hl 8 rfl) ?_
  refine lv_if_ne (tgt := 129) hx hb dL_isTold_2 (by decide) (fun h => absurd h (by decide)) (fun _ => ?_)
  refine lv_iload hx hb dL_isTold_5 (lv_at hl 9 rfl) ?_
  refine lv_bipush (v := 9) hx hb dL_isTold_7 (by decide) ?_
  refine lv_irem hx hb dL_isTold_9 (by decide) ?_
  have hJ2 : ∀ (x1 : Int32), (x1 = if (one - one / 9 * 9) = 0 then (((one / 9) - (one / 9) / 83 * 83) - 21) else (if (one - one / 3 * 3) = 0 then (-((one / 9) - (one / 9) / 15 * 15)) else ((one / 9) - (one / 9) / 60 * 60))) → W p G.1 e ({ frames := 9, cells := 5, slots := 802, locals := 199 }) s m args below meth c H locs 0 0 Q (F0 m 54 ls [.int x1]) := by
    intro x1 ex1
    refine lv_istore (lv' := [(11, .int x1), (0, .ref (Z.A 0 0)), (1, .ref (la 0)), (2, .ref (la 1)), (3, .ref (la 2)), (4, .ref (la 3)), (5, .ref (la 4)), (6, .ref (la 5)), (7, .ref (la 6)), (8, .int 0), (9, .int one), (10, .int two)]) hx hb dL_isTold_54 hl (by decide) rfl (fun ls hl => ?_)
    refine lv_iload hx hb dL_isTold_56 (lv_at hl 0 rfl) ?_
    refine lv_bipush (v := -21) hx hb dL_isTold_58 (by decide) ?_
    have hJ3 : W p G.1 e ({ frames := 9, cells := 5, slots := 802, locals := 199 }) s m args below meth c H locs 0 0 Q (F0 m 75 ls [.int (bI ((¬ (x1 ≤ (-21))) ∧ (¬ (61 ≤ x1))))]) := by
      by_cases hb12 : (¬ (x1 ≤ (-21))) ∧ (¬ (61 ≤ x1))
      · rw [bI_t hb12]
        refine lv_istore (lv' := [(12, .int 1), (11, .int x1), (0, .ref (Z.A 0 0)), (1, .ref (la 0)), (2, .ref (la 1)), (3, .ref (la 2)), (4, .ref (la 3)), (5, .ref (la 4)), (6, .ref (la 5)), (7, .ref (la 6)), (8, .int 0), (9, .int one), (10, .int two)]) hx hb dL_isTold_75 hl (by decide) rfl (fun ls hl => ?_)
        refine lv_aload hx hb dL_isTold_77 (lv_at hl 9 rfl) ?_
        refine lv_iconst (v := 1) hx hb dL_isTold_79 (by decide) ?_
        refine gA (k := 6) (n := 5) (q := 1) hx hb hK hI (by decide) rfl (by unfold vp_in; decide) (by decide) dL_isTold_80 ?_
        refine lv_istore (lv' := [(13, .int (L 6 1)), (12, .int 1), (11, .int x1), (0, .ref (Z.A 0 0)), (1, .ref (la 0)), (2, .ref (la 1)), (3, .ref (la 2)), (4, .ref (la 3)), (5, .ref (la 4)), (6, .ref (la 5)), (7, .ref (la 6)), (8, .int 0), (9, .int one), (10, .int two)]) hx hb dL_isTold_81 hl (by decide) rfl (fun ls hl => ?_)
        refine lv_aload hx hb dL_isTold_83 (lv_at hl 10 rfl) ?_
        refine lv_iconst (v := 1) hx hb dL_isTold_85 (by decide) ?_
        refine lv_iload hx hb dL_isTold_86 (lv_at hl 1 rfl) ?_
        refine lv_if_eq (tgt := 96) hx hb dL_isTold_88 (by decide) (fun h => absurd h (by decide)) (fun _ => ?_)
        refine lv_iload hx hb dL_isTold_91 (lv_at hl 2 rfl) ?_
        refine lv_goto (tgt := 98) hx hb dL_isTold_93 (by decide) ?_
        obtain ⟨S4, eS4⟩ : ∃ z : LwS, z = lset L 6 1 x1 := ⟨_, rfl⟩
        refine sA (k := 6) (n := 5) (q := 1) hx hb hK hI (by decide) rfl (by unfold vp_in; decide) (by decide) eS4 dL_isTold_98 (fun H locs hI => ?_)
        refine lv_aload_n hx hb dL_isTold_99 rfl (lv_at hl 3 rfl) ?_
        refine lv_iconst (v := 1) hx hb dL_isTold_100 (by decide) ?_
        refine lv_iload hx hb dL_isTold_101 (lv_at hl 2 rfl) ?_
        refine lv_iconst (v := 0) hx hb dL_isTold_103 (by decide) ?_
        refine lv_iconst (v := 0) hx hb dL_isTold_104 (by decide) ?_
        refine jx_callH (rest := []) (as := [.ref (Z.A 0 0), .int 1, .int x1, .int 0, .int 0]) hx hb hml hts hown hK hE Dj_xl hI (qD_weather G hst Z S0 x1 0 0) kw_does ⟨(Nat.le_of_ble_eq_true rfl), (Nat.le_of_ble_eq_true rfl)⟩ hl.1 (Nat.le_of_ble_eq_true rfl) dL_isTold_105 ⟨(Nat.le_of_ble_eq_true rfl), (Nat.le_of_ble_eq_true rfl)⟩ (fun v w1 H locs hpE hI => ?_)
        obtain ⟨hv, Z99, S99, M99, hR9, hA9, hw9⟩ : FIN G.2.2.2 G.2.1 Z t S4 (L 6 1) v w1 := by subst eS4 ex1; subst enp env; exact ft0a hR ht5 ⟨by have := (i_le (n := -21) (by decide)).mp hb12.1; omega, by have := (i_ge (n := 61) (by decide)).mp hb12.2; omega⟩ hpE
        subst hv
        subst hw9
        refine lv_iload hx hb dL_isTold_108 (lv_at hl 1 rfl) ?_
        refine lv_if_eq (tgt := 118) hx hb dL_isTold_110 (by decide) (fun h => absurd h (by decide)) (fun _ => ?_)
        refine lv_iload hx hb dL_isTold_113 (lv_at hl 0 rfl) ?_
        refine lv_goto (tgt := 120) hx hb dL_isTold_115 (by decide) ?_
        have hm : (L 6 1 : Int32) = L 6 1 := rfl
        refine lv_icmp_ne (tgt := 127) hx hb dL_isTold_120 (by decide) (fun h9 => absurd hm h9) (fun _ => ?_)
        refine lv_iconst (v := 1) hx hb dL_isTold_123 (by decide) ?_
        refine lv_goto (tgt := 128) hx hb dL_isTold_124 (by decide) ?_
        exact rt_z hx hb hr hlocks (by decide) hI hA hQ ⟨rfl, Z99, S99, M99, S4, hR9, hA9, rfl⟩ (Nat.le_of_ble_eq_true rfl) (Nat.le_of_ble_eq_true rfl) dL_isTold_128
      · rw [bI_f hb12]
        refine lv_istore (lv' := [(12, .int 0), (11, .int x1), (0, .ref (Z.A 0 0)), (1, .ref (la 0)), (2, .ref (la 1)), (3, .ref (la 2)), (4, .ref (la 3)), (5, .ref (la 4)), (6, .ref (la 5)), (7, .ref (la 6)), (8, .int 0), (9, .int one), (10, .int two)]) hx hb dL_isTold_75 hl (by decide) rfl (fun ls hl => ?_)
        refine lv_aload hx hb dL_isTold_77 (lv_at hl 9 rfl) ?_
        refine lv_iconst (v := 1) hx hb dL_isTold_79 (by decide) ?_
        refine gA (k := 6) (n := 5) (q := 1) hx hb hK hI (by decide) rfl (by unfold vp_in; decide) (by decide) dL_isTold_80 ?_
        refine lv_istore (lv' := [(13, .int (L 6 1)), (12, .int 0), (11, .int x1), (0, .ref (Z.A 0 0)), (1, .ref (la 0)), (2, .ref (la 1)), (3, .ref (la 2)), (4, .ref (la 3)), (5, .ref (la 4)), (6, .ref (la 5)), (7, .ref (la 6)), (8, .int 0), (9, .int one), (10, .int two)]) hx hb dL_isTold_81 hl (by decide) rfl (fun ls hl => ?_)
        refine lv_aload hx hb dL_isTold_83 (lv_at hl 10 rfl) ?_
        refine lv_iconst (v := 1) hx hb dL_isTold_85 (by decide) ?_
        refine lv_iload hx hb dL_isTold_86 (lv_at hl 1 rfl) ?_
        refine lv_if_eq (tgt := 96) hx hb dL_isTold_88 (by decide) (fun _ => ?_) (fun h => absurd h (by decide))
        refine lv_iload hx hb dL_isTold_96 (lv_at hl 0 rfl) ?_
        obtain ⟨S5, eS5⟩ : ∃ z : LwS, z = lset L 6 1 (L 6 1) := ⟨_, rfl⟩
        refine sA (k := 6) (n := 5) (q := 1) hx hb hK hI (by decide) rfl (by unfold vp_in; decide) (by decide) eS5 dL_isTold_98 (fun H locs hI => ?_)
        refine lv_aload_n hx hb dL_isTold_99 rfl (lv_at hl 3 rfl) ?_
        refine lv_iconst (v := 1) hx hb dL_isTold_100 (by decide) ?_
        refine lv_iload hx hb dL_isTold_101 (lv_at hl 2 rfl) ?_
        refine lv_iconst (v := 0) hx hb dL_isTold_103 (by decide) ?_
        refine lv_iconst (v := 0) hx hb dL_isTold_104 (by decide) ?_
        refine jx_callH (rest := []) (as := [.ref (Z.A 0 0), .int 1, .int x1, .int 0, .int 0]) hx hb hml hts hown hK hE Dj_xl hI (qD_weather G hst Z S0 x1 0 0) kw_does ⟨(Nat.le_of_ble_eq_true rfl), (Nat.le_of_ble_eq_true rfl)⟩ hl.1 (Nat.le_of_ble_eq_true rfl) dL_isTold_105 ⟨(Nat.le_of_ble_eq_true rfl), (Nat.le_of_ble_eq_true rfl)⟩ (fun v w1 H locs hpE hI => ?_)
        obtain ⟨hv, Z99, S99, M99, hR9, hA9, hw9⟩ : FIN G.2.2.2 G.2.1 Z t S5 (-20000000) v w1 := by subst eS5 ex1; subst enp env; exact ft0b hR ht5 (fun z => hb12 ⟨(i_le (n := -21) (by decide)).mpr (by omega), (i_ge (n := 61) (by decide)).mpr (by omega)⟩) hpE
        subst hv
        subst hw9
        refine lv_iload hx hb dL_isTold_108 (lv_at hl 1 rfl) ?_
        refine lv_if_eq (tgt := 118) hx hb dL_isTold_110 (by decide) (fun _ => ?_) (fun h => absurd h (by decide))
        refine lv_ldc (v := -20000000) hx hb hown (hts _ q653) dL_isTold_118 ?_
        have hm : (-20000000 : Int32) = -20000000 := rfl
        refine lv_icmp_ne (tgt := 127) hx hb dL_isTold_120 (by decide) (fun h9 => absurd hm h9) (fun _ => ?_)
        refine lv_iconst (v := 1) hx hb dL_isTold_123 (by decide) ?_
        refine lv_goto (tgt := 128) hx hb dL_isTold_124 (by decide) ?_
        exact rt_z hx hb hr hlocks (by decide) hI hA hQ ⟨rfl, Z99, S99, M99, S5, hR9, hA9, rfl⟩ (Nat.le_of_ble_eq_true rfl) (Nat.le_of_ble_eq_true rfl) dL_isTold_128
    refine lv_icmp_le (tgt := 74) hx hb dL_isTold_60 (by decide) (fun c6 => ?_) (fun c6 => ?_)
    · refine lv_iconst (v := 0) hx hb dL_isTold_74 (by decide) ?_
      have eb7 : (0 : Int32) = bI ((¬ (x1 ≤ (-21))) ∧ (¬ (61 ≤ x1))) := (bI_f (fun k => k.1 c6)).symm
      rw [eb7]
      exact hJ3
    · refine lv_iload hx hb dL_isTold_63 (lv_at hl 0 rfl) ?_
      refine lv_bipush (v := 61) hx hb dL_isTold_65 (by decide) ?_
      refine lv_icmp_ge (tgt := 74) hx hb dL_isTold_67 (by decide) (fun c8 => ?_) (fun c8 => ?_)
      · refine lv_iconst (v := 0) hx hb dL_isTold_74 (by decide) ?_
        have eb9 : (0 : Int32) = bI ((¬ (x1 ≤ (-21))) ∧ (¬ (61 ≤ x1))) := (bI_f (fun k => (fun k => k c8) k.2)).symm
        rw [eb9]
        exact hJ3
      · refine lv_iconst (v := 1) hx hb dL_isTold_70 (by decide) ?_
        refine lv_goto (tgt := 75) hx hb dL_isTold_71 (by decide) ?_
        have eb10 : (1 : Int32) = bI ((¬ (x1 ≤ (-21))) ∧ (¬ (61 ≤ x1))) := (bI_t ⟨c6, c8⟩).symm
        rw [eb10]
        exact hJ3
  refine lv_if_ne (tgt := 27) hx hb dL_isTold_10 (by decide) (fun c11 => ?_) (fun c11 => ?_)
  · refine lv_iload hx hb dL_isTold_27 (lv_at hl 9 rfl) ?_
    refine lv_iconst (v := 3) hx hb dL_isTold_29 (by decide) ?_
    refine lv_irem hx hb dL_isTold_30 (by decide) ?_
    refine lv_if_ne (tgt := 46) hx hb dL_isTold_31 (by decide) (fun c12 => ?_) (fun c12 => ?_)
    · refine lv_iload hx hb dL_isTold_46 (lv_at hl 9 rfl) ?_
      refine lv_bipush (v := 9) hx hb dL_isTold_48 (by decide) ?_
      refine lv_idiv hx hb dL_isTold_50 (by decide) ?_
      refine lv_bipush (v := 60) hx hb dL_isTold_51 (by decide) ?_
      refine lv_irem hx hb dL_isTold_53 (by decide) ?_
      exact hJ2 ((one / 9) - (one / 9) / 60 * 60) (by exact ((if_neg c11).trans (if_neg c12)).symm)
    · refine lv_iload hx hb dL_isTold_34 (lv_at hl 9 rfl) ?_
      refine lv_bipush (v := 9) hx hb dL_isTold_36 (by decide) ?_
      refine lv_idiv hx hb dL_isTold_38 (by decide) ?_
      refine lv_bipush (v := 15) hx hb dL_isTold_39 (by decide) ?_
      refine lv_irem hx hb dL_isTold_41 (by decide) ?_
      refine lv_ineg hx hb dL_isTold_42 ?_
      refine lv_goto (tgt := 54) hx hb dL_isTold_43 (by decide) ?_
      exact hJ2 (-((one / 9) - (one / 9) / 15 * 15)) (by exact ((if_neg c11).trans (if_pos c12)).symm)
  · refine lv_iload hx hb dL_isTold_13 (lv_at hl 9 rfl) ?_
    refine lv_bipush (v := 9) hx hb dL_isTold_15 (by decide) ?_
    refine lv_idiv hx hb dL_isTold_17 (by decide) ?_
    refine lv_bipush (v := 83) hx hb dL_isTold_18 (by decide) ?_
    refine lv_irem hx hb dL_isTold_20 (by decide) ?_
    refine lv_bipush (v := 21) hx hb dL_isTold_21 (by decide) ?_
    refine lv_isub hx hb dL_isTold_23 ?_
    refine lv_goto (tgt := 54) hx hb dL_isTold_24 (by decide) ?_
    exact hJ2 (((one / 9) - (one / 9) / 83 * 83) - 21) (by exact (if_pos c11).symm)
set_option maxHeartbeats 4000000 in
set_option maxRecDepth 100000 in
theorem qT_1 (G : GX) (hst : G.1.stackTraces = false) {Z : XZ} {S0 : XS} {M : MS} {L : LwS} {t : Nat} {la : Nat → Nat} (hR : RR Z S0 M L t) (ht : t ≤ 100) (one two : Int32) (h1 : nB one 60000) (h2 : nB two 60000) : FC G yL_isTold cL_isTold 14 (some .boolean) { frames := 9, cells := 5, slots := 802, locals := 199 } [.ref (Z.A 0 0), .ref (la 0), .ref (la 1), .ref (la 2), .ref (la 3), .ref (la 4), .ref (la 5), .ref (la 6), .int 1, .int one, .int two] (jn (xW G.2.2.2 G.2.1 Z S0) (lW G.2.2.2 la L)) (poR G.2.2.2 G.2.1 (Z.A 0 0) la t) := by
  refine FC.go (lv := [(0, .ref (Z.A 0 0)), (1, .ref (la 0)), (2, .ref (la 1)), (3, .ref (la 2)), (4, .ref (la 3)), (5, .ref (la 4)), (6, .ref (la 5)), (7, .ref (la 6)), (8, .int 1), (9, .int one), (10, .int two)]) (by decide) (Nat.le_of_ble_eq_true rfl) rfl (fun p e s m args below meth c A H locs ls Q hx hb hr hts hown hml hlocks hnm hK hE hI hA hl hQ => ?_)
  have hown : s.vm.findClass "IcehighwayLaw" = some m.cls := hown
  obtain ⟨np, enp⟩ : ∃ x : Nat, x = Z.N 0 := ⟨_, rfl⟩
  obtain ⟨nv, env⟩ : ∃ x : Nat, x = Z.N 1 := ⟨_, rfl⟩
  have h63 : L 6 3 = nI np := by rw [enp]; exact hR.l.g.2.2.2.1
  have h64 : L 6 4 = nI nv := by rw [env]; exact hR.l.g.2.2.2.2
  have hnp : np ≤ 8 := by rw [enp]; exact hR.np
  have hnv : nv ≤ 8 := by rw [env]; exact hR.nv
  have ht5 : t < 512 := by omega
  refine lv_iload hx hb dL_isTold_0 (lv_at hl 8 rfl) ?_
  refine lv_if_ne (tgt := 129) hx hb dL_isTold_2 (by decide) (fun _ => ?_) (fun h => absurd h (by decide))
  refine lv_iload hx hb dL_isTold_129 (lv_at hl 8 rfl) ?_
  refine lv_iconst (v := 1) hx hb dL_isTold_131 (by decide) ?_
  refine lv_icmp_ne (tgt := 265) hx hb dL_isTold_132 (by decide) (fun h => absurd (by decide) h) (fun _ => ?_)
  refine lv_iload hx hb dL_isTold_135 (lv_at hl 9 rfl) ?_
  refine lv_iconst (v := 4) hx hb dL_isTold_137 (by decide) ?_
  refine lv_irem hx hb dL_isTold_138 (by decide) ?_
  obtain ⟨gg, hgg0, hlg⟩ := rem_nB (B := 4) (b := 4) h1 (by decide) rfl (by decide) (by decide)
  rw [hgg0]
  rcases Nat.lt_or_ge gg 3 with hgg | hgg
  · skip
    refine lv_istore (lv' := [(11, .int (nI gg)), (0, .ref (Z.A 0 0)), (1, .ref (la 0)), (2, .ref (la 1)), (3, .ref (la 2)), (4, .ref (la 3)), (5, .ref (la 4)), (6, .ref (la 5)), (7, .ref (la 6)), (8, .int 1), (9, .int one), (10, .int two)]) hx hb dL_isTold_139 hl (by decide) rfl (fun ls hl => ?_)
    refine lv_iload hx hb dL_isTold_141 (lv_at hl 11 rfl) ?_
    refine lv_bipush (v := 9) hx hb dL_isTold_143 (by decide) ?_
    refine lv_irem hx hb dL_isTold_145 (by decide) ?_
    have hJ2 : ∀ (x1 : Int32), (x1 = if (two - two / 9 * 9) = 0 then (((two / 9) - (two / 9) / 2 * 2) * 1000001) else (1 + two)) → W p G.1 e ({ frames := 9, cells := 5, slots := 802, locals := 199 }) s m args below meth c H locs 0 0 Q (F0 m 166 ls [.int x1]) := by
      intro x1 ex1
      refine lv_istore (lv' := [(12, .int x1), (11, .int (nI gg)), (0, .ref (Z.A 0 0)), (1, .ref (la 0)), (2, .ref (la 1)), (3, .ref (la 2)), (4, .ref (la 3)), (5, .ref (la 4)), (6, .ref (la 5)), (7, .ref (la 6)), (8, .int 1), (9, .int one), (10, .int two)]) hx hb dL_isTold_166 hl (by decide) rfl (fun ls hl => ?_)
      refine lv_iload hx hb dL_isTold_168 (lv_at hl 0 rfl) ?_
      have hJ3 : W p G.1 e ({ frames := 9, cells := 5, slots := 802, locals := 199 }) s m args below meth c H locs 0 0 Q (F0 m 185 ls [.int (bI ((¬ (x1 ≤ 0)) ∧ (¬ (1000001 ≤ x1))))]) := by
        by_cases hb13 : (¬ (x1 ≤ 0)) ∧ (¬ (1000001 ≤ x1))
        · rw [bI_t hb13]
          refine lv_istore (lv' := [(13, .int 1), (12, .int x1), (11, .int (nI gg)), (0, .ref (Z.A 0 0)), (1, .ref (la 0)), (2, .ref (la 1)), (3, .ref (la 2)), (4, .ref (la 3)), (5, .ref (la 4)), (6, .ref (la 5)), (7, .ref (la 6)), (8, .int 1), (9, .int one), (10, .int two)]) hx hb dL_isTold_185 hl (by decide) rfl (fun ls hl => ?_)
          have hki : Int32.toInt x1 ≤ 60000 := ki_le h2 rfl ex1 hb13.2
          refine lv_aload hx hb dL_isTold_187 (lv_at hl 9 rfl) ?_
          refine lv_iload hx hb dL_isTold_189 (lv_at hl 2 rfl) ?_
          refine lv_iconst (v := 3) hx hb dL_isTold_191 (by decide) ?_
          refine lv_icmp_ge (tgt := 208) hx hb dL_isTold_192 (by decide) (fun h9 => absurd h9 (show ¬ (3 : Int32) ≤ nI gg from fun z => absurd ((nI_leI (a := 3) (by decide) (by omega)).mp z) (by omega))) (fun _ => ?_)
          refine lv_iload hx hb dL_isTold_195 (lv_at hl 0 rfl) ?_
          refine lv_if_eq (tgt := 208) hx hb dL_isTold_197 (by decide) (fun h => absurd h (by decide)) (fun _ => ?_)
          refine lv_bipush (v := 6) hx hb dL_isTold_200 (by decide) ?_
          refine lv_iload hx hb dL_isTold_202 (lv_at hl 2 rfl) ?_
          refine lv_iadd hx hb dL_isTold_204 ?_
          refine lv_goto (tgt := 210) hx hb dL_isTold_205 (by decide) ?_
          refine lv_dup2_11 hx hb dL_isTold_210 rfl rfl ?_
          refine gA (k := 5) (n := 10) (q := 6 + gg) hx hb hK hI (by decide) rfl (vo_n 6 rfl hgg (by decide) (by decide)) (vo_nc 6 rfl hgg (by decide)) dL_isTold_211 ?_
          refine lv_iload hx hb dL_isTold_212 (lv_at hl 1 rfl) ?_
          refine lv_iadd hx hb dL_isTold_214 ?_
          obtain ⟨S4, eS4⟩ : ∃ z : LwS, z = lset L 5 (6 + gg) ((L 5 (6 + gg)) + x1) := ⟨_, rfl⟩
          refine sA (k := 5) (n := 10) (q := 6 + gg) hx hb hK hI (by decide) rfl (vo_n 6 rfl hgg (by decide) (by decide)) (vo_nc 6 rfl hgg (by decide)) eS4 dL_isTold_215 (fun H locs hI => ?_)
          refine lv_aload_n hx hb dL_isTold_216 rfl (lv_at hl 3 rfl) ?_
          refine lv_bipush (v := 13) hx hb dL_isTold_217 (by decide) ?_
          refine lv_iload hx hb dL_isTold_219 (lv_at hl 2 rfl) ?_
          refine lv_iload hx hb dL_isTold_221 (lv_at hl 1 rfl) ?_
          refine lv_iconst (v := 0) hx hb dL_isTold_223 (by decide) ?_
          refine jx_callH (rest := []) (as := [.ref (Z.A 0 0), .int 13, .int (nI gg), .int x1, .int 0]) hx hb hml hts hown hK hE Dj_xl hI (qD_order G hst Z S0 (nI gg) x1 0) kw_does ⟨(Nat.le_of_ble_eq_true rfl), (Nat.le_of_ble_eq_true rfl)⟩ hl.1 (Nat.le_of_ble_eq_true rfl) dL_isTold_224 ⟨(Nat.le_of_ble_eq_true rfl), (Nat.le_of_ble_eq_true rfl)⟩ (fun v w1 H locs hpE hI => ?_)
          obtain ⟨hv, Z99, S99, M99, hR9, hA9, hw9⟩ : FIN G.2.2.2 G.2.1 Z t S4 (S4 5 (6 + gg)) v w1 := by subst eS4 ex1; subst enp env; exact ft1b hR ht hgg ⟨by have := (i_le (n := 0) (by decide)).mp hb13.1; omega, hki⟩ hpE
          subst hv
          subst hw9
          refine lv_iload hx hb dL_isTold_227 (lv_at hl 2 rfl) ?_
          refine lv_iconst (v := 3) hx hb dL_isTold_229 (by decide) ?_
          refine lv_icmp_ne (tgt := 238) hx hb dL_isTold_230 (by decide) (fun _ => ?_) (fun h9 => absurd h9 (show ¬ nI gg = 3 from fun z => absurd ((nI_eq (b := 3) (by omega) (by decide)).mp z) (by omega)))
          refine lv_iload hx hb dL_isTold_238 (lv_at hl 0 rfl) ?_
          refine lv_if_eq (tgt := 254) hx hb dL_isTold_240 (by decide) (fun h => absurd h (by decide)) (fun _ => ?_)
          refine lv_aload hx hb dL_isTold_243 (lv_at hl 9 rfl) ?_
          refine lv_bipush (v := 6) hx hb dL_isTold_245 (by decide) ?_
          refine lv_iload hx hb dL_isTold_247 (lv_at hl 2 rfl) ?_
          refine lv_iadd hx hb dL_isTold_249 ?_
          refine gA (k := 5) (n := 10) (q := 6 + gg) hx hb hK hI (by decide) rfl (vo_n 6 rfl hgg (by decide) (by decide)) (vo_nc 6 rfl hgg (by decide)) dL_isTold_250 ?_
          refine lv_goto (tgt := 256) hx hb dL_isTold_251 (by decide) ?_
          have hm : (S4 5 (6 + gg) : Int32) = S4 5 (6 + gg) := rfl
          refine lv_icmp_ne (tgt := 263) hx hb dL_isTold_256 (by decide) (fun h9 => absurd hm h9) (fun _ => ?_)
          refine lv_iconst (v := 1) hx hb dL_isTold_259 (by decide) ?_
          refine lv_goto (tgt := 264) hx hb dL_isTold_260 (by decide) ?_
          exact rt_z hx hb hr hlocks (by decide) hI hA hQ ⟨rfl, Z99, S99, M99, S4, hR9, hA9, rfl⟩ (Nat.le_of_ble_eq_true rfl) (Nat.le_of_ble_eq_true rfl) dL_isTold_264
        · rw [bI_f hb13]
          refine lv_istore (lv' := [(13, .int 0), (12, .int x1), (11, .int (nI gg)), (0, .ref (Z.A 0 0)), (1, .ref (la 0)), (2, .ref (la 1)), (3, .ref (la 2)), (4, .ref (la 3)), (5, .ref (la 4)), (6, .ref (la 5)), (7, .ref (la 6)), (8, .int 1), (9, .int one), (10, .int two)]) hx hb dL_isTold_185 hl (by decide) rfl (fun ls hl => ?_)
          refine lv_aload hx hb dL_isTold_187 (lv_at hl 9 rfl) ?_
          refine lv_iload hx hb dL_isTold_189 (lv_at hl 2 rfl) ?_
          refine lv_iconst (v := 3) hx hb dL_isTold_191 (by decide) ?_
          refine lv_icmp_ge (tgt := 208) hx hb dL_isTold_192 (by decide) (fun h9 => absurd h9 (show ¬ (3 : Int32) ≤ nI gg from fun z => absurd ((nI_leI (a := 3) (by decide) (by omega)).mp z) (by omega))) (fun _ => ?_)
          refine lv_iload hx hb dL_isTold_195 (lv_at hl 0 rfl) ?_
          refine lv_if_eq (tgt := 208) hx hb dL_isTold_197 (by decide) (fun _ => ?_) (fun h => absurd h (by decide))
          refine lv_bipush (v := 9) hx hb dL_isTold_208 (by decide) ?_
          refine lv_dup2_11 hx hb dL_isTold_210 rfl rfl ?_
          refine gA (k := 5) (n := 10) (q := 9) hx hb hK hI (by decide) rfl (by unfold vp_in; decide) (by decide) dL_isTold_211 ?_
          refine lv_iload hx hb dL_isTold_212 (lv_at hl 1 rfl) ?_
          refine lv_iadd hx hb dL_isTold_214 ?_
          obtain ⟨S5, eS5⟩ : ∃ z : LwS, z = lset L 5 9 ((L 5 9) + x1) := ⟨_, rfl⟩
          refine sA (k := 5) (n := 10) (q := 9) hx hb hK hI (by decide) rfl (by unfold vp_in; decide) (by decide) eS5 dL_isTold_215 (fun H locs hI => ?_)
          refine lv_aload_n hx hb dL_isTold_216 rfl (lv_at hl 3 rfl) ?_
          refine lv_bipush (v := 13) hx hb dL_isTold_217 (by decide) ?_
          refine lv_iload hx hb dL_isTold_219 (lv_at hl 2 rfl) ?_
          refine lv_iload hx hb dL_isTold_221 (lv_at hl 1 rfl) ?_
          refine lv_iconst (v := 0) hx hb dL_isTold_223 (by decide) ?_
          refine jx_callH (rest := []) (as := [.ref (Z.A 0 0), .int 13, .int (nI gg), .int x1, .int 0]) hx hb hml hts hown hK hE Dj_xl hI (qD_order G hst Z S0 (nI gg) x1 0) kw_does ⟨(Nat.le_of_ble_eq_true rfl), (Nat.le_of_ble_eq_true rfl)⟩ hl.1 (Nat.le_of_ble_eq_true rfl) dL_isTold_224 ⟨(Nat.le_of_ble_eq_true rfl), (Nat.le_of_ble_eq_true rfl)⟩ (fun v w1 H locs hpE hI => ?_)
          obtain ⟨hv, Z99, S99, M99, hR9, hA9, hw9⟩ : FIN G.2.2.2 G.2.1 Z t S5 (-20000000) v w1 := by subst eS5 ex1; subst enp env; exact ft1c hR ht5 hgg (fun z => hb13 ⟨(i_le (n := 0) (by decide)).mpr (by omega), (i_ge (n := 1000001) (by decide)).mpr (by omega)⟩) hpE
          subst hv
          subst hw9
          refine lv_iload hx hb dL_isTold_227 (lv_at hl 2 rfl) ?_
          refine lv_iconst (v := 3) hx hb dL_isTold_229 (by decide) ?_
          refine lv_icmp_ne (tgt := 238) hx hb dL_isTold_230 (by decide) (fun _ => ?_) (fun h9 => absurd h9 (show ¬ nI gg = 3 from fun z => absurd ((nI_eq (b := 3) (by omega) (by decide)).mp z) (by omega)))
          refine lv_iload hx hb dL_isTold_238 (lv_at hl 0 rfl) ?_
          refine lv_if_eq (tgt := 254) hx hb dL_isTold_240 (by decide) (fun _ => ?_) (fun h => absurd h (by decide))
          refine lv_ldc (v := -20000000) hx hb hown (hts _ q653) dL_isTold_254 ?_
          have hm : (-20000000 : Int32) = -20000000 := rfl
          refine lv_icmp_ne (tgt := 263) hx hb dL_isTold_256 (by decide) (fun h9 => absurd hm h9) (fun _ => ?_)
          refine lv_iconst (v := 1) hx hb dL_isTold_259 (by decide) ?_
          refine lv_goto (tgt := 264) hx hb dL_isTold_260 (by decide) ?_
          exact rt_z hx hb hr hlocks (by decide) hI hA hQ ⟨rfl, Z99, S99, M99, S5, hR9, hA9, rfl⟩ (Nat.le_of_ble_eq_true rfl) (Nat.le_of_ble_eq_true rfl) dL_isTold_264
      refine lv_if_le (tgt := 184) hx hb dL_isTold_170 (by decide) (fun c6 => ?_) (fun c6 => ?_)
      · refine lv_iconst (v := 0) hx hb dL_isTold_184 (by decide) ?_
        have eb7 : (0 : Int32) = bI ((¬ (x1 ≤ 0)) ∧ (¬ (1000001 ≤ x1))) := (bI_f (fun k => k.1 c6)).symm
        rw [eb7]
        exact hJ3
      · refine lv_iload hx hb dL_isTold_173 (lv_at hl 0 rfl) ?_
        refine lv_ldc (v := 1000001) hx hb hown (hts _ q729) dL_isTold_175 ?_
        refine lv_icmp_ge (tgt := 184) hx hb dL_isTold_177 (by decide) (fun c8 => ?_) (fun c8 => ?_)
        · refine lv_iconst (v := 0) hx hb dL_isTold_184 (by decide) ?_
          have eb9 : (0 : Int32) = bI ((¬ (x1 ≤ 0)) ∧ (¬ (1000001 ≤ x1))) := (bI_f (fun k => (fun k => k c8) k.2)).symm
          rw [eb9]
          exact hJ3
        · refine lv_iconst (v := 1) hx hb dL_isTold_180 (by decide) ?_
          refine lv_goto (tgt := 185) hx hb dL_isTold_181 (by decide) ?_
          have eb10 : (1 : Int32) = bI ((¬ (x1 ≤ 0)) ∧ (¬ (1000001 ≤ x1))) := (bI_t ⟨c6, c8⟩).symm
          rw [eb10]
          exact hJ3
    refine lv_if_ne (tgt := 162) hx hb dL_isTold_146 (by decide) (fun c11 => ?_) (fun c11 => ?_)
    · refine lv_iconst (v := 1) hx hb dL_isTold_162 (by decide) ?_
      refine lv_iload hx hb dL_isTold_163 (lv_at hl 11 rfl) ?_
      refine lv_iadd hx hb dL_isTold_165 ?_
      exact hJ2 (1 + two) (by exact (if_neg c11).symm)
    · refine lv_iload hx hb dL_isTold_149 (lv_at hl 11 rfl) ?_
      refine lv_bipush (v := 9) hx hb dL_isTold_151 (by decide) ?_
      refine lv_idiv hx hb dL_isTold_153 (by decide) ?_
      refine lv_iconst (v := 2) hx hb dL_isTold_154 (by decide) ?_
      refine lv_irem hx hb dL_isTold_155 (by decide) ?_
      refine lv_ldc (v := 1000001) hx hb hown (hts _ q729) dL_isTold_156 ?_
      refine lv_imul hx hb dL_isTold_158 ?_
      refine lv_goto (tgt := 166) hx hb dL_isTold_159 (by decide) ?_
      exact hJ2 (((two / 9) - (two / 9) / 2 * 2) * 1000001) (by exact (if_pos c11).symm)
  · have eg3 : gg = 3 := by omega
    rw [eg3]
    refine lv_istore (lv' := [(11, .int (nI 3)), (0, .ref (Z.A 0 0)), (1, .ref (la 0)), (2, .ref (la 1)), (3, .ref (la 2)), (4, .ref (la 3)), (5, .ref (la 4)), (6, .ref (la 5)), (7, .ref (la 6)), (8, .int 1), (9, .int one), (10, .int two)]) hx hb dL_isTold_139 hl (by decide) rfl (fun ls hl => ?_)
    refine lv_iload hx hb dL_isTold_141 (lv_at hl 11 rfl) ?_
    refine lv_bipush (v := 9) hx hb dL_isTold_143 (by decide) ?_
    refine lv_irem hx hb dL_isTold_145 (by decide) ?_
    have hJ13 : ∀ (x12 : Int32), (x12 = if (two - two / 9 * 9) = 0 then (((two / 9) - (two / 9) / 2 * 2) * 1000001) else (1 + two)) → W p G.1 e ({ frames := 9, cells := 5, slots := 802, locals := 199 }) s m args below meth c H locs 0 0 Q (F0 m 166 ls [.int x12]) := by
      intro x12 ex12
      refine lv_istore (lv' := [(12, .int x12), (11, .int (nI 3)), (0, .ref (Z.A 0 0)), (1, .ref (la 0)), (2, .ref (la 1)), (3, .ref (la 2)), (4, .ref (la 3)), (5, .ref (la 4)), (6, .ref (la 5)), (7, .ref (la 6)), (8, .int 1), (9, .int one), (10, .int two)]) hx hb dL_isTold_166 hl (by decide) rfl (fun ls hl => ?_)
      refine lv_iload hx hb dL_isTold_168 (lv_at hl 0 rfl) ?_
      have hJ14 : W p G.1 e ({ frames := 9, cells := 5, slots := 802, locals := 199 }) s m args below meth c H locs 0 0 Q (F0 m 185 ls [.int (bI ((¬ (x12 ≤ 0)) ∧ (¬ (1000001 ≤ x12))))]) := by
        by_cases hb13 : (¬ (x12 ≤ 0)) ∧ (¬ (1000001 ≤ x12))
        · rw [bI_t hb13]
          refine lv_istore (lv' := [(13, .int 1), (12, .int x12), (11, .int (nI 3)), (0, .ref (Z.A 0 0)), (1, .ref (la 0)), (2, .ref (la 1)), (3, .ref (la 2)), (4, .ref (la 3)), (5, .ref (la 4)), (6, .ref (la 5)), (7, .ref (la 6)), (8, .int 1), (9, .int one), (10, .int two)]) hx hb dL_isTold_185 hl (by decide) rfl (fun ls hl => ?_)
          refine lv_aload hx hb dL_isTold_187 (lv_at hl 9 rfl) ?_
          refine lv_iload hx hb dL_isTold_189 (lv_at hl 2 rfl) ?_
          refine lv_iconst (v := 3) hx hb dL_isTold_191 (by decide) ?_
          refine lv_icmp_ge (tgt := 208) hx hb dL_isTold_192 (by decide) (fun _ => ?_) (fun h9 => absurd (show (3 : Int32) ≤ nI 3 by decide) h9)
          refine lv_bipush (v := 9) hx hb dL_isTold_208 (by decide) ?_
          refine lv_dup2_11 hx hb dL_isTold_210 rfl rfl ?_
          refine gA (k := 5) (n := 10) (q := 9) hx hb hK hI (by decide) rfl (by unfold vp_in; decide) (by decide) dL_isTold_211 ?_
          refine lv_iload hx hb dL_isTold_212 (lv_at hl 1 rfl) ?_
          refine lv_iadd hx hb dL_isTold_214 ?_
          obtain ⟨S15, eS15⟩ : ∃ z : LwS, z = lset L 5 9 ((L 5 9) + x12) := ⟨_, rfl⟩
          refine sA (k := 5) (n := 10) (q := 9) hx hb hK hI (by decide) rfl (by unfold vp_in; decide) (by decide) eS15 dL_isTold_215 (fun H locs hI => ?_)
          refine lv_aload_n hx hb dL_isTold_216 rfl (lv_at hl 3 rfl) ?_
          refine lv_bipush (v := 13) hx hb dL_isTold_217 (by decide) ?_
          refine lv_iload hx hb dL_isTold_219 (lv_at hl 2 rfl) ?_
          refine lv_iload hx hb dL_isTold_221 (lv_at hl 1 rfl) ?_
          refine lv_iconst (v := 0) hx hb dL_isTold_223 (by decide) ?_
          refine jx_callH (rest := []) (as := [.ref (Z.A 0 0), .int 13, .int (nI 3), .int x12, .int 0]) hx hb hml hts hown hK hE Dj_xl hI (qD_order G hst Z S0 (nI 3) x12 0) kw_does ⟨(Nat.le_of_ble_eq_true rfl), (Nat.le_of_ble_eq_true rfl)⟩ hl.1 (Nat.le_of_ble_eq_true rfl) dL_isTold_224 ⟨(Nat.le_of_ble_eq_true rfl), (Nat.le_of_ble_eq_true rfl)⟩ (fun v w1 H locs hpE hI => ?_)
          obtain ⟨hv, Z99, S99, M99, hR9, hA9, hw9⟩ : FIN G.2.2.2 G.2.1 Z t S15 (-30000000) v w1 := by subst eS15 ex12; subst enp env; exact ft1a hR ht5 hpE
          subst hv
          subst hw9
          refine lv_iload hx hb dL_isTold_227 (lv_at hl 2 rfl) ?_
          refine lv_iconst (v := 3) hx hb dL_isTold_229 (by decide) ?_
          refine lv_icmp_ne (tgt := 238) hx hb dL_isTold_230 (by decide) (fun h9 => absurd (show nI 3 = 3 from rfl) h9) (fun _ => ?_)
          refine lv_ldc (v := -30000000) hx hb hown (hts _ q652) dL_isTold_233 ?_
          refine lv_goto (tgt := 256) hx hb dL_isTold_235 (by decide) ?_
          have hm : (-30000000 : Int32) = -30000000 := rfl
          refine lv_icmp_ne (tgt := 263) hx hb dL_isTold_256 (by decide) (fun h9 => absurd hm h9) (fun _ => ?_)
          refine lv_iconst (v := 1) hx hb dL_isTold_259 (by decide) ?_
          refine lv_goto (tgt := 264) hx hb dL_isTold_260 (by decide) ?_
          exact rt_z hx hb hr hlocks (by decide) hI hA hQ ⟨rfl, Z99, S99, M99, S15, hR9, hA9, rfl⟩ (Nat.le_of_ble_eq_true rfl) (Nat.le_of_ble_eq_true rfl) dL_isTold_264
        · rw [bI_f hb13]
          refine lv_istore (lv' := [(13, .int 0), (12, .int x12), (11, .int (nI 3)), (0, .ref (Z.A 0 0)), (1, .ref (la 0)), (2, .ref (la 1)), (3, .ref (la 2)), (4, .ref (la 3)), (5, .ref (la 4)), (6, .ref (la 5)), (7, .ref (la 6)), (8, .int 1), (9, .int one), (10, .int two)]) hx hb dL_isTold_185 hl (by decide) rfl (fun ls hl => ?_)
          refine lv_aload hx hb dL_isTold_187 (lv_at hl 9 rfl) ?_
          refine lv_iload hx hb dL_isTold_189 (lv_at hl 2 rfl) ?_
          refine lv_iconst (v := 3) hx hb dL_isTold_191 (by decide) ?_
          refine lv_icmp_ge (tgt := 208) hx hb dL_isTold_192 (by decide) (fun _ => ?_) (fun h9 => absurd (show (3 : Int32) ≤ nI 3 by decide) h9)
          refine lv_bipush (v := 9) hx hb dL_isTold_208 (by decide) ?_
          refine lv_dup2_11 hx hb dL_isTold_210 rfl rfl ?_
          refine gA (k := 5) (n := 10) (q := 9) hx hb hK hI (by decide) rfl (by unfold vp_in; decide) (by decide) dL_isTold_211 ?_
          refine lv_iload hx hb dL_isTold_212 (lv_at hl 1 rfl) ?_
          refine lv_iadd hx hb dL_isTold_214 ?_
          obtain ⟨S16, eS16⟩ : ∃ z : LwS, z = lset L 5 9 ((L 5 9) + x12) := ⟨_, rfl⟩
          refine sA (k := 5) (n := 10) (q := 9) hx hb hK hI (by decide) rfl (by unfold vp_in; decide) (by decide) eS16 dL_isTold_215 (fun H locs hI => ?_)
          refine lv_aload_n hx hb dL_isTold_216 rfl (lv_at hl 3 rfl) ?_
          refine lv_bipush (v := 13) hx hb dL_isTold_217 (by decide) ?_
          refine lv_iload hx hb dL_isTold_219 (lv_at hl 2 rfl) ?_
          refine lv_iload hx hb dL_isTold_221 (lv_at hl 1 rfl) ?_
          refine lv_iconst (v := 0) hx hb dL_isTold_223 (by decide) ?_
          refine jx_callH (rest := []) (as := [.ref (Z.A 0 0), .int 13, .int (nI 3), .int x12, .int 0]) hx hb hml hts hown hK hE Dj_xl hI (qD_order G hst Z S0 (nI 3) x12 0) kw_does ⟨(Nat.le_of_ble_eq_true rfl), (Nat.le_of_ble_eq_true rfl)⟩ hl.1 (Nat.le_of_ble_eq_true rfl) dL_isTold_224 ⟨(Nat.le_of_ble_eq_true rfl), (Nat.le_of_ble_eq_true rfl)⟩ (fun v w1 H locs hpE hI => ?_)
          obtain ⟨hv, Z99, S99, M99, hR9, hA9, hw9⟩ : FIN G.2.2.2 G.2.1 Z t S16 (-30000000) v w1 := by subst eS16 ex12; subst enp env; exact ft1a hR ht5 hpE
          subst hv
          subst hw9
          refine lv_iload hx hb dL_isTold_227 (lv_at hl 2 rfl) ?_
          refine lv_iconst (v := 3) hx hb dL_isTold_229 (by decide) ?_
          refine lv_icmp_ne (tgt := 238) hx hb dL_isTold_230 (by decide) (fun h9 => absurd (show nI 3 = 3 from rfl) h9) (fun _ => ?_)
          refine lv_ldc (v := -30000000) hx hb hown (hts _ q652) dL_isTold_233 ?_
          refine lv_goto (tgt := 256) hx hb dL_isTold_235 (by decide) ?_
          have hm : (-30000000 : Int32) = -30000000 := rfl
          refine lv_icmp_ne (tgt := 263) hx hb dL_isTold_256 (by decide) (fun h9 => absurd hm h9) (fun _ => ?_)
          refine lv_iconst (v := 1) hx hb dL_isTold_259 (by decide) ?_
          refine lv_goto (tgt := 264) hx hb dL_isTold_260 (by decide) ?_
          exact rt_z hx hb hr hlocks (by decide) hI hA hQ ⟨rfl, Z99, S99, M99, S16, hR9, hA9, rfl⟩ (Nat.le_of_ble_eq_true rfl) (Nat.le_of_ble_eq_true rfl) dL_isTold_264
      refine lv_if_le (tgt := 184) hx hb dL_isTold_170 (by decide) (fun c17 => ?_) (fun c17 => ?_)
      · refine lv_iconst (v := 0) hx hb dL_isTold_184 (by decide) ?_
        have eb18 : (0 : Int32) = bI ((¬ (x12 ≤ 0)) ∧ (¬ (1000001 ≤ x12))) := (bI_f (fun k => k.1 c17)).symm
        rw [eb18]
        exact hJ14
      · refine lv_iload hx hb dL_isTold_173 (lv_at hl 0 rfl) ?_
        refine lv_ldc (v := 1000001) hx hb hown (hts _ q729) dL_isTold_175 ?_
        refine lv_icmp_ge (tgt := 184) hx hb dL_isTold_177 (by decide) (fun c19 => ?_) (fun c19 => ?_)
        · refine lv_iconst (v := 0) hx hb dL_isTold_184 (by decide) ?_
          have eb20 : (0 : Int32) = bI ((¬ (x12 ≤ 0)) ∧ (¬ (1000001 ≤ x12))) := (bI_f (fun k => (fun k => k c19) k.2)).symm
          rw [eb20]
          exact hJ14
        · refine lv_iconst (v := 1) hx hb dL_isTold_180 (by decide) ?_
          refine lv_goto (tgt := 185) hx hb dL_isTold_181 (by decide) ?_
          have eb21 : (1 : Int32) = bI ((¬ (x12 ≤ 0)) ∧ (¬ (1000001 ≤ x12))) := (bI_t ⟨c17, c19⟩).symm
          rw [eb21]
          exact hJ14
    refine lv_if_ne (tgt := 162) hx hb dL_isTold_146 (by decide) (fun c22 => ?_) (fun c22 => ?_)
    · refine lv_iconst (v := 1) hx hb dL_isTold_162 (by decide) ?_
      refine lv_iload hx hb dL_isTold_163 (lv_at hl 11 rfl) ?_
      refine lv_iadd hx hb dL_isTold_165 ?_
      exact hJ13 (1 + two) (by exact (if_neg c22).symm)
    · refine lv_iload hx hb dL_isTold_149 (lv_at hl 11 rfl) ?_
      refine lv_bipush (v := 9) hx hb dL_isTold_151 (by decide) ?_
      refine lv_idiv hx hb dL_isTold_153 (by decide) ?_
      refine lv_iconst (v := 2) hx hb dL_isTold_154 (by decide) ?_
      refine lv_irem hx hb dL_isTold_155 (by decide) ?_
      refine lv_ldc (v := 1000001) hx hb hown (hts _ q729) dL_isTold_156 ?_
      refine lv_imul hx hb dL_isTold_158 ?_
      refine lv_goto (tgt := 166) hx hb dL_isTold_159 (by decide) ?_
      exact hJ13 (((two / 9) - (two / 9) / 2 * 2) * 1000001) (by exact (if_pos c22).symm)
set_option maxHeartbeats 4000000 in
set_option maxRecDepth 100000 in
theorem qT_2 (G : GX) (hst : G.1.stackTraces = false) {Z : XZ} {S0 : XS} {M : MS} {L : LwS} {t : Nat} {la : Nat → Nat} (hR : RR Z S0 M L t) (ht : t ≤ 100) (one two : Int32) (h1 : nB one 60000) (h2 : nB two 60000) : FC G yL_isTold cL_isTold 14 (some .boolean) { frames := 9, cells := 5, slots := 802, locals := 199 } [.ref (Z.A 0 0), .ref (la 0), .ref (la 1), .ref (la 2), .ref (la 3), .ref (la 4), .ref (la 5), .ref (la 6), .int 2, .int one, .int two] (jn (xW G.2.2.2 G.2.1 Z S0) (lW G.2.2.2 la L)) (poR G.2.2.2 G.2.1 (Z.A 0 0) la t) := by
  refine FC.go (lv := [(0, .ref (Z.A 0 0)), (1, .ref (la 0)), (2, .ref (la 1)), (3, .ref (la 2)), (4, .ref (la 3)), (5, .ref (la 4)), (6, .ref (la 5)), (7, .ref (la 6)), (8, .int 2), (9, .int one), (10, .int two)]) (by decide) (Nat.le_of_ble_eq_true rfl) rfl (fun p e s m args below meth c A H locs ls Q hx hb hr hts hown hml hlocks hnm hK hE hI hA hl hQ => ?_)
  have hown : s.vm.findClass "IcehighwayLaw" = some m.cls := hown
  obtain ⟨np, enp⟩ : ∃ x : Nat, x = Z.N 0 := ⟨_, rfl⟩
  obtain ⟨nv, env⟩ : ∃ x : Nat, x = Z.N 1 := ⟨_, rfl⟩
  have h63 : L 6 3 = nI np := by rw [enp]; exact hR.l.g.2.2.2.1
  have h64 : L 6 4 = nI nv := by rw [env]; exact hR.l.g.2.2.2.2
  have hnp : np ≤ 8 := by rw [enp]; exact hR.np
  have hnv : nv ≤ 8 := by rw [env]; exact hR.nv
  have ht5 : t < 512 := by omega
  refine lv_iload hx hb dL_isTold_0 (lv_at hl 8 rfl) ?_
  refine lv_if_ne (tgt := 129) hx hb dL_isTold_2 (by decide) (fun _ => ?_) (fun h => absurd h (by decide))
  refine lv_iload hx hb dL_isTold_129 (lv_at hl 8 rfl) ?_
  refine lv_iconst (v := 1) hx hb dL_isTold_131 (by decide) ?_
  refine lv_icmp_ne (tgt := 265) hx hb dL_isTold_132 (by decide) (fun _ => ?_) (fun h => absurd h (by decide))
  refine lv_iload hx hb dL_isTold_265 (lv_at hl 8 rfl) ?_
  refine lv_iconst (v := 2) hx hb dL_isTold_267 (by decide) ?_
  refine lv_icmp_ne (tgt := 361) hx hb dL_isTold_268 (by decide) (fun h => absurd (by decide) h) (fun _ => ?_)
  refine lv_iload hx hb dL_isTold_271 (lv_at hl 9 rfl) ?_
  refine lv_bipush (v := 9) hx hb dL_isTold_273 (by decide) ?_
  refine lv_irem hx hb dL_isTold_275 (by decide) ?_
  have hJ2 : ∀ (x1 : Int32), (x1 = if (one - one / 9 * 9) = 0 then (one - one / 122 * 122) else (one - one / 12 * 12)) → W p G.1 e ({ frames := 9, cells := 5, slots := 802, locals := 199 }) s m args below meth c H locs 0 0 Q (F0 m 292 ls [.int x1]) := by
    intro x1 ex1
    refine lv_istore (lv' := [(11, .int x1), (0, .ref (Z.A 0 0)), (1, .ref (la 0)), (2, .ref (la 1)), (3, .ref (la 2)), (4, .ref (la 3)), (5, .ref (la 4)), (6, .ref (la 5)), (7, .ref (la 6)), (8, .int 2), (9, .int one), (10, .int two)]) hx hb dL_isTold_292 hl (by decide) rfl (fun ls hl => ?_)
    have hga : 0 ≤ Int32.toInt x1 := nB_0 (n := 122) (nB_ite ex1 (rem_nB (b := 122) h1 (by decide) rfl (by decide) (by decide)) (nB_up (rem_nB (b := 12) h1 (by decide) rfl (by decide) (by decide)) (by decide))) (by decide)
    refine lv_iload hx hb dL_isTold_294 (lv_at hl 0 rfl) ?_
    refine lv_bipush (v := 121) hx hb dL_isTold_296 (by decide) ?_
    have hJ3 : W p G.1 e ({ frames := 9, cells := 5, slots := 802, locals := 199 }) s m args below meth c H locs 0 0 Q (F0 m 306 ls [.int (bI (¬ (121 ≤ x1)))]) := by
      by_cases hb12 : ¬ (121 ≤ x1)
      · rw [bI_t hb12]
        refine lv_istore (lv' := [(12, .int 1), (11, .int x1), (0, .ref (Z.A 0 0)), (1, .ref (la 0)), (2, .ref (la 1)), (3, .ref (la 2)), (4, .ref (la 3)), (5, .ref (la 4)), (6, .ref (la 5)), (7, .ref (la 6)), (8, .int 2), (9, .int one), (10, .int two)]) hx hb dL_isTold_306 hl (by decide) rfl (fun ls hl => ?_)
        refine lv_aload hx hb dL_isTold_308 (lv_at hl 9 rfl) ?_
        refine lv_iconst (v := 2) hx hb dL_isTold_310 (by decide) ?_
        refine gA (k := 6) (n := 5) (q := 2) hx hb hK hI (by decide) rfl (by unfold vp_in; decide) (by decide) dL_isTold_311 ?_
        refine lv_istore (lv' := [(13, .int (L 6 2)), (12, .int 1), (11, .int x1), (0, .ref (Z.A 0 0)), (1, .ref (la 0)), (2, .ref (la 1)), (3, .ref (la 2)), (4, .ref (la 3)), (5, .ref (la 4)), (6, .ref (la 5)), (7, .ref (la 6)), (8, .int 2), (9, .int one), (10, .int two)]) hx hb dL_isTold_312 hl (by decide) rfl (fun ls hl => ?_)
        refine lv_aload hx hb dL_isTold_314 (lv_at hl 10 rfl) ?_
        refine lv_iconst (v := 2) hx hb dL_isTold_316 (by decide) ?_
        refine lv_iload hx hb dL_isTold_317 (lv_at hl 1 rfl) ?_
        refine lv_if_eq (tgt := 327) hx hb dL_isTold_319 (by decide) (fun h => absurd h (by decide)) (fun _ => ?_)
        refine lv_iload hx hb dL_isTold_322 (lv_at hl 2 rfl) ?_
        refine lv_goto (tgt := 329) hx hb dL_isTold_324 (by decide) ?_
        obtain ⟨S4, eS4⟩ : ∃ z : LwS, z = lset L 6 2 x1 := ⟨_, rfl⟩
        refine sA (k := 6) (n := 5) (q := 2) hx hb hK hI (by decide) rfl (by unfold vp_in; decide) (by decide) eS4 dL_isTold_329 (fun H locs hI => ?_)
        refine lv_aload_n hx hb dL_isTold_330 rfl (lv_at hl 3 rfl) ?_
        refine lv_bipush (v := 8) hx hb dL_isTold_331 (by decide) ?_
        refine lv_iload hx hb dL_isTold_333 (lv_at hl 2 rfl) ?_
        refine lv_iconst (v := 0) hx hb dL_isTold_335 (by decide) ?_
        refine lv_iconst (v := 0) hx hb dL_isTold_336 (by decide) ?_
        refine jx_callH (rest := []) (as := [.ref (Z.A 0 0), .int 8, .int x1, .int 0, .int 0]) hx hb hml hts hown hK hE Dj_xl hI (qD_gap G hst Z S0 x1 0 0) kw_does ⟨(Nat.le_of_ble_eq_true rfl), (Nat.le_of_ble_eq_true rfl)⟩ hl.1 (Nat.le_of_ble_eq_true rfl) dL_isTold_337 ⟨(Nat.le_of_ble_eq_true rfl), (Nat.le_of_ble_eq_true rfl)⟩ (fun v w1 H locs hpE hI => ?_)
        obtain ⟨hv, Z99, S99, M99, hR9, hA9, hw9⟩ : FIN G.2.2.2 G.2.1 Z t S4 (L 6 2) v w1 := by subst eS4 ex1; subst enp env; exact ft2a hR ht5 ⟨hga, by have := (i_ge (n := 121) (by decide)).mp hb12; omega⟩ hpE
        subst hv
        subst hw9
        refine lv_iload hx hb dL_isTold_340 (lv_at hl 1 rfl) ?_
        refine lv_if_eq (tgt := 350) hx hb dL_isTold_342 (by decide) (fun h => absurd h (by decide)) (fun _ => ?_)
        refine lv_iload hx hb dL_isTold_345 (lv_at hl 0 rfl) ?_
        refine lv_goto (tgt := 352) hx hb dL_isTold_347 (by decide) ?_
        have hm : (L 6 2 : Int32) = L 6 2 := rfl
        refine lv_icmp_ne (tgt := 359) hx hb dL_isTold_352 (by decide) (fun h9 => absurd hm h9) (fun _ => ?_)
        refine lv_iconst (v := 1) hx hb dL_isTold_355 (by decide) ?_
        refine lv_goto (tgt := 360) hx hb dL_isTold_356 (by decide) ?_
        exact rt_z hx hb hr hlocks (by decide) hI hA hQ ⟨rfl, Z99, S99, M99, S4, hR9, hA9, rfl⟩ (Nat.le_of_ble_eq_true rfl) (Nat.le_of_ble_eq_true rfl) dL_isTold_360
      · rw [bI_f hb12]
        refine lv_istore (lv' := [(12, .int 0), (11, .int x1), (0, .ref (Z.A 0 0)), (1, .ref (la 0)), (2, .ref (la 1)), (3, .ref (la 2)), (4, .ref (la 3)), (5, .ref (la 4)), (6, .ref (la 5)), (7, .ref (la 6)), (8, .int 2), (9, .int one), (10, .int two)]) hx hb dL_isTold_306 hl (by decide) rfl (fun ls hl => ?_)
        refine lv_aload hx hb dL_isTold_308 (lv_at hl 9 rfl) ?_
        refine lv_iconst (v := 2) hx hb dL_isTold_310 (by decide) ?_
        refine gA (k := 6) (n := 5) (q := 2) hx hb hK hI (by decide) rfl (by unfold vp_in; decide) (by decide) dL_isTold_311 ?_
        refine lv_istore (lv' := [(13, .int (L 6 2)), (12, .int 0), (11, .int x1), (0, .ref (Z.A 0 0)), (1, .ref (la 0)), (2, .ref (la 1)), (3, .ref (la 2)), (4, .ref (la 3)), (5, .ref (la 4)), (6, .ref (la 5)), (7, .ref (la 6)), (8, .int 2), (9, .int one), (10, .int two)]) hx hb dL_isTold_312 hl (by decide) rfl (fun ls hl => ?_)
        refine lv_aload hx hb dL_isTold_314 (lv_at hl 10 rfl) ?_
        refine lv_iconst (v := 2) hx hb dL_isTold_316 (by decide) ?_
        refine lv_iload hx hb dL_isTold_317 (lv_at hl 1 rfl) ?_
        refine lv_if_eq (tgt := 327) hx hb dL_isTold_319 (by decide) (fun _ => ?_) (fun h => absurd h (by decide))
        refine lv_iload hx hb dL_isTold_327 (lv_at hl 0 rfl) ?_
        obtain ⟨S5, eS5⟩ : ∃ z : LwS, z = lset L 6 2 (L 6 2) := ⟨_, rfl⟩
        refine sA (k := 6) (n := 5) (q := 2) hx hb hK hI (by decide) rfl (by unfold vp_in; decide) (by decide) eS5 dL_isTold_329 (fun H locs hI => ?_)
        refine lv_aload_n hx hb dL_isTold_330 rfl (lv_at hl 3 rfl) ?_
        refine lv_bipush (v := 8) hx hb dL_isTold_331 (by decide) ?_
        refine lv_iload hx hb dL_isTold_333 (lv_at hl 2 rfl) ?_
        refine lv_iconst (v := 0) hx hb dL_isTold_335 (by decide) ?_
        refine lv_iconst (v := 0) hx hb dL_isTold_336 (by decide) ?_
        refine jx_callH (rest := []) (as := [.ref (Z.A 0 0), .int 8, .int x1, .int 0, .int 0]) hx hb hml hts hown hK hE Dj_xl hI (qD_gap G hst Z S0 x1 0 0) kw_does ⟨(Nat.le_of_ble_eq_true rfl), (Nat.le_of_ble_eq_true rfl)⟩ hl.1 (Nat.le_of_ble_eq_true rfl) dL_isTold_337 ⟨(Nat.le_of_ble_eq_true rfl), (Nat.le_of_ble_eq_true rfl)⟩ (fun v w1 H locs hpE hI => ?_)
        obtain ⟨hv, Z99, S99, M99, hR9, hA9, hw9⟩ : FIN G.2.2.2 G.2.1 Z t S5 (-20000000) v w1 := by subst eS5 ex1; subst enp env; exact ft2b hR ht5 (fun z => hb12 ((i_ge (n := 121) (by decide)).mpr (by omega))) hpE
        subst hv
        subst hw9
        refine lv_iload hx hb dL_isTold_340 (lv_at hl 1 rfl) ?_
        refine lv_if_eq (tgt := 350) hx hb dL_isTold_342 (by decide) (fun _ => ?_) (fun h => absurd h (by decide))
        refine lv_ldc (v := -20000000) hx hb hown (hts _ q653) dL_isTold_350 ?_
        have hm : (-20000000 : Int32) = -20000000 := rfl
        refine lv_icmp_ne (tgt := 359) hx hb dL_isTold_352 (by decide) (fun h9 => absurd hm h9) (fun _ => ?_)
        refine lv_iconst (v := 1) hx hb dL_isTold_355 (by decide) ?_
        refine lv_goto (tgt := 360) hx hb dL_isTold_356 (by decide) ?_
        exact rt_z hx hb hr hlocks (by decide) hI hA hQ ⟨rfl, Z99, S99, M99, S5, hR9, hA9, rfl⟩ (Nat.le_of_ble_eq_true rfl) (Nat.le_of_ble_eq_true rfl) dL_isTold_360
    refine lv_icmp_ge (tgt := 305) hx hb dL_isTold_298 (by decide) (fun c6 => ?_) (fun c6 => ?_)
    · refine lv_iconst (v := 0) hx hb dL_isTold_305 (by decide) ?_
      have eb7 : (0 : Int32) = bI (¬ (121 ≤ x1)) := (bI_f (fun k => k c6)).symm
      rw [eb7]
      exact hJ3
    · refine lv_iconst (v := 1) hx hb dL_isTold_301 (by decide) ?_
      refine lv_goto (tgt := 306) hx hb dL_isTold_302 (by decide) ?_
      have eb8 : (1 : Int32) = bI (¬ (121 ≤ x1)) := (bI_t c6).symm
      rw [eb8]
      exact hJ3
  refine lv_if_ne (tgt := 287) hx hb dL_isTold_276 (by decide) (fun c9 => ?_) (fun c9 => ?_)
  · refine lv_iload hx hb dL_isTold_287 (lv_at hl 9 rfl) ?_
    refine lv_bipush (v := 12) hx hb dL_isTold_289 (by decide) ?_
    refine lv_irem hx hb dL_isTold_291 (by decide) ?_
    exact hJ2 (one - one / 12 * 12) (by exact (if_neg c9).symm)
  · refine lv_iload hx hb dL_isTold_279 (lv_at hl 9 rfl) ?_
    refine lv_bipush (v := 122) hx hb dL_isTold_281 (by decide) ?_
    refine lv_irem hx hb dL_isTold_283 (by decide) ?_
    refine lv_goto (tgt := 292) hx hb dL_isTold_284 (by decide) ?_
    exact hJ2 (one - one / 122 * 122) (by exact (if_pos c9).symm)
set_option maxHeartbeats 4000000 in
set_option maxRecDepth 100000 in
theorem qT_3 (G : GX) (hst : G.1.stackTraces = false) {Z : XZ} {S0 : XS} {M : MS} {L : LwS} {t : Nat} {la : Nat → Nat} (hR : RR Z S0 M L t) (ht : t ≤ 100) (one two : Int32) (h1 : nB one 60000) (h2 : nB two 60000) : FC G yL_isTold cL_isTold 14 (some .boolean) { frames := 9, cells := 5, slots := 802, locals := 199 } [.ref (Z.A 0 0), .ref (la 0), .ref (la 1), .ref (la 2), .ref (la 3), .ref (la 4), .ref (la 5), .ref (la 6), .int 3, .int one, .int two] (jn (xW G.2.2.2 G.2.1 Z S0) (lW G.2.2.2 la L)) (poR G.2.2.2 G.2.1 (Z.A 0 0) la t) := by
  refine FC.go (lv := [(0, .ref (Z.A 0 0)), (1, .ref (la 0)), (2, .ref (la 1)), (3, .ref (la 2)), (4, .ref (la 3)), (5, .ref (la 4)), (6, .ref (la 5)), (7, .ref (la 6)), (8, .int 3), (9, .int one), (10, .int two)]) (by decide) (Nat.le_of_ble_eq_true rfl) rfl (fun p e s m args below meth c A H locs ls Q hx hb hr hts hown hml hlocks hnm hK hE hI hA hl hQ => ?_)
  have hown : s.vm.findClass "IcehighwayLaw" = some m.cls := hown
  obtain ⟨np, enp⟩ : ∃ x : Nat, x = Z.N 0 := ⟨_, rfl⟩
  obtain ⟨nv, env⟩ : ∃ x : Nat, x = Z.N 1 := ⟨_, rfl⟩
  have h63 : L 6 3 = nI np := by rw [enp]; exact hR.l.g.2.2.2.1
  have h64 : L 6 4 = nI nv := by rw [env]; exact hR.l.g.2.2.2.2
  have hnp : np ≤ 8 := by rw [enp]; exact hR.np
  have hnv : nv ≤ 8 := by rw [env]; exact hR.nv
  have ht5 : t < 512 := by omega
  refine lv_iload hx hb dL_isTold_0 (lv_at hl 8 rfl) ?_
  refine lv_if_ne (tgt := 129) hx hb dL_isTold_2 (by decide) (fun _ => ?_) (fun h => absurd h (by decide))
  refine lv_iload hx hb dL_isTold_129 (lv_at hl 8 rfl) ?_
  refine lv_iconst (v := 1) hx hb dL_isTold_131 (by decide) ?_
  refine lv_icmp_ne (tgt := 265) hx hb dL_isTold_132 (by decide) (fun _ => ?_) (fun h => absurd h (by decide))
  refine lv_iload hx hb dL_isTold_265 (lv_at hl 8 rfl) ?_
  refine lv_iconst (v := 2) hx hb dL_isTold_267 (by decide) ?_
  refine lv_icmp_ne (tgt := 361) hx hb dL_isTold_268 (by decide) (fun _ => ?_) (fun h => absurd h (by decide))
  refine lv_iload hx hb dL_isTold_361 (lv_at hl 9 rfl) ?_
  refine lv_bipush (v := 9) hx hb dL_isTold_363 (by decide) ?_
  refine lv_irem hx hb dL_isTold_365 (by decide) ?_
  have hJ2 : ∀ (x1 : Int32), (x1 = if (one - one / 9 * 9) = 0 then ((two - two / 2 * 2) * 3001) else (if (one - one / 2 * 2) = 0 then (1440 - ((L 6 0) - (L 6 0) / 1440 * 1440)) else (1 + (two - two / 60 * 60)))) → W p G.1 e ({ frames := 9, cells := 5, slots := 802, locals := 199 }) s m args below meth c H locs 0 0 Q (F0 m 409 ls [.int x1]) := by
    intro x1 ex1
    refine lv_istore (lv' := [(11, .int x1), (0, .ref (Z.A 0 0)), (1, .ref (la 0)), (2, .ref (la 1)), (3, .ref (la 2)), (4, .ref (la 3)), (5, .ref (la 4)), (6, .ref (la 5)), (7, .ref (la 6)), (8, .int 3), (9, .int one), (10, .int two)]) hx hb dL_isTold_409 hl (by decide) rfl (fun ls hl => ?_)
    refine lv_iload hx hb dL_isTold_411 (lv_at hl 0 rfl) ?_
    have hJ3 : W p G.1 e ({ frames := 9, cells := 5, slots := 802, locals := 199 }) s m args below meth c H locs 0 0 Q (F0 m 429 ls [.int (bI ((¬ (x1 ≤ 0)) ∧ (¬ (3001 ≤ x1))))]) := by
      by_cases hb12 : (¬ (x1 ≤ 0)) ∧ (¬ (3001 ≤ x1))
      · rw [bI_t hb12]
        refine lv_istore (lv' := [(12, .int 1), (11, .int x1), (0, .ref (Z.A 0 0)), (1, .ref (la 0)), (2, .ref (la 1)), (3, .ref (la 2)), (4, .ref (la 3)), (5, .ref (la 4)), (6, .ref (la 5)), (7, .ref (la 6)), (8, .int 3), (9, .int one), (10, .int two)]) hx hb dL_isTold_429 hl (by decide) rfl (fun ls hl => ?_)
        refine lv_iconst (v := 0) hx hb dL_isTold_431 (by decide) ?_
        refine lv_istore (lv' := [(13, .int 0), (12, .int 1), (11, .int x1), (0, .ref (Z.A 0 0)), (1, .ref (la 0)), (2, .ref (la 1)), (3, .ref (la 2)), (4, .ref (la 3)), (5, .ref (la 4)), (6, .ref (la 5)), (7, .ref (la 6)), (8, .int 3), (9, .int one), (10, .int two)]) hx hb dL_isTold_432 hl (by decide) rfl (fun ls hl => ?_)
        obtain ⟨nn, enn, hn1, hn2⟩ := mi_ok h1 h2 (by rw [hR.l.g.1]; exact hR.1.1.2.2.2.2.2.2.1.1) ex1 hb12.1 hb12.2
        subst enn
        have hL6 : ∀ (k n : Nat), n + k = nn → ∀ (i_ : Int32) (S5 : LwS) (H : Heap) (locs : List Loc) (ls : Array Slot), (i_ = nI n) → (S5 = L_pass_f L n) → (fI G.2.2.1 A s.heap (jn (xW G.2.2.2 G.2.1 Z S0) (lW G.2.2.2 la S5)) H locs) → (lv_has ls 14 [(13, .int i_), (12, .int 1), (11, .int (nI nn)), (0, .ref (Z.A 0 0)), (1, .ref (la 0)), (2, .ref (la 1)), (3, .ref (la 2)), (4, .ref (la 3)), (5, .ref (la 4)), (6, .ref (la 5)), (7, .ref (la 6)), (8, .int 3), (9, .int one), (10, .int two)]) → W p G.1 e ({ frames := 9, cells := 5, slots := 802, locals := 199 }) s m args below meth c H locs 0 0 Q (F0 m 434 ls []) := by
          intro k
          induction k with
          | zero =>
            intro n hnk i_ S5 H locs ls ei eS5 hI hl
            subst ei
            have hRn : LRR (M_pass_f M n) S5 (Z.N 0) (Z.N 1) := by rw [eS5]; exact L_pass_eq hR.l hR.i n
            have hIn : MI (M_pass_f M n) (Z.N 0) (Z.N 1) t := MI_pass_f hR.i
            refine lv_iload hx hb dL_isTold_434 (lv_at hl 0 rfl) ?_
            refine lv_iload hx hb dL_isTold_436 (lv_at hl 2 rfl) ?_
            refine lv_icmp_ge (tgt := 466) hx hb dL_isTold_438 (by decide) (fun _ => ?_) (fun h => absurd (by rw [(show nI nn = nI nn from rfl)]; exact nI_le (by omega) (by omega)) h)
            have hn9 : n = nn := by omega
            rw [hn9] at eS5
            have hl : lv_has ls 14 [(12, .int 1), (11, .int (nI nn)), (0, .ref (Z.A 0 0)), (1, .ref (la 0)), (2, .ref (la 1)), (3, .ref (la 2)), (4, .ref (la 3)), (5, .ref (la 4)), (6, .ref (la 5)), (7, .ref (la 6)), (8, .int 3), (9, .int one), (10, .int two)] := lv_sub hl [1, 2, 3, 4, 5, 6, 7, 8, 9, 10, 11, 12, 13] rfl
            refine lv_aload_n hx hb dL_isTold_466 rfl (lv_at hl 2 rfl) ?_
            refine lv_bipush (v := 14) hx hb dL_isTold_467 (by decide) ?_
            refine lv_iload hx hb dL_isTold_469 (lv_at hl 1 rfl) ?_
            refine lv_iconst (v := 0) hx hb dL_isTold_471 (by decide) ?_
            refine lv_iconst (v := 0) hx hb dL_isTold_472 (by decide) ?_
            refine jx_callH (rest := []) (as := [.ref (Z.A 0 0), .int 14, .int (nI nn), .int 0, .int 0]) hx hb hml hts hown hK hE Dj_xl hI (qD_pass G hst Z S0 (nI nn) 0 0 hR.1.1.1 hR.1.1.2.1) kw_does ⟨(Nat.le_of_ble_eq_true rfl), (Nat.le_of_ble_eq_true rfl)⟩ hl.1 (Nat.le_of_ble_eq_true rfl) dL_isTold_473 ⟨(Nat.le_of_ble_eq_true rfl), (Nat.le_of_ble_eq_true rfl)⟩ (fun v w1 H locs hpE hI => ?_)
            obtain ⟨hv, Z99, S99, M99, hR9, hA9, hw9⟩ : FIN G.2.2.2 G.2.1 Z t S5 (S5 6 0) v w1 := by subst eS5; subst enp env; exact ft3a hR ht hn1 hn2 hpE
            subst hv
            subst hw9
            refine lv_iload hx hb dL_isTold_476 (lv_at hl 0 rfl) ?_
            refine lv_if_eq (tgt := 488) hx hb dL_isTold_478 (by decide) (fun h => absurd h (by decide)) (fun _ => ?_)
            refine lv_aload hx hb dL_isTold_481 (lv_at hl 9 rfl) ?_
            refine lv_iconst (v := 0) hx hb dL_isTold_483 (by decide) ?_
            refine gA (k := 6) (n := 5) (q := 0) hx hb hK hI (by decide) rfl (by unfold vp_in; decide) (by decide) dL_isTold_484 ?_
            refine lv_goto (tgt := 490) hx hb dL_isTold_485 (by decide) ?_
            have hm : (S5 6 0 : Int32) = S5 6 0 := rfl
            refine lv_icmp_ne (tgt := 497) hx hb dL_isTold_490 (by decide) (fun h9 => absurd hm h9) (fun _ => ?_)
            refine lv_iconst (v := 1) hx hb dL_isTold_493 (by decide) ?_
            refine lv_goto (tgt := 498) hx hb dL_isTold_494 (by decide) ?_
            exact rt_z hx hb hr hlocks (by decide) hI hA hQ ⟨rfl, Z99, S99, M99, S5, hR9, hA9, rfl⟩ (Nat.le_of_ble_eq_true rfl) (Nat.le_of_ble_eq_true rfl) dL_isTold_498
          | succ k ih =>
            intro n hnk i_ S5 H locs ls ei eS5 hI hl
            subst ei
            have hRn : LRR (M_pass_f M n) S5 (Z.N 0) (Z.N 1) := by rw [eS5]; exact L_pass_eq hR.l hR.i n
            have hIn : MI (M_pass_f M n) (Z.N 0) (Z.N 1) t := MI_pass_f hR.i
            refine lv_iload hx hb dL_isTold_434 (lv_at hl 0 rfl) ?_
            refine lv_iload hx hb dL_isTold_436 (lv_at hl 2 rfl) ?_
            refine lv_icmp_ge (tgt := 466) hx hb dL_isTold_438 (by decide) (fun h => absurd h (by rw [(show nI nn = nI nn from rfl)]; exact nI_ge (by omega) (by omega))) (fun _ => ?_)
            refine lv_iload hx hb dL_isTold_441 (lv_at hl 1 rfl) ?_
            refine lv_if_eq (tgt := 466) hx hb dL_isTold_443 (by decide) (fun h => absurd h (by decide)) (fun _ => ?_)
            refine lv_aload_n hx hb dL_isTold_446 rfl (lv_at hl 4 rfl) ?_
            refine lv_aload_n hx hb dL_isTold_447 rfl (lv_at hl 5 rfl) ?_
            refine lv_aload_n hx hb dL_isTold_448 rfl (lv_at hl 6 rfl) ?_
            refine lv_aload hx hb dL_isTold_449 (lv_at hl 7 rfl) ?_
            refine lv_aload hx hb dL_isTold_451 (lv_at hl 8 rfl) ?_
            refine lv_aload hx hb dL_isTold_453 (lv_at hl 9 rfl) ?_
            refine lv_aload hx hb dL_isTold_455 (lv_at hl 10 rfl) ?_
            obtain ⟨S7, eS7⟩ : ∃ z : LwS, z = L_minute S5 := ⟨_, rfl⟩
            refine cS0 (rest := []) hx hb hml hts hown hK hE hI (qL_minute G _ la S5 hRn hIn) kw_161 ⟨Nat.le_of_ble_eq_true rfl, Nat.le_of_ble_eq_true rfl⟩ rfl rfl hl.1 rfl (Nat.le_of_ble_eq_true rfl) dL_isTold_457 ⟨Nat.le_of_ble_eq_true rfl, Nat.le_of_ble_eq_true rfl⟩ (fun H locs hI => ?_)
            rw [← eS7] at hI
            obtain ⟨x8, ex8⟩ : ∃ z : Int32, z = (nI n) + 1 := ⟨_, rfl⟩
            refine lv_iinc (v := x8) (lv' := [(13, .int x8), (12, .int 1), (11, .int (nI nn)), (0, .ref (Z.A 0 0)), (1, .ref (la 0)), (2, .ref (la 1)), (3, .ref (la 2)), (4, .ref (la 3)), (5, .ref (la 4)), (6, .ref (la 5)), (7, .ref (la 6)), (8, .int 3), (9, .int one), (10, .int two)]) hx hb dL_isTold_460 hl (k := 0) rfl (by rw [ex8]; rfl) (by decide) rfl (fun ls hl => ?_)
            refine lv_goto (tgt := 434) hx hb dL_isTold_463 (by decide) ?_
            have HE : L_pass_s S5 n = S7 := by subst ex8 eS7; exact rfl
            exact ih (n + 1) (by omega) x8 S7 H locs ls (by rw [ex8]; exact nI_1 n) (by show _ = L_pass_s (L_pass_f L n) n; rw [← eS5]; exact HE.symm) hI (lv_sub hl [0, 1, 2, 3, 4, 5, 6, 7, 8, 9, 10, 11, 12, 13] rfl)
        exact hL6 nn 0 (by omega) 0 L H locs ls nI_0.symm rfl hI (lv_sub hl [0, 1, 2, 3, 4, 5, 6, 7, 8, 9, 10, 11, 12, 13] rfl)
      · rw [bI_f hb12]
        refine lv_istore (lv' := [(12, .int 0), (11, .int x1), (0, .ref (Z.A 0 0)), (1, .ref (la 0)), (2, .ref (la 1)), (3, .ref (la 2)), (4, .ref (la 3)), (5, .ref (la 4)), (6, .ref (la 5)), (7, .ref (la 6)), (8, .int 3), (9, .int one), (10, .int two)]) hx hb dL_isTold_429 hl (by decide) rfl (fun ls hl => ?_)
        refine lv_iconst (v := 0) hx hb dL_isTold_431 (by decide) ?_
        refine lv_istore (lv' := [(13, .int 0), (12, .int 0), (11, .int x1), (0, .ref (Z.A 0 0)), (1, .ref (la 0)), (2, .ref (la 1)), (3, .ref (la 2)), (4, .ref (la 3)), (5, .ref (la 4)), (6, .ref (la 5)), (7, .ref (la 6)), (8, .int 3), (9, .int one), (10, .int two)]) hx hb dL_isTold_432 hl (by decide) rfl (fun ls hl => ?_)
        have hX : W p G.1 e ({ frames := 9, cells := 5, slots := 802, locals := 199 }) s m args below meth c H locs 0 0 Q (F0 m 466 ls []) := by
          refine lv_aload_n hx hb dL_isTold_466 rfl (lv_at hl 3 rfl) ?_
          refine lv_bipush (v := 14) hx hb dL_isTold_467 (by decide) ?_
          refine lv_iload hx hb dL_isTold_469 (lv_at hl 2 rfl) ?_
          refine lv_iconst (v := 0) hx hb dL_isTold_471 (by decide) ?_
          refine lv_iconst (v := 0) hx hb dL_isTold_472 (by decide) ?_
          refine jx_callH (rest := []) (as := [.ref (Z.A 0 0), .int 14, .int x1, .int 0, .int 0]) hx hb hml hts hown hK hE Dj_xl hI (qD_pass G hst Z S0 x1 0 0 hR.1.1.1 hR.1.1.2.1) kw_does ⟨(Nat.le_of_ble_eq_true rfl), (Nat.le_of_ble_eq_true rfl)⟩ hl.1 (Nat.le_of_ble_eq_true rfl) dL_isTold_473 ⟨(Nat.le_of_ble_eq_true rfl), (Nat.le_of_ble_eq_true rfl)⟩ (fun v w1 H locs hpE hI => ?_)
          obtain ⟨hv, Z99, S99, M99, hR9, hA9, hw9⟩ : FIN G.2.2.2 G.2.1 Z t L (-20000000) v w1 := by subst ex1; subst enp env; exact ft3b hR ht5 (fun z => hb12 ⟨(i_le (n := 0) (by decide)).mpr (by omega), (i_ge (n := 3001) (by decide)).mpr (by omega)⟩) hpE
          subst hv
          subst hw9
          refine lv_iload hx hb dL_isTold_476 (lv_at hl 1 rfl) ?_
          refine lv_if_eq (tgt := 488) hx hb dL_isTold_478 (by decide) (fun _ => ?_) (fun h => absurd h (by decide))
          refine lv_ldc (v := -20000000) hx hb hown (hts _ q653) dL_isTold_488 ?_
          have hm : (-20000000 : Int32) = -20000000 := rfl
          refine lv_icmp_ne (tgt := 497) hx hb dL_isTold_490 (by decide) (fun h9 => absurd hm h9) (fun _ => ?_)
          refine lv_iconst (v := 1) hx hb dL_isTold_493 (by decide) ?_
          refine lv_goto (tgt := 498) hx hb dL_isTold_494 (by decide) ?_
          exact rt_z hx hb hr hlocks (by decide) hI hA hQ ⟨rfl, Z99, S99, M99, L, hR9, hA9, rfl⟩ (Nat.le_of_ble_eq_true rfl) (Nat.le_of_ble_eq_true rfl) dL_isTold_498
        refine lv_iload hx hb dL_isTold_434 (lv_at hl 0 rfl) ?_
        refine lv_iload hx hb dL_isTold_436 (lv_at hl 2 rfl) ?_
        refine lv_icmp_ge (tgt := 466) hx hb dL_isTold_438 (by decide) (fun _ => hX) (fun _ => ?_)
        refine lv_iload hx hb dL_isTold_441 (lv_at hl 1 rfl) ?_
        refine lv_if_eq (tgt := 466) hx hb dL_isTold_443 (by decide) (fun _ => ?_) (fun h => absurd h (by decide))
        exact hX
    refine lv_if_le (tgt := 428) hx hb dL_isTold_413 (by decide) (fun c9 => ?_) (fun c9 => ?_)
    · refine lv_iconst (v := 0) hx hb dL_isTold_428 (by decide) ?_
      have eb10 : (0 : Int32) = bI ((¬ (x1 ≤ 0)) ∧ (¬ (3001 ≤ x1))) := (bI_f (fun k => k.1 c9)).symm
      rw [eb10]
      exact hJ3
    · refine lv_iload hx hb dL_isTold_416 (lv_at hl 0 rfl) ?_
      refine lv_sipush (v := 3001) hx hb dL_isTold_418 (by decide) ?_
      refine lv_icmp_ge (tgt := 428) hx hb dL_isTold_421 (by decide) (fun c11 => ?_) (fun c11 => ?_)
      · refine lv_iconst (v := 0) hx hb dL_isTold_428 (by decide) ?_
        have eb12 : (0 : Int32) = bI ((¬ (x1 ≤ 0)) ∧ (¬ (3001 ≤ x1))) := (bI_f (fun k => (fun k => k c11) k.2)).symm
        rw [eb12]
        exact hJ3
      · refine lv_iconst (v := 1) hx hb dL_isTold_424 (by decide) ?_
        refine lv_goto (tgt := 429) hx hb dL_isTold_425 (by decide) ?_
        have eb13 : (1 : Int32) = bI ((¬ (x1 ≤ 0)) ∧ (¬ (3001 ≤ x1))) := (bI_t ⟨c9, c11⟩).symm
        rw [eb13]
        exact hJ3
  refine lv_if_ne (tgt := 380) hx hb dL_isTold_366 (by decide) (fun c14 => ?_) (fun c14 => ?_)
  · refine lv_iload hx hb dL_isTold_380 (lv_at hl 9 rfl) ?_
    refine lv_iconst (v := 2) hx hb dL_isTold_382 (by decide) ?_
    refine lv_irem hx hb dL_isTold_383 (by decide) ?_
    refine lv_if_ne (tgt := 402) hx hb dL_isTold_384 (by decide) (fun c15 => ?_) (fun c15 => ?_)
    · refine lv_iconst (v := 1) hx hb dL_isTold_402 (by decide) ?_
      refine lv_iload hx hb dL_isTold_403 (lv_at hl 10 rfl) ?_
      refine lv_bipush (v := 60) hx hb dL_isTold_405 (by decide) ?_
      refine lv_irem hx hb dL_isTold_407 (by decide) ?_
      refine lv_iadd hx hb dL_isTold_408 ?_
      exact hJ2 (1 + (two - two / 60 * 60)) (by exact ((if_neg c14).trans (if_neg c15)).symm)
    · refine lv_sipush (v := 1440) hx hb dL_isTold_387 (by decide) ?_
      refine lv_aload hx hb dL_isTold_390 (lv_at hl 7 rfl) ?_
      refine lv_iconst (v := 0) hx hb dL_isTold_392 (by decide) ?_
      refine gA (k := 6) (n := 5) (q := 0) hx hb hK hI (by decide) rfl (by unfold vp_in; decide) (by decide) dL_isTold_393 ?_
      refine lv_sipush (v := 1440) hx hb dL_isTold_394 (by decide) ?_
      refine lv_irem hx hb dL_isTold_397 (by decide) ?_
      refine lv_isub hx hb dL_isTold_398 ?_
      refine lv_goto (tgt := 409) hx hb dL_isTold_399 (by decide) ?_
      exact hJ2 (1440 - ((L 6 0) - (L 6 0) / 1440 * 1440)) (by exact ((if_neg c14).trans (if_pos c15)).symm)
  · refine lv_iload hx hb dL_isTold_369 (lv_at hl 10 rfl) ?_
    refine lv_iconst (v := 2) hx hb dL_isTold_371 (by decide) ?_
    refine lv_irem hx hb dL_isTold_372 (by decide) ?_
    refine lv_sipush (v := 3001) hx hb dL_isTold_373 (by decide) ?_
    refine lv_imul hx hb dL_isTold_376 ?_
    refine lv_goto (tgt := 409) hx hb dL_isTold_377 (by decide) ?_
    exact hJ2 ((two - two / 2 * 2) * 3001) (by exact (if_pos c14).symm)
