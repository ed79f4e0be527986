/-! ===== turn, and what is asked ===== -/
theorem mset_over {M : MS} {k j : Nat} {v v' : Int32} : mset (mset M k j v) k j v' = mset M k j v' := by
  refine Prod.ext (funext fun a => funext fun b => ?_) rfl
  show (if a = k ∧ b = j then v' else if a = k ∧ b = j then v else M.1 a b) = (if a = k ∧ b = j then v' else M.1 a b)
  by_cases c : a = k ∧ b = j
  · rw [if_pos c, if_pos c]
  · rw [if_neg c, if_neg c, if_neg c]
theorem MI_turn {M : MS} {np nv t j : Nat} (h : MI M np nv t) (hj : j < nv) (hw : M.1 20 j = 2) : MI (if M_isThere (mset M 22 j (bI (M.1 22 j = 0))) (nI j) then M_arrives (mset M 22 j (bI (M.1 22 j = 0))) (nI j) else mset M 22 j (bI (M.1 22 j = 0))) np nv t := by
  obtain ⟨b1, b2, b3, b4, b5, a, b6, b7, b8, b9, b10, -⟩ := h.2.2.1 j hj
  have hnp := h.2.2.2.2.2.2.2 (by omega)
  have hS : MI (mset (mset M 20 j 4) 22 j (bI (M.1 22 j = 0))) np nv t := by
    refine MI_vv (j := j) h (fun k hk => by rw [mset_k (by omega), mset_k (by omega)]) (fun k i _ _ _ hi => by rw [mset_j hi, mset_j hi]) (fun _ => ?_) ?_
    · unfold VIv
      rw [mset_s, mset_k (show (20 : Nat) ≠ 22 by decide), mset_s, mset_k (show (17 : Nat) ≠ 22 by decide), mset_k (show (17 : Nat) ≠ 20 by decide), mset_k (show (18 : Nat) ≠ 22 by decide), mset_k (show (18 : Nat) ≠ 20 by decide), mset_k (show (19 : Nat) ≠ 22 by decide), mset_k (show (19 : Nat) ≠ 20 by decide), mset_k (show (24 : Nat) ≠ 22 by decide), mset_k (show (24 : Nat) ≠ 20 by decide), mset_k (show (21 : Nat) ≠ 22 by decide), mset_k (show (21 : Nat) ≠ 20 by decide)]
      refine ⟨?_, b2, b3, b4, b5, a, b6, b7, fun z => absurd z (by decide), fun z => absurd z (by decide), fun z => absurd z (by decide), fun z => absurd z (by decide)⟩
      unfold bI
      split
      · exact Or.inr rfl
      · exact Or.inl rfl
    · rw [mset_k (by decide), mset_k (by decide), mset_k (by decide), mset_k (by decide)]
      exact h.2.1 j
  have key := MI_lv hS hS hj hnp (fun _ _ => rfl) b7
  have e : mset (mset (mset (mset M 20 j 4) 22 j (bI (M.1 22 j = 0))) 21 j (nI a)) 20 j 2 = mset M 22 j (bI (M.1 22 j = 0)) := by
    rw [mset_id (k := 21) (j := j) (v := nI a) (by rw [mset_k (by decide), mset_k (by decide)]; exact b6.symm), mset_comm (by decide), mset_over, mset_id hw.symm]
  rw [e] at key
  exact key
theorem st_turn {Z : XZ} {S : XS} {M : MS} {t : Nat} (h : RXA Z S M t) (ht : t < 512) (uv : Int32) : SA (X_turn Z S uv).1 (X_turn Z S uv).2.1 (M_turn M uv).1 (M_turn M uv).2 (cdL EIOB EISE) (RXA Z (X_turn Z S uv).2.2 (M_turn M uv).2 (t + 1)) (RXA Z S (M_turn M uv).2 (t + 1)) := by
  unfold X_turn M_turn
  rcases vN_iff (Z := Z) (S := S) (M := M) (x := uv) h.2.1.1 with ⟨c1, c2, q, hq, rfl⟩ | ⟨c1, c2⟩
  · rw [if_pos c1, if_pos c2]
    have h1 := RXA_29 (j := 0) (v := 0) h
    have hcq : (nI q).toNatClampNeg = q := nI_clamp (by have := h.1.nv; omega)
    have e3 : S.1 2 (nI q).toNatClampNeg 3 = M.1 20 (nI q).toNatClampNeg := by rw [hcq]; exact (h.1.v hq).2.2.2.1
    by_cases w : M.1 20 (nI q).toNatClampNeg = 2
    · rw [if_pos (e3.trans w), if_pos w]
      rw [hcq] at w
      have w2 : (mset M 29 0 0).1 20 q = 2 := by rw [mset_k (by decide)]; exact w
      have e5 : S.1 2 q 5 = (mset M 29 0 0).1 22 q := (h1.1.v hq).2.2.2.2.2.1
      have n1 : ¬ (mset M 29 0 0).1 20 q = 1 := by rw [w2]; decide
      dsimp only
      simp only [hcq, e5]
      have g := RXN_v (f := 5) (v := bI ((mset M 29 0 0).1 22 q = 0)) h1.1 hq (by omega) (by omega) n1 (fun z => absurd z (by decide))
      have m : ∀ k, k ≠ 22 → (mset (mset M 29 0 0) 22 q (bI ((mset M 29 0 0).1 22 q = 0))).1 k = (mset M 29 0 0).1 k := fun k hk => mset_k hk
      obtain ⟨r1, r2⟩ := stop_eq g (BI_set h1.2.2 (by decide) (by decide)) hq h1.2.1.2.2.2.2.2.2.1 (by rw [m 20 (by decide)]; exact w2) (by rw [m 3 (by decide)]; exact h1.2.1.1.1) (by rw [m 24 (by decide), m 25 (by decide)]; exact h1.2.1.2.1 q) (by rw [m 24 (by decide)]; exact MI_24 h1.2.1)
      have r3 := MI_turn h1.2.1 hq w2
      refine Or.inl ⟨rfl, ?_, (r1.v hq).2.2.2.2.2.1, RXA_t ⟨r1, r3, r2⟩ ht⟩
      have z : (if M_isThere (mset (mset M 29 0 0) 22 q (bI ((mset M 29 0 0).1 22 q = 0))) (nI q) then M_arrives (mset (mset M 29 0 0) 22 q (bI ((mset M 29 0 0).1 22 q = 0))) (nI q) else mset (mset M 29 0 0) 22 q (bI ((mset M 29 0 0).1 22 q = 0))).1 29 = (mset M 29 0 0).1 29 := ite_k ((M_arr_k (by omega)).trans (mset_k (by decide))) (mset_k (by decide))
      rw [z, mset_s]
    · rw [if_neg (fun z => w (e3.symm.trans z)), if_neg w]
      exact SA_bad h ht rfl (cdL_2 (by decide))
  · rw [if_neg (nn_none c1), if_neg c2]
    exact SA_bad h ht c1 cdL_1
theorem SA_ok {α : Type} {x y : α} {Z : XZ} {S : XS} {M : MS} {t : Nat} {cd : String → Int32} {bad : Prop} (h : RXA Z S M t) (ht : t < 512) (e : x = y) : SA none x y (mset M 29 0 0) cd (RXA Z S (mset M 29 0 0) (t + 1)) bad := Or.inl ⟨rfl, mset_s, e, RXA_t (RXA_29 h) ht⟩
theorem st_minute {Z : XZ} {S : XS} {M : MS} {t : Nat} (h : RXA Z S M t) (ht : t < 512) : X_minute Z S = (M_minute M).1 ∧ RXA Z S (M_minute M).2 (t + 1) := by
  have h1 := RXA_29 (j := 0) (v := 0) h
  exact ⟨h1.1.2.2.2.1, RXA_t h1 ht⟩
theorem many_eq {M : MS} {p : Nat} : ∀ n, n ≤ 16 → (∀ i, i < n → M.1 22 i = 0 ∨ M.1 22 i = 1) → M_many_f M (nI p) n = nI (cntOn M p 1 n + cntOn M p 0 n)
  | 0, _, _ => rfl
  | n + 1, hn, h => by
    have ih := many_eq (M := M) (p := p) n (by omega) (fun i hi => h i (by omega))
    show M_many_s M (nI p) n (M_many_f M (nI p) n) = nI (cntOn M p 1 n + iOn M p 1 n + (cntOn M p 0 n + iOn M p 0 n))
    unfold M_many_s
    rw [ih, nI_clamp (by omega)]
    by_cases c : M.1 20 n = 1 ∧ M.1 21 n = nI p
    · rw [bI_t c, nI_1]
      rcases h n (by omega) with d | d
      · have e1 : iOn M p 1 n = 0 := if_neg (fun z => by rw [d] at z; exact absurd z.2.2 (by decide))
        have e0 : iOn M p 0 n = 1 := if_pos ⟨c.1, c.2, d⟩
        rw [e1, e0]
        congr 1
      · have e1 : iOn M p 1 n = 1 := if_pos ⟨c.1, c.2, d⟩
        have e0 : iOn M p 0 n = 0 := if_neg (fun z => by rw [d] at z; exact absurd z.2.2 (by decide))
        rw [e1, e0]
        congr 1
        omega
    · have e1 : iOn M p 1 n = 0 := if_neg (fun z => c ⟨z.1, z.2.1⟩)
      have e0 : iOn M p 0 n = 0 := if_neg (fun z => c ⟨z.1, z.2.1⟩)
      rw [bI_f c, e1, e0, Int32.add_zero]
      rfl
theorem st_told {Z : XZ} {S : XS} {M : MS} {t : Nat} (h : RXA Z S M t) (ht : t < 512) (up uk : Int32) : SA (X_told Z S up uk).1 (X_told Z S up uk).2 (M_told M up uk).1 (M_told M up uk).2 (cdL EIOB EIAE) (RXA Z S (M_told M up uk).2 (t + 1)) (RXA Z S (M_told M up uk).2 (t + 1)) := by
  unfold X_told M_told
  rcases pN_iff (Z := Z) (S := S) (M := M) (x := up) h.2.1.1 with ⟨c1, c2, q, hq, rfl⟩ | ⟨c1, c2⟩
  · rw [if_pos c1, if_pos c2]
    rcases nR_iff (Z := Z) (S := S) (M := M) (x := uk) (a := 0) (b := 7) with ⟨d1, d2⟩ | ⟨d1, d2⟩
    · rw [if_pos d1, if_pos d2]
      have h1 := RXA_29 (j := 0) (v := 0) h
      have hcq : (nI q).toNatClampNeg = q := nI_clamp (by have := h.1.np; omega)
      have ep := h1.1.p hq
      dsimp only
      rw [hcq]
      by_cases k0 : uk = 0
      · rw [if_pos k0, if_pos k0]; exact SA_ok h ht (ep.f 3 (by omega) (by omega))
      rw [if_neg k0, if_neg k0]
      by_cases k1 : uk = 1
      · rw [if_pos k1, if_pos k1]; exact SA_ok h ht (ep.f 4 (by omega) (by omega))
      rw [if_neg k1, if_neg k1]
      by_cases k2 : uk = 2
      · rw [if_pos k2, if_pos k2]; exact SA_ok h ht (ep.f 5 (by omega) (by omega))
      rw [if_neg k2, if_neg k2]
      by_cases k3 : uk = 3
      · rw [if_pos k3, if_pos k3]; exact SA_ok h ht (ep.f 6 (by omega) (by omega))
      rw [if_neg k3, if_neg k3]
      by_cases k4 : uk = 4
      · rw [if_pos k4, if_pos k4]; exact SA_ok h ht (ep.f 7 (by omega) (by omega))
      rw [if_neg k4, if_neg k4]
      by_cases k5 : uk = 5
      · rw [if_pos k5, if_pos k5]; exact SA_ok h ht (ep.f 8 (by omega) (by omega))
      rw [if_neg k5, if_neg k5]
      by_cases k6 : uk = 6
      · rw [if_pos k6, if_pos k6]; exact SA_ok h ht (ep.f 9 (by omega) (by omega))
      rw [if_neg k6, if_neg k6]
      refine SA_ok h ht ?_
      unfold M_many
      dsimp only
      rw [h1.2.1.1.2.2.1, nI_clamp (by have := h.1.nv; omega), many_eq _ h.1.nv (fun i hi => (h1.2.1.2.2.1 i hi).1), ep.c1, ep.c0, nI_add]
    · rw [if_neg (nn_none d1), if_neg d2]
      exact SA_bad h ht d1 (cdL_2 (by decide))
  · rw [if_neg (nn_none c1), if_neg c2]
    exact SA_bad h ht c1 cdL_1
theorem st_thickness {Z : XZ} {S : XS} {M : MS} {t : Nat} (h : RXA Z S M t) (ht : t < 512) (up ub : Int32) : SA (X_thickness Z S up ub).1 (X_thickness Z S up ub).2 (M_thickness M up ub).1 (M_thickness M up ub).2 (cdL EIOB "") (RXA Z S (M_thickness M up ub).2 (t + 1)) (RXA Z S (M_thickness M up ub).2 (t + 1)) := by
  unfold X_thickness M_thickness
  rcases pN_iff (Z := Z) (S := S) (M := M) (x := up) h.2.1.1 with ⟨c1, c2, q, hq, rfl⟩ | ⟨c1, c2⟩
  · rw [if_pos c1, if_pos c2]
    have h1 := RXA_29 (j := 0) (v := 0) h
    have hcq : (nI q).toNatClampNeg = q := nI_clamp (by have := h.1.np; omega)
    have ep := h1.1.p hq
    refine SA_ok h ht ?_
    unfold X_thicknessAs
    dsimp only
    rw [hcq, thick_eq ep (by have := h.1.np; omega), ep.k]
  · rw [if_neg (nn_none c1), if_neg c2]
    exact SA_bad h ht c1 cdL_1
theorem st_bears {Z : XZ} {S : XS} {M : MS} {t : Nat} (h : RXA Z S M t) (ht : t < 512) (up ub : Int32) : SA (X_bears Z S up ub).1 (X_bears Z S up ub).2 (M_bears M up ub).1 (M_bears M up ub).2 (cdL EIOB "") (RXA Z S (M_bears M up ub).2 (t + 1)) (RXA Z S (M_bears M up ub).2 (t + 1)) := by
  unfold X_bears M_bears
  rcases pN_iff (Z := Z) (S := S) (M := M) (x := up) h.2.1.1 with ⟨c1, c2, q, hq, rfl⟩ | ⟨c1, c2⟩
  · rw [if_pos c1, if_pos c2]
    have h1 := RXA_29 (j := 0) (v := 0) h
    have hcq : (nI q).toNatClampNeg = q := nI_clamp (by have := h.1.np; omega)
    have ep := h1.1.p hq
    dsimp only
    rw [hcq]
    by_cases c : ub = 0
    · rw [if_pos c]
      exact SA_ok h ht (by rw [bears_eq ep (by have := h.1.np; omega), if_pos c])
    · rw [if_neg c]
      exact SA_ok h ht (by rw [bears_eq ep (by have := h.1.np; omega), if_neg c])
  · rw [if_neg (nn_none c1), if_neg c2]
    exact SA_bad h ht c1 cdL_1
theorem st_ofVehicle {Z : XZ} {S : XS} {M : MS} {t : Nat} (h : RXA Z S M t) (ht : t < 512) (uv uk : Int32) : SA (X_ofVehicle Z S uv uk).1 (X_ofVehicle Z S uv uk).2 (M_ofVehicle M uv uk).1 (M_ofVehicle M uv uk).2 (cdL EIOB EIAE) (RXA Z S (M_ofVehicle M uv uk).2 (t + 1)) (RXA Z S (M_ofVehicle M uv uk).2 (t + 1)) := by
  unfold X_ofVehicle M_ofVehicle
  rcases vN_iff (Z := Z) (S := S) (M := M) (x := uv) h.2.1.1 with ⟨c1, c2, q, hq, rfl⟩ | ⟨c1, c2⟩
  · rw [if_pos c1, if_pos c2]
    rcases nR_iff (Z := Z) (S := S) (M := M) (x := uk) (a := 0) (b := 6) with ⟨d1, d2⟩ | ⟨d1, d2⟩
    · rw [if_pos d1, if_pos d2]
      have h1 := RXA_29 (j := 0) (v := 0) h
      have hcq : (nI q).toNatClampNeg = q := nI_clamp (by have := h.1.nv; omega)
      have ev := h1.1.v hq
      dsimp only
      rw [hcq]
      by_cases k0 : uk = 0
      · rw [if_pos k0, if_pos k0]; exact SA_ok h ht ev.2.2.2.1
      rw [if_neg k0, if_neg k0]
      by_cases k1 : uk = 1
      · rw [if_pos k1, if_pos k1]; exact SA_ok h ht (by rw [RV.wt ev, M_weight_j (by have := h.1.nv; omega)])
      rw [if_neg k1, if_neg k1]
      by_cases k2 : uk = 2
      · rw [if_pos k2, if_pos k2]
        refine SA_ok h ht ?_
        rcases ev.2.2.2.2.2.2.2 with ⟨a, b, -⟩ | ⟨a, b, c, -⟩
        · rw [if_pos a, b]
        · rw [if_neg a, c]
      rw [if_neg k2, if_neg k2]
      by_cases k3 : uk = 3
      · rw [if_pos k3, if_pos k3]
        refine SA_ok h ht ?_
        rcases ev.2.2.2.2.2.2.2 with ⟨a, -, b⟩ | ⟨a, b, c, -⟩
        · rw [if_pos a, b]
        · rw [if_neg a, b]
      rw [if_neg k3, if_neg k3]
      by_cases k4 : uk = 4
      · rw [if_pos k4, if_pos k4]; exact SA_ok h ht ev.2.2.2.2.1
      rw [if_neg k4, if_neg k4]
      by_cases k5 : uk = 5
      · rw [if_pos k5, if_pos k5]; exact SA_ok h ht (by rw [ev.2.2.2.2.2.1])
      rw [if_neg k5, if_neg k5]
      refine SA_ok h ht ?_
      rw [ev.2.2.2.1]
      by_cases w : (mset M 29 0 0).1 20 q = 1
      · rw [if_pos w, if_pos w]; exact ev.2.2.2.2.2.2.1 w
      · rw [if_neg w, if_neg w]
    · rw [if_neg (nn_none d1), if_neg d2]
      exact SA_bad h ht d1 (cdL_2 (by decide))
  · rw [if_neg (nn_none c1), if_neg c2]
    exact SA_bad h ht c1 cdL_1
theorem st_why {Z : XZ} {S : XS} {M : MS} {t : Nat} (h : RXA Z S M t) (ht : t < 512) (uv : Int32) : SA (X_why Z S uv).1 (X_why Z S uv).2 (M_why M uv).1 (M_why M uv).2 (cdL EIOB "") (RXA Z S (M_why M uv).2 (t + 1)) (RXA Z S (M_why M uv).2 (t + 1)) := by
  unfold X_why M_why
  rcases vN_iff (Z := Z) (S := S) (M := M) (x := uv) h.2.1.1 with ⟨c1, c2, q, hq, rfl⟩ | ⟨c1, c2⟩
  · rw [if_pos c1, if_pos c2]
    have h1 := RXA_29 (j := 0) (v := 0) h
    have hcq : (nI q).toNatClampNeg = q := nI_clamp (by have := h.1.nv; omega)
    have ev := h1.1.v hq
    refine SA_ok h ht ?_
    dsimp only
    rw [hcq, ev.2.2.2.1]
    by_cases w : (mset M 29 0 0).1 20 q = 2
    · rw [if_pos w, if_pos w]; exact against_eq h1.1 h1.2.1 hq w
    · rw [if_neg w, if_neg w]
  · rw [if_neg (nn_none c1), if_neg c2]
    exact SA_bad h ht c1 cdL_1
