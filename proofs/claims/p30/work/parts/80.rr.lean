/-! ===== class, reference and law's arrays after t calls that change something; what a call of does comes to ===== -/
def OB (M : MS) (t : Nat) : Prop := (M.1 0 0).toInt ≤ 1440 * t ∧ (∀ g, g < 3 → (M.1 28 g).toInt ≤ 60000 * t) ∧ KI M
def RR (Z : XZ) (S : XS) (M : MS) (L : LwS) (t : Nat) : Prop := RXA Z S M t ∧ LRR M L (Z.N 0) (Z.N 1) ∧ OB M t
def FIN (T : Nat → ClassId) (z : Nat) (Z : XZ) (t : Nat) (L' : LwS) (y : Int32) (v : Option Value) (w1 : WD) : Prop := v = some (.int y) ∧ ∃ (Z' : XZ) (S' : XS) (M' : MS), RR Z' S' M' L' (t + 1) ∧ Z'.A 0 0 = Z.A 0 0 ∧ w1 = xW T z Z' S'
theorem cdL_no {a b E : String} : ¬ cdL a b E = 0 := by
  unfold cdL
  split
  · decide
  · split <;> decide
theorem cdL_i1 {a b E : String} (h : cdL a b E = 1) : E = a := by
  unfold cdL at h
  split at h
  · assumption
  · split at h <;> exact absurd h (by decide)
theorem cdL_i2 {a b E : String} (h : cdL a b E = 2) : E = b := by
  unfold cdL at h
  split at h
  · exact absurd h (by decide)
  · split at h
    · assumption
    · exact absurd h (by decide)
theorem cdL_i3 {a b E : String} (h : cdL a b E = 3) : ¬ E = a ∧ ¬ E = b := by
  unfold cdL at h
  split at h
  · exact absurd h (by decide)
  · rename_i c1
    split at h
    · exact absurd h (by decide)
    · rename_i c2
      exact ⟨c1, c2⟩
def DOR (T : Nat → ClassId) (z : Nat) (Z : XZ) (M' : MS) (t : Nat) (cd : String → Int32) (y : Int32) (v : Option Value) (w1 : WD) : Prop := (∃ S9 : XS, RXA Z S9 M' (t + 1) ∧ w1 = xW T z Z S9) ∧ ((M'.1 29 0 = 0 ∧ v = some (.int y)) ∨ ∃ E, M'.1 29 0 = cd E ∧ v = some (.int (cdD E)))
theorem do_i {T : Nat → ClassId} {z : Nat} {Z : XZ} {S S' : XS} {M' : MS} {t : Nat} {th : Option String} {x y : Int32} {cd : String → Int32} (hSA : SA th x y M' cd (RXA Z S' M' (t + 1)) (RXA Z S M' (t + 1))) {v : Option Value} {w1 : WD} (hp : poE cvi (pvx th (.int x) (xW T z Z S')) (px th (xW T z Z S)) v w1) : DOR T z Z M' t cd y v w1 := by
  rcases hSA with ⟨a1, a2, a3, a4⟩ | ⟨E, a1, a2, a3⟩
  · rcases hp with ⟨u, ⟨b1, b2, b3⟩, b4⟩ | ⟨E, ⟨b1, b2⟩, b3⟩
    · cases b2
      exact ⟨⟨_, a4, b3⟩, Or.inl ⟨a2, by rw [b4, ← a3]; rfl⟩⟩
    · rw [a1] at b1
      cases b1
  · rcases hp with ⟨u, ⟨b1, b2, b3⟩, b4⟩ | ⟨E', ⟨b1, b2⟩, b3⟩
    · rw [a1] at b1
      cases b1
    · rw [a1] at b1
      cases b1
      exact ⟨⟨_, a3, b2⟩, Or.inr ⟨E, a2, b3⟩⟩
def bz (y : Int32) : Int32 := if y = 0 then 0 else 1
theorem do_b {T : Nat → ClassId} {z : Nat} {Z : XZ} {S S' : XS} {M' : MS} {t : Nat} {th : Option String} {x y : Int32} {cd : String → Int32} (hSA : SA th x y M' cd (RXA Z S' M' (t + 1)) (RXA Z S M' (t + 1))) {v : Option Value} {w1 : WD} (hp : poE cvb (pvx th (.int x) (xW T z Z S')) (px th (xW T z Z S)) v w1) : DOR T z Z M' t cd (bz y) v w1 := by
  rcases hSA with ⟨a1, a2, a3, a4⟩ | ⟨E, a1, a2, a3⟩
  · rcases hp with ⟨u, ⟨b1, b2, b3⟩, b4⟩ | ⟨E, ⟨b1, b2⟩, b3⟩
    · cases b2
      exact ⟨⟨_, a4, b3⟩, Or.inl ⟨a2, by rw [b4, ← a3]; rfl⟩⟩
    · rw [a1] at b1
      cases b1
  · rcases hp with ⟨u, ⟨b1, b2, b3⟩, b4⟩ | ⟨E', ⟨b1, b2⟩, b3⟩
    · rw [a1] at b1
      cases b1
    · rw [a1] at b1
      cases b1
      exact ⟨⟨_, a3, b2⟩, Or.inr ⟨E, a2, b3⟩⟩
theorem do_d {T : Nat → ClassId} {z : Nat} {Z : XZ} {S S' : XS} {M' : MS} {t : Nat} {th : Option String} {x y : UInt64} {cd : String → Int32} (hSA : SA th x y M' cd (RXA Z S' M' (t + 1)) (RXA Z S M' (t + 1))) {v : Option Value} {w1 : WD} (hp : poE cvd (pvx th (.double x) (xW T z Z S')) (px th (xW T z Z S)) v w1) : DOR T z Z M' t cd (FP.d2i (FP.dmul c2d y)) v w1 := by
  rcases hSA with ⟨a1, a2, a3, a4⟩ | ⟨E, a1, a2, a3⟩
  · rcases hp with ⟨u, ⟨b1, b2, b3⟩, b4⟩ | ⟨E, ⟨b1, b2⟩, b3⟩
    · cases b2
      exact ⟨⟨_, a4, b3⟩, Or.inl ⟨a2, by rw [b4, ← a3]; rfl⟩⟩
    · rw [a1] at b1
      cases b1
  · rcases hp with ⟨u, ⟨b1, b2, b3⟩, b4⟩ | ⟨E', ⟨b1, b2⟩, b3⟩
    · rw [a1] at b1
      cases b1
    · rw [a1] at b1
      cases b1
      exact ⟨⟨_, a3, b2⟩, Or.inr ⟨E, a2, b3⟩⟩
section
variable {T : Nat → ClassId} {z : Nat} {Z : XZ} {M' : MS} {L' : LwS} {t : Nat} {a b : String} {y : Int32} {v : Option Value} {w1 : WD}
theorem fin_0 (h : DOR T z Z M' t (cdL a b) y v w1) (h0 : M'.1 29 0 = 0) (hL : LRR M' L' (Z.N 0) (Z.N 1)) (hO : OB M' (t + 1)) : FIN T z Z t L' y v w1 := by
  obtain ⟨⟨S9, h1, h2⟩, h3⟩ := h
  refine ⟨?_, Z, S9, M', ⟨h1, hL, hO⟩, rfl, h2⟩
  rcases h3 with h3 | ⟨E, h3, -⟩
  · exact h3.2
  · rw [h0] at h3
    exact absurd h3.symm cdL_no
theorem fin_1 (h : DOR T z Z M' t (cdL a b) y v w1) (h0 : M'.1 29 0 = 1) (hL : LRR M' L' (Z.N 0) (Z.N 1)) (hO : OB M' (t + 1)) : FIN T z Z t L' (cdD a) v w1 := by
  obtain ⟨⟨S9, h1, h2⟩, h3⟩ := h
  refine ⟨?_, Z, S9, M', ⟨h1, hL, hO⟩, rfl, h2⟩
  rcases h3 with ⟨h3, -⟩ | ⟨E, h3, h4⟩
  · rw [h0] at h3
    exact absurd h3 (by decide)
  · rw [h0] at h3
    rw [h4, cdL_i1 h3.symm]
theorem fin_2 (h : DOR T z Z M' t (cdL a b) y v w1) (h0 : M'.1 29 0 = 2) (hL : LRR M' L' (Z.N 0) (Z.N 1)) (hO : OB M' (t + 1)) : FIN T z Z t L' (cdD b) v w1 := by
  obtain ⟨⟨S9, h1, h2⟩, h3⟩ := h
  refine ⟨?_, Z, S9, M', ⟨h1, hL, hO⟩, rfl, h2⟩
  rcases h3 with ⟨h3, -⟩ | ⟨E, h3, h4⟩
  · rw [h0] at h3
    exact absurd h3 (by decide)
  · rw [h0] at h3
    rw [h4, cdL_i2 h3.symm]
theorem fin_3 (h : DOR T z Z M' t (cdL EIOB EIAE) y v w1) (h0 : M'.1 29 0 = 3) (hL : LRR M' L' (Z.N 0) (Z.N 1)) (hO : OB M' (t + 1)) : FIN T z Z t L' (-10000000) v w1 := by
  obtain ⟨⟨S9, h1, h2⟩, h3⟩ := h
  refine ⟨?_, Z, S9, M', ⟨h1, hL, hO⟩, rfl, h2⟩
  rcases h3 with ⟨h3, -⟩ | ⟨E, h3, h4⟩
  · rw [h0] at h3
    exact absurd h3 (by decide)
  · rw [h0] at h3
    obtain ⟨c1, c2⟩ := cdL_i3 h3.symm
    rw [h4]
    unfold cdD
    rw [if_neg c1, if_neg c2]
end
theorem LRR_29 {M : MS} {S : LwS} {np nv j : Nat} {v : Int32} (h : LRR M S np nv) : LRR (mset M 29 j v) S np nv := by
  refine LRR_go (p := 8) (j := 8) h (Or.inr (by omega)) (Or.inr (by omega)) ?_ (fun i hi => ?_) (fun i hi hne => ⟨fun k' _ _ => by rw [mset_k (by omega)], rfl, by rw [mset_k (by omega)], by rw [mset_k (by omega)]⟩) (fun i hi hne => ⟨rfl, rfl, rfl, fun r hr => rfl⟩) (fun i hi hne k' _ _ => by rw [mset_k (by omega)]) (fun i hi hne => ⟨rfl, fun r hr => rfl⟩) (fun z => absurd z (by have := h.1; omega)) (fun z => absurd z (by have := h.2.1; omega))
  · obtain ⟨g1, g2, g3, g4, g5⟩ := h.g
    unfold LRg
    rw [mset_k (by omega), mset_k (by omega), mset_k (by omega)]
    exact ⟨g1, g2, g3, g4, g5⟩
  · obtain ⟨g1, g2, g3⟩ := h.k hi
    unfold LRk
    rw [mset_k (by omega), mset_k (by omega), mset_k (by omega)]
    exact ⟨g1, g2, g3⟩
/-- the law's own waste places -/
theorem LRR_gb {M : MS} {S : LwS} {np nv k j : Nat} {v : Int32} (h : LRR M S np nv) (hk : (k = 0 ∧ j = 56) ∨ (k = 1 ∧ j = 8) ∨ (k = 5 ∧ j = 9)) : LRR M (lset S k j v) np nv := by
  refine LRR_go (p := 8) (j := 8) h (Or.inr (by omega)) (Or.inr (by omega)) ?_ (fun i hi => ?_) (fun i hi hne => ⟨fun k' _ _ => rfl, rfl, rfl, rfl⟩) (fun i hi hne => ⟨lset_n (by omega), lset_n (by omega), lset_n (by omega), fun r hr => lset_n (by omega)⟩) (fun i hi hne k' _ _ => rfl) (fun i hi hne => ⟨lset_n (by omega), fun r hr => lset_n (by omega)⟩) (fun z => absurd z (by have := h.1; omega)) (fun z => absurd z (by have := h.2.1; omega))
  · obtain ⟨g1, g2, g3, g4, g5⟩ := h.g
    unfold LRg
    rw [lset_n (by omega), lset_n (by omega), lset_n (by omega), lset_n (by omega), lset_n (by omega)]
    exact ⟨g1, g2, g3, g4, g5⟩
  · obtain ⟨g1, g2, g3⟩ := h.k hi
    unfold LRk
    rw [lset_n (by omega), lset_n (by omega), lset_n (by omega)]
    exact ⟨g1, g2, g3⟩
theorem OB_t {M M' : MS} {t : Nat} (h : OB M t) (h0 : M'.1 0 0 = M.1 0 0) (h28 : M'.1 28 = M.1 28) (hk : KI M → KI M') : OB M' (t + 1) := by
  refine ⟨?_, fun g hg => ?_, hk h.2.2⟩
  · rw [h0]
    have := h.1
    omega
  · rw [h28]
    have := h.2.1 g hg
    omega
theorem OB_29 {M : MS} {t j : Nat} {v : Int32} (h : OB M t) : OB (mset M 29 j v) (t + 1) := OB_t h (by rw [mset_k (by decide)]) (by rw [mset_k (by decide)]) (fun z => KI_t z (fun k a b => mset_k (by omega)))
/-! who is a piece, a vehicle, goods; ranges -/
theorem isP_ok {M : MS} {np nv p : Nat} (h : MNn M np nv) (hp : p < np) : M_isPiece M (nI p) := by
  have h1 := h.2.1
  unfold M_isPiece M_isIn
  rw [h.1]
  obtain ⟨n, rfl⟩ : ∃ n, np = n + 1 := ⟨np - 1, by omega⟩
  rw [nI_pred]
  exact ⟨nI_pos (by omega), nI_nlt (by omega) (by omega)⟩
theorem isP_no {M : MS} {np nv : Nat} (h : MNn M np nv) : ¬ M_isPiece M (nI np) := by
  have h1 := h.2.1
  unfold M_isPiece M_isIn
  rw [h.1]
  intro ⟨a, b⟩
  cases np with
  | zero => exact b (by decide)
  | succ n =>
    rw [nI_pred] at b
    exact b (nI_lt (by omega) (by omega))
theorem isV_ok {M : MS} {np nv j : Nat} (h : MNn M np nv) (hj : j < nv) : M_isVehicle M (nI j) := by
  have h1 := h.2.2.2
  unfold M_isVehicle M_isIn
  rw [h.2.2.1]
  obtain ⟨n, rfl⟩ : ∃ n, nv = n + 1 := ⟨nv - 1, by omega⟩
  rw [nI_pred]
  exact ⟨nI_pos (by omega), nI_nlt (by omega) (by omega)⟩
theorem isV_no {M : MS} {np nv : Nat} (h : MNn M np nv) : ¬ M_isVehicle M (nI nv) := by
  have h1 := h.2.2.2
  unfold M_isVehicle M_isIn
  rw [h.2.2.1]
  intro ⟨a, b⟩
  cases nv with
  | zero => exact b (by decide)
  | succ n =>
    rw [nI_pred] at b
    exact b (nI_lt (by omega) (by omega))
theorem isG_ok {M : MS} {g : Nat} (hg : g < 3) : M_isGoods M (nI g) := by
  rcases (show g = 0 ∨ g = 1 ∨ g = 2 by omega) with rfl | rfl | rfl <;> (unfold M_isGoods M_isIn; decide)
theorem isG_no {M : MS} : ¬ M_isGoods M 3 := by
  unfold M_isGoods M_isIn
  decide
theorem isIn_ok {M : MS} {x a b : Int32} (h1 : a.toInt ≤ x.toInt) (h2 : x.toInt ≤ b.toInt) : M_isIn M x a b := ⟨fun z => by rw [Int32.lt_iff_toInt_lt] at z; omega, fun z => by rw [Int32.lt_iff_toInt_lt] at z; omega⟩
theorem isIn_iff {M : MS} {x a b : Int32} : M_isIn M x a b ↔ a.toInt ≤ x.toInt ∧ x.toInt ≤ b.toInt := by
  refine ⟨fun ⟨h1, h2⟩ => ?_, fun ⟨h1, h2⟩ => isIn_ok h1 h2⟩
  rw [Int32.lt_iff_toInt_lt] at h1 h2
  omega
