/-! ===== the law's world: the class, the reference, the two out arrays ===== -/
theorem mW_4 {T : Nat → ClassId} {ad : Nat → Nat} {SM : MS} {k i : Nat} (h : k ≠ 4) : mW T ad SM k i = none := if_neg h
theorem xW_4 {T : Nat → ClassId} {z : Nat} {Z : XZ} {S : XS} {i : Nat} : xW T z Z S 4 i = none := rfl
theorem oW_n {T : Nat → ClassId} {b : Nat} {f : Nat → Int64} {k i : Nat} (h : k ≠ 10) : oW T b f k i = none := if_neg fun z => h z.1
theorem oD_n {T : Nat → ClassId} {b : Nat} {f : Nat → UInt64} {k i : Nat} (h : k ≠ 11) : oD T b f k i = none := if_neg fun z => h z.1
/-- all that the law has -/
def FW (T : Nat → ClassId) (z : Nat) (Z : XZ) (S : XS) (ad : Nat → Nat) (SM : MS) (b : Nat) (f : Nat → Int64) (d : Nat) (g : Nat → UInt64) : WD := fun k i =>
  if k = 4 then mW T ad SM 4 i else if k = 10 then oW T b f 10 i else if k = 11 then oD T d g 11 i else xW T z Z S k i
theorem jn_c {w R : WD} {k i : Nat} (h : w k i = none) : jn w R k i = R k i := by
  cases hr : R k i with
  | none => rw [jn_N hr]; exact h
  | some q => exact jn_R hr
/-- the four kinds of worlds apart: what a join of them says -/
theorem FW_go {T : Nat → ClassId} {z : Nat} {Z : XZ} {S : XS} {ad : Nat → Nat} {SM : MS} {b : Nat} {f : Nat → Int64} {d : Nat} {g : Nat → UInt64} {w : WD} (h4 : ∀ i, w 4 i = mW T ad SM 4 i) (h10 : ∀ i, w 10 i = oW T b f 10 i) (h11 : ∀ i, w 11 i = oD T d g 11 i) (hx : ∀ k i, k ≠ 4 → k ≠ 10 → k ≠ 11 → w k i = xW T z Z S k i) : w = FW T z Z S ad SM b f d g := by
  funext k i
  unfold FW
  by_cases c4 : k = 4
  · subst c4
    rw [if_pos rfl, h4]
  · rw [if_neg c4]
    by_cases c10 : k = 10
    · subst c10
      rw [if_pos rfl, h10]
    · rw [if_neg c10]
      by_cases c11 : k = 11
      · subst c11
        rw [if_pos rfl, h11]
      · rw [if_neg c11, hx k i c4 c10 c11]
section
variable {T : Nat → ClassId} {z : Nat} {Z : XZ} {S : XS} {ad : Nat → Nat} {SM : MS} {b : Nat} {f : Nat → Int64} {d : Nat} {g : Nat → UInt64}
/-- for a wrapper with longs -/
theorem FW_w : jn (jn (xW T z Z S) (oW T b f)) (jn (mW T ad SM) (oD T d g)) = FW T z Z S ad SM b f d g := by
  refine FW_go (fun i => ?_) (fun i => ?_) (fun i => ?_) (fun k i c4 c10 c11 => ?_)
  · rw [jn_c (by rw [jn_N (oW_n (by decide))]; exact xW_4), jn_N (oD_n (by decide))]
  · rw [jn_N (by rw [jn_N (oD_n (by decide))]; exact mW_4 (by decide)), jn_c xW_10]
  · rw [jn_c (by rw [jn_N (oW_n (by decide))]; exact xW_11), jn_c (mW_4 (by decide))]
  · rw [jn_N (by rw [jn_N (oD_n c11)]; exact mW_4 c4), jn_N (oW_n c10)]
theorem Dj_w : Dj (jn (xW T z Z S) (oW T b f)) (jn (mW T ad SM) (oD T d g)) := fun k i q h => by
  by_cases c : k = 4
  · subst c
    rw [jn_N (oW_n (by decide))]
    exact xW_4
  · rw [jn_c (mW_4 c)] at h
    by_cases c2 : k = 11
    · subst c2
      rw [jn_N (oW_n (by decide))]
      exact xW_11
    · rw [oD_n c2] at h
      cases h
/-- for a wrapper with doubles -/
theorem FW_d : jn (jn (xW T z Z S) (oD T d g)) (jn (mW T ad SM) (oW T b f)) = FW T z Z S ad SM b f d g := by
  refine FW_go (fun i => ?_) (fun i => ?_) (fun i => ?_) (fun k i c4 c10 c11 => ?_)
  · rw [jn_c (by rw [jn_N (oD_n (by decide))]; exact xW_4), jn_N (oW_n (by decide))]
  · rw [jn_c (by rw [jn_N (oD_n (by decide))]; exact xW_10), jn_c (mW_4 (by decide))]
  · rw [jn_N (by rw [jn_N (oW_n (by decide))]; exact mW_4 (by decide)), jn_c xW_11]
  · rw [jn_N (by rw [jn_N (oW_n c10)]; exact mW_4 c4), jn_N (oD_n c11)]
theorem Dj_d : Dj (jn (xW T z Z S) (oD T d g)) (jn (mW T ad SM) (oW T b f)) := fun k i q h => by
  by_cases c : k = 4
  · subst c
    rw [jn_N (oD_n (by decide))]
    exact xW_4
  · rw [jn_c (mW_4 c)] at h
    by_cases c2 : k = 10
    · subst c2
      rw [jn_N (oD_n (by decide))]
      exact xW_10
    · rw [oW_n c2] at h
      cases h
/-- for a call of the reference -/
theorem FW_m : jn (mW T ad SM) (jn (jn (xW T z Z S) (oW T b f)) (oD T d g)) = FW T z Z S ad SM b f d g := by
  refine FW_go (fun i => ?_) (fun i => ?_) (fun i => ?_) (fun k i c4 c10 c11 => ?_)
  · rw [jn_N (by rw [jn_N (oD_n (by decide)), jn_N (oW_n (by decide))]; exact xW_4)]
  · rw [jn_c (mW_4 (by decide)), jn_N (oD_n (by decide)), jn_c xW_10]
  · rw [jn_c (mW_4 (by decide)), jn_c (by rw [jn_N (oW_n (by decide))]; exact xW_11)]
  · rw [jn_c (mW_4 c4), jn_N (oD_n c11), jn_N (oW_n c10)]
theorem Dj_m : Dj (mW T ad SM) (jn (jn (xW T z Z S) (oW T b f)) (oD T d g)) := fun k i q h => by
  by_cases c : k = 4
  · subst c
    rw [jn_N (oD_n (by decide)), jn_N (oW_n (by decide)), xW_4] at h
    cases h
  · exact mW_4 c
/-- for a call of the class alone -/
theorem FW_x : jn (xW T z Z S) (jn (jn (mW T ad SM) (oW T b f)) (oD T d g)) = FW T z Z S ad SM b f d g := by
  refine FW_go (fun i => ?_) (fun i => ?_) (fun i => ?_) (fun k i c4 c10 c11 => ?_)
  · rw [jn_c xW_4, jn_N (oD_n (by decide)), jn_N (oW_n (by decide))]
  · rw [jn_c xW_10, jn_N (oD_n (by decide)), jn_c (mW_4 (by decide))]
  · rw [jn_c xW_11, jn_c (by rw [jn_N (oW_n (by decide))]; exact mW_4 (by decide))]
  · rw [jn_N (by rw [jn_N (oD_n c11), jn_N (oW_n c10)]; exact mW_4 c4)]
theorem Dj_x : Dj (xW T z Z S) (jn (jn (mW T ad SM) (oW T b f)) (oD T d g)) := fun k i q h => by
  by_cases c : k = 4
  · subst c
    exact xW_4
  · by_cases c2 : k = 10
    · subst c2
      exact xW_10
    · by_cases c3 : k = 11
      · subst c3
        exact xW_11
      · rw [jn_N (oD_n c3), jn_N (oW_n c2), mW_4 c] at h
        cases h
theorem FW_10 : FW T z Z S ad SM b f d g 10 0 = some (b, .inl (T 3, 1, .inr (.inl f))) := rfl
theorem FW_11 : FW T z Z S ad SM b f d g 11 0 = some (d, .inl (T 1, 1, .inr (.inr (.inr (.inl g))))) := rfl
end
