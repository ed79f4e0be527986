/-- which exception, as a number -/
def cdL (a b : String) (E : String) : Int32 := if E = a then 1 else if E = b then 2 else 3
theorem cdL_1 {a b : String} : cdL a b a = 1 := if_pos rfl
theorem cdL_2 {a b : String} (h : ¬ b = a) : cdL a b b = 2 := (if_neg h).trans (if_pos rfl)
theorem cdL_3 {a b c : String} (h1 : ¬ c = a) (h2 : ¬ c = b) : cdL a b c = 3 := (if_neg h1).trans (if_neg h2)
theorem tE_needRange {Z : XZ} {S : XS} {x a b : Int32} {E : String} (h : X_needRange Z S x a b = some E) : E = EIAE := by
  unfold X_needRange at h
  (repeat' split at h) <;> first | (cases h; rfl) | cases h
theorem tE_needGoods {Z : XZ} {S : XS} {x : Int32} {E : String} (h : X_needGoods Z S x = some E) : E = EIOB := by
  unfold X_needGoods at h
  (repeat' split at h) <;> first | (cases h; rfl) | cases h
theorem tE_pieceNumbered {Z : XZ} {S : XS} {x : Int32} {E : String} (h : X_pieceNumbered Z S x = some E) : E = EIOB := by
  unfold X_pieceNumbered at h
  (repeat' split at h) <;> first | (cases h; rfl) | cases h
theorem tE_vehicleNumbered {Z : XZ} {S : XS} {x : Int32} {E : String} (h : X_vehicleNumbered Z S x = some E) : E = EIOB := by
  unfold X_vehicleNumbered at h
  (repeat' split at h) <;> first | (cases h; rfl) | cases h
