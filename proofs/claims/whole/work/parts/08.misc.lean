theorem zup_cg {α : Type} {f g : Nat → α} {k j : Nat} {v : α} (h : f j = g j) : va_up f k v j = va_up g k v j := by
  show (if j = k then v else f j) = (if j = k then v else g j)
  rw [h]
theorem zcgF {α : Type} {f g : Nat → α} {k : Nat} {v : α} (h : f = g) : va_up f k v = va_up g k v := by rw [h]
theorem zcgV {α : Type} {f : Nat → α} {k : Nat} {v w : α} (h : v = w) : va_up f k v = va_up f k w := by rw [h]
theorem zYm_mmin : zYmmin := ⟨zw_481, zw_14, zw_482⟩
theorem zYm_mmax : zYmmax := ⟨zw_923, zw_14, zw_924⟩
theorem zYm_mabs : zYmabs := ⟨zw_478, zw_14, zw_479⟩
theorem zYm_mminL : zYmminL := ⟨zw_1008, zw_14, zw_1009⟩
theorem zYm_mmaxL : zYmmaxL := ⟨zw_1005, zw_14, zw_1006⟩
