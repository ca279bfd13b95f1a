set_option maxHeartbeats 4000000
set_option maxRecDepth 100000
theorem i0_c (X : zX) : ivC (fun k => eI (e9 X k)) := by
  have z2 : ∀ p, mA (eI (e9 X 2)) p = 0 := fun _ => rfl
  have z3 : ∀ p, mA (eI (e9 X 130)) p = 0 := fun _ => rfl
  have z4 : eI (e9 X 129) = (upd (upd (upd (upd (upd (upd (upd (upd (upd (upd (upd (upd (fun _ => 0) 0 6) 1 2) 2 10) 3 2) 4 10) 5 2) 6 5) 7 5) 8 2) 9 5) 10 2) 11 5) := rfl
  refine ⟨fun p _ => ?_, fun p _ => (z3 p).trans (z2 p).symm, ?_⟩
  · rw [z2]
    omega
  · show ∀ k, k < 12 → mA (eI (e9 X 129)) k = cR k
    rw [z4]
    decide
theorem i0_h (X : zX) : ivH 0 (fun k => eI (e9 X k)) := by
  have a1 : mI (eI (e9 X 5) 8) = 3 := rfl
  have a2 : mI (eI (e9 X 5) 9) = 8 := rfl
  have a3 : mI (eI (e9 X 5) 10) = 20 := rfl
  have a4 : mI (eI (e9 X 5) 12) = 0 := rfl
  have a5 : mI (eI (e9 X 5) 11) = 0 := rfl
  have z6 : ∀ p, mA (eI (e9 X 6)) p = 0 := fun _ => rfl
  have z7 : ∀ p, mA (eI (e9 X 7)) p = 0 := fun _ => rfl
  have z8 : ∀ p, mA (eI (e9 X 8)) p = 0 := fun _ => rfl
  have z9 : ∀ p, mA (eI (e9 X 9)) p = -2 := fun _ => rfl
  unfold ivH
  rw [a1, a2, a3, a4, a5]
  refine ⟨⟨by omega, by omega, fun h _ => ?_, fun q _ => ?_⟩, by omega, fun i j _ _ => Or.inl (z9 _), Or.inl rfl, Int.le_refl 0, Int.le_refl 0⟩
  · rw [z8]
    omega
  · rw [z6, z7]
    omega
theorem i0_g (X : zX) : ivG (fun k => eI (e9 X k)) := ⟨rfl, rfl, rfl, rfl, rfl, rfl⟩
theorem i0_t (X : zX) : ivT (fun k => eI (e9 X k)) := by
  have z1 : mI (eI (e9 X 33) 3) = 0 := rfl
  have z2 : ∀ p, mA (eI (e9 X 34)) p = 0 := fun _ => rfl
  refine ⟨⟨?_, fun k => ?_⟩, rfl, rfl⟩
  · show 0 ≤ mI (eI (e9 X 33) 3) ∧ mI (eI (e9 X 33) 3) ≤ 600
    rw [z1]
    omega
  · show 0 ≤ mA (eI (e9 X 34)) k ∧ mA (eI (e9 X 34)) k ≤ 255
    rw [z2]
    omega
theorem i0_f (X : zX) : ivF (fun k => eI (e9 X k)) := ⟨rfl, rfl⟩
theorem i0_a (X : zX) : ivA 0 (fun k => eI (e9 X k)) := by
  refine ⟨⟨by omega, fun k h1 h2 => absurd h1 (by omega), fun k _ => rfl, rfl, ?_⟩, rfl, rfl⟩
  have z1 : mI (eI (e9 X 37) 7) = 0 := rfl
  show mI (eI (e9 X 37) 7) ≤ 60
  rw [z1]
  omega
theorem i0_w (X : zX) : ivW 0 (fun _ => []) (fun k => eI (e9 X k)) (fun _ _ => none) eD := ⟨fun k h1 h2 => absurd h1 (by omega), rfl⟩
theorem i0_u (X : zX) : ivU 0 (fun _ => []) (fun k => eI (e9 X k)) (fun k => eJ (e9 X k)) := by
  have z1 : mI (eI (e9 X 44) 8) = -1 := rfl
  have z2 : mI (eI (e9 X 5) 12) = 0 := rfl
  refine ⟨?_, fun h => ?_⟩
  · show mI (eI (e9 X 44) 8) ≤ mI (eI (e9 X 5) 12)
    rw [z1, z2]
    omega
  · have h2 : mI (eI (e9 X 44) 8) = mI (eI (e9 X 5) 12) := h
    rw [z1, z2] at h2
    exact absurd h2 (by decide)
theorem i0_s (X : zX) : ivS 0 (fun k => eI (e9 X k)) := by
  have z1 : mI (eI (e9 X 0) 5) = -1 := rfl
  refine ⟨rfl, ?_, ?_⟩
  · show -1 ≤ mI (eI (e9 X 0) 5)
    rw [z1]
    omega
  · show mI (eI (e9 X 0) 5) ≤ ((0 : Nat) : Int)
    rw [z1]
    omega
theorem i0_m (X : zX) : ivM (fun k => eI (e9 X k)) := rfl
theorem i0_w0 (X : zX) : ∀ i, i < kS_len 0 → mA (eI (e9 X 144)) i = jch 0 i := by
  have z : eI (e9 X 144) = (upd (upd (upd (upd (fun _ => 0) 0 102) 1 97) 2 114) 3 109) := rfl
  rw [z]
  decide +kernel
theorem i0_w1 (X : zX) : ∀ i, i < kS_len 1 → mA (eI (e9 X 158)) i = jch 1 i := by
  have z : eI (e9 X 158) = (upd (upd (upd (upd (upd (upd (fun _ => 0) 0 112) 1 111) 2 117) 3 110) 4 100) 5 115) := rfl
  rw [z]
  decide +kernel
theorem i0_w2 (X : zX) : ∀ i, i < kS_len 2 → mA (eI (e9 X 157)) i = jch 2 i := by
  have z : eI (e9 X 157) = (upd (upd (upd (upd (upd (upd (upd (upd (upd (fun _ => 0) 0 115) 1 104) 2 105) 3 108) 4 108) 5 105) 6 110) 7 103) 8 115) := rfl
  rw [z]
  decide +kernel
theorem i0_w3 (X : zX) : ∀ i, i < kS_len 3 → mA (eI (e9 X 156)) i = jch 3 i := by
  have z : eI (e9 X 156) = (upd (upd (upd (upd (upd (fun _ => 0) 0 112) 1 101) 2 110) 3 99) 4 101) := rfl
  rw [z]
  decide +kernel
theorem i0_w4 (X : zX) : ∀ i, i < kS_len 4 → mA (eI (e9 X 163)) i = jch 4 i := by
  have z : eI (e9 X 163) = (upd (upd (upd (fun _ => 0) 0 109) 1 105) 2 110) := rfl
  rw [z]
  decide +kernel
theorem i0_w5 (X : zX) : ∀ i, i < kS_len 5 → mA (eI (e9 X 164)) i = jch 5 i := by
  have z : eI (e9 X 164) = (upd (upd (upd (fun _ => 0) 0 109) 1 97) 2 120) := rfl
  rw [z]
  decide +kernel
theorem i0_w6 (X : zX) : ∀ i, i < kS_len 6 → mA (eI (e9 X 159)) i = jch 6 i := by
  have z : eI (e9 X 159) = (upd (upd (upd (upd (fun _ => 0) 0 116) 1 101) 2 114) 3 109) := rfl
  rw [z]
  decide +kernel
theorem i0_w7 (X : zX) : ∀ i, i < kS_len 7 → mA (eI (e9 X 160)) i = jch 7 i := by
  have z : eI (e9 X 160) = (upd (upd (upd (upd (fun _ => 0) 0 121) 1 101) 2 97) 3 114) := rfl
  rw [z]
  decide +kernel
theorem i0_w8 (X : zX) : ∀ i, i < kS_len 8 → mA (eI (e9 X 161)) i = jch 8 i := by
  have z : eI (e9 X 161) = (upd (upd (upd (upd (fun _ => 0) 0 100) 1 101) 2 98) 3 116) := rfl
  rw [z]
  decide +kernel
theorem i0_w9 (X : zX) : ∀ i, i < kS_len 9 → mA (eI (e9 X 162)) i = jch 9 i := by
  have z : eI (e9 X 162) = (upd (upd (upd (upd (fun _ => 0) 0 112) 1 97) 2 105) 3 100) := rfl
  rw [z]
  decide +kernel
theorem i0_w10 (X : zX) : ∀ i, i < kS_len 10 → mA (eI (e9 X 145)) i = jch 10 i := by
  have z : eI (e9 X 145) = (upd (upd (upd (upd (upd (upd (upd (upd (fun _ => 0) 0 98) 1 108) 2 97) 3 110) 4 99) 5 104) 6 101) 7 100) := rfl
  rw [z]
  decide +kernel
theorem i0_w11 (X : zX) : ∀ i, i < kS_len 11 → mA (eI (e9 X 146)) i = jch 11 i := by
  have z : eI (e9 X 146) = (upd (upd (upd (upd (upd (fun _ => 0) 0 97) 1 108) 2 108) 3 111) 4 119) := rfl
  rw [z]
  decide +kernel
theorem i0_w12 (X : zX) : ∀ i, i < kS_len 12 → mA (eI (e9 X 147)) i = jch 12 i := by
  have z : eI (e9 X 147) = (upd (upd (upd (upd (upd (upd (fun _ => 0) 0 112) 1 97) 2 114) 3 100) 4 111) 5 110) := rfl
  rw [z]
  decide +kernel
theorem i0_w13 (X : zX) : ∀ i, i < kS_len 13 → mA (eI (e9 X 149)) i = jch 13 i := by
  have z : eI (e9 X 149) = (upd (upd (fun _ => 0) 0 105) 1 110) := rfl
  rw [z]
  decide +kernel
theorem i0_w14 (X : zX) : ∀ i, i < kS_len 14 → mA (eI (e9 X 148)) i = jch 14 i := by
  have z : eI (e9 X 148) = (upd (upd (upd (upd (upd (fun _ => 0) 0 115) 1 112) 2 108) 3 105) 4 116) := rfl
  rw [z]
  decide +kernel
theorem i0_w15 (X : zX) : ∀ i, i < kS_len 15 → mA (eI (e9 X 150)) i = jch 15 i := by
  have z : eI (e9 X 150) = (upd (upd (upd (fun _ => 0) 0 102) 1 111) 2 114) := rfl
  rw [z]
  decide +kernel
theorem i0_w16 (X : zX) : ∀ i, i < kS_len 16 → mA (eI (e9 X 153)) i = jch 16 i := by
  have z : eI (e9 X 153) = (upd (upd (upd (fun _ => 0) 0 110) 1 111) 2 116) := rfl
  rw [z]
  decide +kernel
theorem i0_w17 (X : zX) : ∀ i, i < kS_len 17 → mA (eI (e9 X 154)) i = jch 17 i := by
  have z : eI (e9 X 154) = (upd (upd (upd (fun _ => 0) 0 97) 1 108) 2 108) := rfl
  rw [z]
  decide +kernel
theorem i0_w18 (X : zX) : ∀ i, i < kS_len 18 → mA (eI (e9 X 155)) i = jch 18 i := by
  have z : eI (e9 X 155) = (upd (upd (upd (upd (upd (fun _ => 0) 0 115) 1 104) 2 105) 3 114) 4 101) := rfl
  rw [z]
  decide +kernel
theorem i0_w19 (X : zX) : ∀ i, i < kS_len 19 → mA (eI (e9 X 152)) i = jch 19 i := by
  have z : eI (e9 X 152) = (upd (upd (upd (fun _ => 0) 0 97) 1 110) 2 100) := rfl
  rw [z]
  decide +kernel
theorem i0_w20 (X : zX) : ∀ i, i < kS_len 20 → mA (eI (e9 X 151)) i = jch 20 i := by
  have z : eI (e9 X 151) = (upd (upd (fun _ => 0) 0 111) 1 114) := rfl
  rw [z]
  decide +kernel
theorem i0_k (X : zX) : ivK (fun k => eI (e9 X k)) := by
  refine ⟨fun a ha => ?_, ?_⟩
  · match a, ha with
    | 0, _ => exact i0_w0 X
    | 1, _ => exact i0_w1 X
    | 2, _ => exact i0_w2 X
    | 3, _ => exact i0_w3 X
    | 4, _ => exact i0_w4 X
    | 5, _ => exact i0_w5 X
    | 6, _ => exact i0_w6 X
    | 7, _ => exact i0_w7 X
    | 8, _ => exact i0_w8 X
    | 9, _ => exact i0_w9 X
    | 10, _ => exact i0_w10 X
    | 11, _ => exact i0_w11 X
    | 12, _ => exact i0_w12 X
    | 13, _ => exact i0_w13 X
    | 14, _ => exact i0_w14 X
    | 15, _ => exact i0_w15 X
    | 16, _ => exact i0_w16 X
    | 17, _ => exact i0_w17 X
    | 18, _ => exact i0_w18 X
    | 19, _ => exact i0_w19 X
    | 20, _ => exact i0_w20 X
    | a + 21, ha => exact absurd ha (by omega)
  · have z : eI (e9 X 138) = (upd (upd (upd (upd (upd (upd (fun _ => 0) 0 1) 1 12) 2 240) 3 4800) 4 24000) 5 240000) := rfl
    show ∀ n, n < 6 → mA (eI (e9 X 138)) n = jc2.getD n 0
    rw [z]
    decide
theorem inv0 (X : zX) : INVs 0 (fun k => eI (e9 X k), fun k => eJ (e9 X k), fun _ _ => none, eD) := ⟨0, fun _ => [], i0_c X, i0_h X, i0_g X, i0_t X, i0_f X, i0_a X, i0_w X, i0_u X, i0_s X, i0_m X, i0_k X⟩
