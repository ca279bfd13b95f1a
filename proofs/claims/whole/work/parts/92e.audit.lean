set_option maxHeartbeats 1000000
set_option maxRecDepth 100000
theorem lo_force {I : Nat → Nat → Int32} {J : Nat → Nat → Int64} {Rr : Nat → Nat → Option Nat} {D : zD} {q : Int32 × Int32 × Int32 × Int32} {k : Nat} (hk : k < 128) : (sM_force I J Rr D q).1 k = I k := by
  unfold sM_force
  dsimp only
  repeat rw [zup_n (by omega)]
theorem fi_force_10 {I : Nat → Nat → Int32} {J : Nat → Nat → Int64} {Rr : Nat → Nat → Option Nat} {D : zD} {r : Int32 × Int32 × Int32 × (Nat → Int32) × (Nat → Int32) × (Nat → Int32) × (Nat → Int32) × (Nat → Int32) × (Nat → Int32) × Int32 × (Nat → Int32) × (Nat → Int32) × (Nat → Int32) × (Nat → Int32) × (Nat → Int64) × (Nat → Nat → Int64) × (Nat → Int64) × (Nat → Int32) × (Nat → Int32) × (Nat → Int32) × (Nat → Int64) × (Nat → Int32)} {q : Nat} (hq : q < 8) : (sK_force I J Rr D r).1 (58 + 7 * q) 10 = (r.2.2.2.2.2.2.2.1) q := by
  unfold sK_force
  dsimp only
  repeat rw [zup_n (show 58 + 7 * q ≠ _ by omega)]
  rw [zR_s0 hq trivial]
  rfl
theorem fi_force_11 {I : Nat → Nat → Int32} {J : Nat → Nat → Int64} {Rr : Nat → Nat → Option Nat} {D : zD} {r : Int32 × Int32 × Int32 × (Nat → Int32) × (Nat → Int32) × (Nat → Int32) × (Nat → Int32) × (Nat → Int32) × (Nat → Int32) × Int32 × (Nat → Int32) × (Nat → Int32) × (Nat → Int32) × (Nat → Int32) × (Nat → Int64) × (Nat → Nat → Int64) × (Nat → Int64) × (Nat → Int32) × (Nat → Int32) × (Nat → Int32) × (Nat → Int64) × (Nat → Int32)} {q : Nat} (hq : q < 8) : (sK_force I J Rr D r).1 (58 + 7 * q) 11 = (r.2.2.2.2.2.2.2.2.1) q := by
  unfold sK_force
  dsimp only
  repeat rw [zup_n (show 58 + 7 * q ≠ _ by omega)]
  rw [zR_s0 hq trivial]
  rfl
theorem arm_force {n : Nat} (hn : n ≤ 1000) {I : Nat → Nat → Int32} {J : Nat → Nat → Int64} {Rr : Nat → Nat → Option Nat} {D : zD} (h : INV n I J Rr D) {a1 : Int32} : ∃ (r : Int32) (S1 S2 : zS), (∀ (l : Launch) (X : zX), zMi l yX11_force cX11_force 2 (some .int) ({ frames := 7, cells := 0, slots := 0, locals := 189 } : Room) X [.ref (X.1 + 0), .int a1] (I, J, Rr, D) r S1) ∧ (∀ (l : Launch) (X : zX), zMi l yX12_force cX12_force 3 (some .int) ({ frames := 2, cells := 0, slots := 0, locals := 45 } : Room) X [.ref (X.1 + 128), .int a1] S1 r S2) ∧ INVs (n + 1) S2 := by
  obtain ⟨c, Wf, hC, hH, hG, hT, hF, hA, hW, hU, hS, hM, hK⟩ := h
  refine arm_of (x := iK_force 5000 (mI a1) (mD D) (mI (I 0 5)) (mI (I 37 6)) (mA (I 38)) (mA (I 40)) (mA (I 42)) (mO (Rr 43)) (mI (I 44 8)) (mI (I 44 7)) (mA (I (48 + 2))) (mA (I (48 + 3))) (mA (I (48 + 4))) (mA (I (48 + 1))) (mA (fun q => I (58 + 7 * q) 10)) (mA (fun q => I (58 + 7 * q) 11)) (mI (I 5 12)) (mI (I 5 8)) (mI (I 5 11)) (mI (I 5 10)) (mI (I 5 9)) (mA (I 10)) (mA (I 9)) (mA (I 12)) (mA (I 30)) (mL (J 27)) (mLL (fun q => J (15 + q))) (mL (J 28)) (mA (I 31)) (mA (I 32)) (mA (I 29)) (mL (J 26)) (mA (I 6)) (mA (I 11)) (mA (I 8)) (mA (I 7))) (y := iM_force 5000 (mI a1) (mI (I 128 67)) (mI (I 128 73)) (mI (I 128 74)) (mI (I 128 76)) (mI (I 128 75)) (mA (I 176)) (mA (I 177)) (mA (I 165)) (mA (I 180))) (by rw [hA.2.2, hA.2.1, hS.1]; exact ag_force (Nat.le_refl 5000) (AuC_of hA.1 hW.1 hW.2 hK.2) hH hU ⟨hS.2.1, hS.2.2⟩ (Pp := fun r q => r.1 = q.1 ∧ IH n (mI (I 5 8)) (mI (I 5 9)) (mI (I 5 10)) (mI (I 5 12)) (r.2.2.2.2.2.2.2.2.2.1) (mA (I 6)) (mA (I 7)) (mA (I 8)) (r.2.2.2.2.2.2.2.2.2.2.2.1) (r.2.2.2.2.2.2.2.2.2.2.2.2.1) (r.2.2.2.2.2.2.2.2.2.2.2.2.2.2.2.2.2.2.1) ∧ AuI (mkA c (mA (I 38)) (mA (I 40)) (mA (I 39)) (mA (I 41)) (mA (I 42)) Wf (r.2.2.2.2.2.2.2.2.2.2.2.2.1)) (mI (I 5 12)) (r.2.2.2.2.2.2.2.2.2.1) (r.2.1) (r.2.2.1) (r.2.2.2.1) (r.2.2.2.2.1) (r.2.2.2.2.2.1) (r.2.2.2.2.2.2.1) (r.2.2.2.2.2.2.2.1) (r.2.2.2.2.2.2.2.2.1) (mLL (fun q => J (58 + 7 * q + 3))) (mLL (fun q => J (58 + 7 * q + 1))) (mLL (fun q => J (58 + 7 * q + 2))) (mLL (fun q => J (58 + 7 * q + 4))) (mLL (fun q => J (58 + 7 * q + 6))) (mLL (fun q => J (58 + 7 * q + 5)))) (fun _ _ _ _ _ _ _ _ _ _ _ _ _ _ _ _ _ _ _ _ _ _ _ _ _ x1 x2 => ⟨rfl, x1, x2⟩)) ?_
  intro rI qI e1 e2 hP
  obtain ⟨r, rfl, k1⟩ := k_K_force (J := J) (Rr := Rr) (D := D) e1
  obtain ⟨q, rfl, k2⟩ := k_M_force (I := (sK_force I J Rr D r).1) (J := (sK_force I J Rr D r).2.1) (Rr := (sK_force I J Rr D r).2.2.1) (D := (sK_force I J Rr D r).2.2.2) e2
  have hr : mI (r.1) = mI (q.1) := hP.1
  have hrq : q.1 = r.1 := (Int32.toInt_inj.mp hr).symm
  refine ⟨r.1, sK_force I J Rr D r, sM_force (sK_force I J Rr D r).1 (sK_force I J Rr D r).2.1 (sK_force I J Rr D r).2.2.1 (sK_force I J Rr D r).2.2.2 q, k1, fun l X => ?_, c, Wf, hC, IH_to hP.2.1 (by omega), hG, hT, hF, hA, hW, AuI_cg hP.2.2 (fun s hs => congrArg Int32.toInt ((congrFun (lo_force (by omega)) 10).trans (fi_force_10 hs))) (fun s hs => congrArg Int32.toInt ((congrFun (lo_force (by omega)) 11).trans (fi_force_11 hs))) (fun _ _ => rfl) (fun _ _ => rfl) (fun _ _ => rfl) (fun _ _ => rfl) (fun _ _ => rfl) (fun _ _ => rfl), hS, hM, hK⟩
  have k3 := k2 l X
  rw [hrq] at k3
  exact k3
theorem lo_roll {I : Nat → Nat → Int32} {J : Nat → Nat → Int64} {Rr : Nat → Nat → Option Nat} {D : zD} {q : Int64 × Int64 × Int64 × Int64 × Int32 × Int32 × Int32 × Int32 × Int64 × Int64 × Int64 × Int32 × Int32 × Int32 × (Nat → Int32) × (Nat → Int32) × (Nat → Int32) × (Nat → Int32) × (Nat → Int64) × (Nat → Int64)} {k : Nat} (hk : k < 128) : (sM_roll I J Rr D q).1 k = I k := by
  unfold sM_roll
  dsimp only
  repeat rw [zup_n (by omega)]
theorem lj_roll {I : Nat → Nat → Int32} {J : Nat → Nat → Int64} {Rr : Nat → Nat → Option Nat} {D : zD} {q : Int64 × Int64 × Int64 × Int64 × Int32 × Int32 × Int32 × Int32 × Int64 × Int64 × Int64 × Int32 × Int32 × Int32 × (Nat → Int32) × (Nat → Int32) × (Nat → Int32) × (Nat → Int32) × (Nat → Int64) × (Nat → Int64)} {k : Nat} (hk : k < 128) : (sM_roll I J Rr D q).2.1 k = J k := by
  unfold sM_roll
  dsimp only
  repeat rw [zup_n (by omega)]
theorem fi_roll_10 {I : Nat → Nat → Int32} {J : Nat → Nat → Int64} {Rr : Nat → Nat → Option Nat} {D : zD} {r : Int64 × Int32 × Int32 × Int64 × Int64 × Int32 × Int32 × (Nat → Int64) × (Nat → Int32) × (Nat → Int32) × (Nat → Int32) × (Nat → Int32) × (Nat → Int32) × (Nat → Int64) × (Nat → Int64) × (Nat → Int32) × (Nat → Int32) × (Nat → (Nat → Int64)) × (Nat → (Nat → Int64)) × (Nat → (Nat → Int64)) × (Nat → (Nat → Int64)) × (Nat → (Nat → Int64)) × (Nat → (Nat → Int64)) × Int32 × (Nat → Int32) × (Nat → Int32) × (Nat → Int32) × (Nat → Int32) × (Nat → Int64) × (Nat → Nat → Int64) × (Nat → Int64) × (Nat → Int32) × (Nat → Int32) × (Nat → Int32) × (Nat → Int64) × (Nat → Int32)} {q : Nat} (hq : q < 8) : (sK_roll I J Rr D r).1 (58 + 7 * q) 10 = (r.2.2.2.2.2.2.2.2.2.2.2.2.2.2.2.1) q := by
  unfold sK_roll
  dsimp only
  repeat rw [zup_n (show 58 + 7 * q ≠ _ by omega)]
  rw [zR_s0 hq trivial]
  rfl
theorem fi_roll_11 {I : Nat → Nat → Int32} {J : Nat → Nat → Int64} {Rr : Nat → Nat → Option Nat} {D : zD} {r : Int64 × Int32 × Int32 × Int64 × Int64 × Int32 × Int32 × (Nat → Int64) × (Nat → Int32) × (Nat → Int32) × (Nat → Int32) × (Nat → Int32) × (Nat → Int32) × (Nat → Int64) × (Nat → Int64) × (Nat → Int32) × (Nat → Int32) × (Nat → (Nat → Int64)) × (Nat → (Nat → Int64)) × (Nat → (Nat → Int64)) × (Nat → (Nat → Int64)) × (Nat → (Nat → Int64)) × (Nat → (Nat → Int64)) × Int32 × (Nat → Int32) × (Nat → Int32) × (Nat → Int32) × (Nat → Int32) × (Nat → Int64) × (Nat → Nat → Int64) × (Nat → Int64) × (Nat → Int32) × (Nat → Int32) × (Nat → Int32) × (Nat → Int64) × (Nat → Int32)} {q : Nat} (hq : q < 8) : (sK_roll I J Rr D r).1 (58 + 7 * q) 11 = (r.2.2.2.2.2.2.2.2.2.2.2.2.2.2.2.2.1) q := by
  unfold sK_roll
  dsimp only
  repeat rw [zup_n (show 58 + 7 * q ≠ _ by omega)]
  rw [zR_s0 hq trivial]
  rfl
theorem fj_roll_3 {I : Nat → Nat → Int32} {J : Nat → Nat → Int64} {Rr : Nat → Nat → Option Nat} {D : zD} {r : Int64 × Int32 × Int32 × Int64 × Int64 × Int32 × Int32 × (Nat → Int64) × (Nat → Int32) × (Nat → Int32) × (Nat → Int32) × (Nat → Int32) × (Nat → Int32) × (Nat → Int64) × (Nat → Int64) × (Nat → Int32) × (Nat → Int32) × (Nat → (Nat → Int64)) × (Nat → (Nat → Int64)) × (Nat → (Nat → Int64)) × (Nat → (Nat → Int64)) × (Nat → (Nat → Int64)) × (Nat → (Nat → Int64)) × Int32 × (Nat → Int32) × (Nat → Int32) × (Nat → Int32) × (Nat → Int32) × (Nat → Int64) × (Nat → Nat → Int64) × (Nat → Int64) × (Nat → Int32) × (Nat → Int32) × (Nat → Int32) × (Nat → Int64) × (Nat → Int32)} {q : Nat} (hq : q < 8) : (sK_roll I J Rr D r).2.1 (58 + 7 * q + 3) = (r.2.2.2.2.2.2.2.2.2.2.2.2.2.2.2.2.2.1) q := by
  unfold sK_roll
  dsimp only
  repeat rw [zup_n (by omega)]
  rw [zR_n (c := 6) (by omega)]
  rw [zR_n (c := 5) (by omega)]
  rw [zR_n (c := 4) (by omega)]
  rw [zR_s (c := 3) hq (by decide)]
theorem fj_roll_1 {I : Nat → Nat → Int32} {J : Nat → Nat → Int64} {Rr : Nat → Nat → Option Nat} {D : zD} {r : Int64 × Int32 × Int32 × Int64 × Int64 × Int32 × Int32 × (Nat → Int64) × (Nat → Int32) × (Nat → Int32) × (Nat → Int32) × (Nat → Int32) × (Nat → Int32) × (Nat → Int64) × (Nat → Int64) × (Nat → Int32) × (Nat → Int32) × (Nat → (Nat → Int64)) × (Nat → (Nat → Int64)) × (Nat → (Nat → Int64)) × (Nat → (Nat → Int64)) × (Nat → (Nat → Int64)) × (Nat → (Nat → Int64)) × Int32 × (Nat → Int32) × (Nat → Int32) × (Nat → Int32) × (Nat → Int32) × (Nat → Int64) × (Nat → Nat → Int64) × (Nat → Int64) × (Nat → Int32) × (Nat → Int32) × (Nat → Int32) × (Nat → Int64) × (Nat → Int32)} {q : Nat} (hq : q < 8) : (sK_roll I J Rr D r).2.1 (58 + 7 * q + 1) = (r.2.2.2.2.2.2.2.2.2.2.2.2.2.2.2.2.2.2.1) q := by
  unfold sK_roll
  dsimp only
  repeat rw [zup_n (by omega)]
  rw [zR_n (c := 6) (by omega)]
  rw [zR_n (c := 5) (by omega)]
  rw [zR_n (c := 4) (by omega)]
  rw [zR_n (c := 3) (by omega)]
  rw [zR_n (c := 2) (by omega)]
  rw [zR_s (c := 1) hq (by decide)]
theorem fj_roll_2 {I : Nat → Nat → Int32} {J : Nat → Nat → Int64} {Rr : Nat → Nat → Option Nat} {D : zD} {r : Int64 × Int32 × Int32 × Int64 × Int64 × Int32 × Int32 × (Nat → Int64) × (Nat → Int32) × (Nat → Int32) × (Nat → Int32) × (Nat → Int32) × (Nat → Int32) × (Nat → Int64) × (Nat → Int64) × (Nat → Int32) × (Nat → Int32) × (Nat → (Nat → Int64)) × (Nat → (Nat → Int64)) × (Nat → (Nat → Int64)) × (Nat → (Nat → Int64)) × (Nat → (Nat → Int64)) × (Nat → (Nat → Int64)) × Int32 × (Nat → Int32) × (Nat → Int32) × (Nat → Int32) × (Nat → Int32) × (Nat → Int64) × (Nat → Nat → Int64) × (Nat → Int64) × (Nat → Int32) × (Nat → Int32) × (Nat → Int32) × (Nat → Int64) × (Nat → Int32)} {q : Nat} (hq : q < 8) : (sK_roll I J Rr D r).2.1 (58 + 7 * q + 2) = (r.2.2.2.2.2.2.2.2.2.2.2.2.2.2.2.2.2.2.2.1) q := by
  unfold sK_roll
  dsimp only
  repeat rw [zup_n (by omega)]
  rw [zR_n (c := 6) (by omega)]
  rw [zR_n (c := 5) (by omega)]
  rw [zR_n (c := 4) (by omega)]
  rw [zR_n (c := 3) (by omega)]
  rw [zR_s (c := 2) hq (by decide)]
theorem fj_roll_4 {I : Nat → Nat → Int32} {J : Nat → Nat → Int64} {Rr : Nat → Nat → Option Nat} {D : zD} {r : Int64 × Int32 × Int32 × Int64 × Int64 × Int32 × Int32 × (Nat → Int64) × (Nat → Int32) × (Nat → Int32) × (Nat → Int32) × (Nat → Int32) × (Nat → Int32) × (Nat → Int64) × (Nat → Int64) × (Nat → Int32) × (Nat → Int32) × (Nat → (Nat → Int64)) × (Nat → (Nat → Int64)) × (Nat → (Nat → Int64)) × (Nat → (Nat → Int64)) × (Nat → (Nat → Int64)) × (Nat → (Nat → Int64)) × Int32 × (Nat → Int32) × (Nat → Int32) × (Nat → Int32) × (Nat → Int32) × (Nat → Int64) × (Nat → Nat → Int64) × (Nat → Int64) × (Nat → Int32) × (Nat → Int32) × (Nat → Int32) × (Nat → Int64) × (Nat → Int32)} {q : Nat} (hq : q < 8) : (sK_roll I J Rr D r).2.1 (58 + 7 * q + 4) = (r.2.2.2.2.2.2.2.2.2.2.2.2.2.2.2.2.2.2.2.2.1) q := by
  unfold sK_roll
  dsimp only
  repeat rw [zup_n (by omega)]
  rw [zR_n (c := 6) (by omega)]
  rw [zR_n (c := 5) (by omega)]
  rw [zR_s (c := 4) hq (by decide)]
theorem fj_roll_6 {I : Nat → Nat → Int32} {J : Nat → Nat → Int64} {Rr : Nat → Nat → Option Nat} {D : zD} {r : Int64 × Int32 × Int32 × Int64 × Int64 × Int32 × Int32 × (Nat → Int64) × (Nat → Int32) × (Nat → Int32) × (Nat → Int32) × (Nat → Int32) × (Nat → Int32) × (Nat → Int64) × (Nat → Int64) × (Nat → Int32) × (Nat → Int32) × (Nat → (Nat → Int64)) × (Nat → (Nat → Int64)) × (Nat → (Nat → Int64)) × (Nat → (Nat → Int64)) × (Nat → (Nat → Int64)) × (Nat → (Nat → Int64)) × Int32 × (Nat → Int32) × (Nat → Int32) × (Nat → Int32) × (Nat → Int32) × (Nat → Int64) × (Nat → Nat → Int64) × (Nat → Int64) × (Nat → Int32) × (Nat → Int32) × (Nat → Int32) × (Nat → Int64) × (Nat → Int32)} {q : Nat} (hq : q < 8) : (sK_roll I J Rr D r).2.1 (58 + 7 * q + 6) = (r.2.2.2.2.2.2.2.2.2.2.2.2.2.2.2.2.2.2.2.2.2.2.1) q := by
  unfold sK_roll
  dsimp only
  repeat rw [zup_n (by omega)]
  rw [zR_s (c := 6) hq (by decide)]
theorem fj_roll_5 {I : Nat → Nat → Int32} {J : Nat → Nat → Int64} {Rr : Nat → Nat → Option Nat} {D : zD} {r : Int64 × Int32 × Int32 × Int64 × Int64 × Int32 × Int32 × (Nat → Int64) × (Nat → Int32) × (Nat → Int32) × (Nat → Int32) × (Nat → Int32) × (Nat → Int32) × (Nat → Int64) × (Nat → Int64) × (Nat → Int32) × (Nat → Int32) × (Nat → (Nat → Int64)) × (Nat → (Nat → Int64)) × (Nat → (Nat → Int64)) × (Nat → (Nat → Int64)) × (Nat → (Nat → Int64)) × (Nat → (Nat → Int64)) × Int32 × (Nat → Int32) × (Nat → Int32) × (Nat → Int32) × (Nat → Int32) × (Nat → Int64) × (Nat → Nat → Int64) × (Nat → Int64) × (Nat → Int32) × (Nat → Int32) × (Nat → Int32) × (Nat → Int64) × (Nat → Int32)} {q : Nat} (hq : q < 8) : (sK_roll I J Rr D r).2.1 (58 + 7 * q + 5) = (r.2.2.2.2.2.2.2.2.2.2.2.2.2.2.2.2.2.2.2.2.2.1) q := by
  unfold sK_roll
  dsimp only
  repeat rw [zup_n (by omega)]
  rw [zR_n (c := 6) (by omega)]
  rw [zR_s (c := 5) hq (by decide)]
theorem arm_roll {n : Nat} (hn : n ≤ 1000) {I : Nat → Nat → Int32} {J : Nat → Nat → Int64} {Rr : Nat → Nat → Option Nat} {D : zD} (h : INV n I J Rr D) {a1 : Int32} {a2 : Int32} {a3 : Int32} : ∃ (r : Int64) (S1 S2 : zS), (∀ (l : Launch) (X : zX), zMl l yX11_roll cX11_roll 4 (some .long) ({ frames := 7, cells := 0, slots := 0, locals := 190 } : Room) X [.ref (X.1 + 0), .int a1, .int a2, .int a3] (I, J, Rr, D) r S1) ∧ (∀ (l : Launch) (X : zX), zMl l yX12_roll cX12_roll 6 (some .long) ({ frames := 6, cells := 0, slots := 0, locals := 151 } : Room) X [.ref (X.1 + 128), .int a1, .int a2, .int a3] S1 r S2) ∧ INVs (n + 1) S2 := by
  obtain ⟨c, Wf, hC, hH, hG, hT, hF, hA, hW, hU, hS, hM, hK⟩ := h
  refine arm_of (x := iK_roll 5000 (mI a1) (mI a2) (mI a3) (mD D) (mI (I 0 5)) (mI (I 37 6)) (mA (I 41)) (mA (I 38)) (mA (I 39)) (mA (I 40)) (mA (I 42)) (mO (Rr 43)) (mI (I 44 8)) (mI (I 44 7)) (mJ (J 46 3)) (mJ (J 46 4)) (mI (I 46 1)) (mI (I 46 2)) (mL (J 47)) (mA (I (48 + 2))) (mA (I (48 + 3))) (mA (I (48 + 4))) (mA (I (48 + 1))) (mA (fun q => I (58 + 7 * q) 14)) (mL (fun q => J (58 + 7 * q) 12)) (mL (fun q => J (58 + 7 * q) 13)) (mA (fun q => I (58 + 7 * q) 10)) (mA (fun q => I (58 + 7 * q) 11)) (mLL (fun q => J (58 + 7 * q + 3))) (mLL (fun q => J (58 + 7 * q + 1))) (mLL (fun q => J (58 + 7 * q + 2))) (mLL (fun q => J (58 + 7 * q + 4))) (mLL (fun q => J (58 + 7 * q + 5))) (mLL (fun q => J (58 + 7 * q + 6))) (mI (I 5 12)) (mI (I 5 8)) (mI (I 5 11)) (mI (I 5 10)) (mI (I 5 9)) (mA (I 10)) (mA (I 9)) (mA (I 12)) (mA (I 30)) (mL (J 27)) (mLL (fun q => J (15 + q))) (mL (J 28)) (mA (I 31)) (mA (I 32)) (mA (I 29)) (mL (J 26)) (mA (I 6)) (mA (I 11)) (mA (I 8)) (mA (I 7))) (y := iM_roll 5000 (mI a1) (mI a2) (mI a3) (mI (I 128 67)) (mJ (J 128 80)) (mI (I 128 73)) (mJ (J 128 63)) (mJ (J 128 79)) (mI (I 128 10)) (mI (I 128 83)) (mI (I 128 74)) (mI (I 128 12)) (mI (I 128 11)) (mI (I 128 76)) (mI (I 128 77)) (mI (I 128 65)) (mJ (J 128 64)) (mJ (J 128 82)) (mJ (J 128 81)) (mI (I 128 62)) (mI (I 128 66)) (mI (I 128 75)) (mA (I 176)) (mA (I 179)) (mA (I 178)) (mA (I 177)) (mA (I 140)) (mA (I 173)) (mA (I 139)) (mA (I 136)) (mA (I 137)) (mA (I 135)) (mA (I 168)) (mA (I 142)) (mA (I 167)) (mA (I 165)) (mA (I 141)) (mL (J 181)) (mA (I 138)) (mL (J 175)) (mA (I 169)) (mA (I 166)) (mA (I 171)) (mA (I 170)) (mA (I 172)) (mA (I 180))) (by rw [hG.1, hG.2.1, hG.2.2.1, hG.2.2.2.1, hG.2.2.2.2.1, hG.2.2.2.2.2, hA.2.2, hA.2.1, hS.1]; exact ag_roll (Nat.le_refl 5000) (AuC_of hA.1 hW.1 hW.2 hK.2) hH hU ⟨hS.2.1, hS.2.2⟩ (Pp := fun r q => r.1 = q.1 ∧ IH n (mI (I 5 8)) (mI (I 5 9)) (mI (I 5 10)) (mI (I 5 12)) (r.2.2.2.2.2.2.2.2.2.2.2.2.2.2.2.2.2.2.2.2.2.2.2.1) (mA (I 6)) (mA (I 7)) (mA (I 8)) (r.2.2.2.2.2.2.2.2.2.2.2.2.2.2.2.2.2.2.2.2.2.2.2.2.2.1) (r.2.2.2.2.2.2.2.2.2.2.2.2.2.2.2.2.2.2.2.2.2.2.2.2.2.2.1) (r.2.2.2.2.2.2.2.2.2.2.2.2.2.2.2.2.2.2.2.2.2.2.2.2.2.2.2.2.2.2.2.2.1) ∧ AuI (mkA c (mA (I 38)) (mA (I 40)) (mA (I 39)) (mA (I 41)) (mA (I 42)) Wf (r.2.2.2.2.2.2.2.2.2.2.2.2.2.2.2.2.2.2.2.2.2.2.2.2.2.2.1)) (mI (I 5 12)) (r.2.2.2.2.2.2.2.2.2.2.2.2.2.2.2.2.2.2.2.2.2.2.2.1) (r.2.1) (r.2.2.1) (r.2.2.2.2.2.2.2.2.1) (r.2.2.2.2.2.2.2.2.2.1) (r.2.2.2.2.2.2.2.2.2.2.1) (r.2.2.2.2.2.2.2.2.2.2.2.1) (r.2.2.2.2.2.2.2.2.2.2.2.2.2.2.2.1) (r.2.2.2.2.2.2.2.2.2.2.2.2.2.2.2.2.1) (r.2.2.2.2.2.2.2.2.2.2.2.2.2.2.2.2.2.1) (r.2.2.2.2.2.2.2.2.2.2.2.2.2.2.2.2.2.2.1) (r.2.2.2.2.2.2.2.2.2.2.2.2.2.2.2.2.2.2.2.1) (r.2.2.2.2.2.2.2.2.2.2.2.2.2.2.2.2.2.2.2.2.1) (r.2.2.2.2.2.2.2.2.2.2.2.2.2.2.2.2.2.2.2.2.2.2.1) (r.2.2.2.2.2.2.2.2.2.2.2.2.2.2.2.2.2.2.2.2.2.1)) (fun _ _ _ _ _ _ _ _ _ _ _ _ _ _ _ _ _ _ _ _ _ _ _ _ _ _ _ _ _ _ _ _ _ _ _ _ _ _ _ _ _ _ _ _ _ _ _ _ _ _ _ _ _ _ _ x1 x2 => ⟨rfl, x1, x2⟩)) ?_
  intro rI qI e1 e2 hP
  obtain ⟨r, rfl, k1⟩ := k_K_roll (J := J) (Rr := Rr) (D := D) e1
  obtain ⟨q, rfl, k2⟩ := k_M_roll (I := (sK_roll I J Rr D r).1) (J := (sK_roll I J Rr D r).2.1) (Rr := (sK_roll I J Rr D r).2.2.1) (D := (sK_roll I J Rr D r).2.2.2) e2
  have hr : mJ (r.1) = mJ (q.1) := hP.1
  have hrq : q.1 = r.1 := (Int64.toInt_inj.mp hr).symm
  refine ⟨r.1, sK_roll I J Rr D r, sM_roll (sK_roll I J Rr D r).1 (sK_roll I J Rr D r).2.1 (sK_roll I J Rr D r).2.2.1 (sK_roll I J Rr D r).2.2.2 q, k1, fun l X => ?_, c, Wf, hC, IH_to hP.2.1 (by omega), hG, hT, hF, hA, hW, AuI_cg hP.2.2 (fun s hs => congrArg Int32.toInt ((congrFun (lo_roll (by omega)) 10).trans (fi_roll_10 hs))) (fun s hs => congrArg Int32.toInt ((congrFun (lo_roll (by omega)) 11).trans (fi_roll_11 hs))) (fun s hs => funext fun a => congrArg Int64.toInt (congrFun ((lj_roll (by omega)).trans (fj_roll_3 hs)) a)) (fun s hs => funext fun a => congrArg Int64.toInt (congrFun ((lj_roll (by omega)).trans (fj_roll_1 hs)) a)) (fun s hs => funext fun a => congrArg Int64.toInt (congrFun ((lj_roll (by omega)).trans (fj_roll_2 hs)) a)) (fun s hs => funext fun a => congrArg Int64.toInt (congrFun ((lj_roll (by omega)).trans (fj_roll_4 hs)) a)) (fun s hs => funext fun a => congrArg Int64.toInt (congrFun ((lj_roll (by omega)).trans (fj_roll_6 hs)) a)) (fun s hs => funext fun a => congrArg Int64.toInt (congrFun ((lj_roll (by omega)).trans (fj_roll_5 hs)) a)), hS, hM, hK⟩
  have k3 := k2 l X
  rw [hrq] at k3
  exact k3
theorem lo_owed {I : Nat → Nat → Int32} {J : Nat → Nat → Int64} {Rr : Nat → Nat → Option Nat} {D : zD} {q : Int64 × Int64 × Int64 × Int64 × Int32 × Int32 × Int32 × Int32 × Int64 × Int64 × Int64 × Int32 × Int32 × Int32 × (Nat → Int32) × (Nat → Int32) × (Nat → Int32) × (Nat → Int32) × (Nat → Int64) × (Nat → Int64)} {k : Nat} (hk : k < 128) : (sM_owed I J Rr D q).1 k = I k := by
  unfold sM_owed
  dsimp only
  repeat rw [zup_n (by omega)]
theorem lj_owed {I : Nat → Nat → Int32} {J : Nat → Nat → Int64} {Rr : Nat → Nat → Option Nat} {D : zD} {q : Int64 × Int64 × Int64 × Int64 × Int32 × Int32 × Int32 × Int32 × Int64 × Int64 × Int64 × Int32 × Int32 × Int32 × (Nat → Int32) × (Nat → Int32) × (Nat → Int32) × (Nat → Int32) × (Nat → Int64) × (Nat → Int64)} {k : Nat} (hk : k < 128) : (sM_owed I J Rr D q).2.1 k = J k := by
  unfold sM_owed
  dsimp only
  repeat rw [zup_n (by omega)]
theorem fi_owed_10 {I : Nat → Nat → Int32} {J : Nat → Nat → Int64} {Rr : Nat → Nat → Option Nat} {D : zD} {r : Int64 × Int32 × Int32 × Int64 × Int64 × Int32 × Int32 × (Nat → Int64) × (Nat → Int32) × (Nat → Int32) × (Nat → Int32) × (Nat → Int32) × (Nat → Int32) × (Nat → Int64) × (Nat → Int64) × (Nat → Int32) × (Nat → Int32) × (Nat → (Nat → Int64)) × (Nat → (Nat → Int64)) × (Nat → (Nat → Int64)) × (Nat → (Nat → Int64)) × (Nat → (Nat → Int64)) × (Nat → (Nat → Int64)) × Int32 × (Nat → Int32) × (Nat → Int32) × (Nat → Int32) × (Nat → Int32) × (Nat → Int64) × (Nat → Nat → Int64) × (Nat → Int64) × (Nat → Int32) × (Nat → Int32) × (Nat → Int32) × (Nat → Int64) × (Nat → Int32)} {q : Nat} (hq : q < 8) : (sK_owed I J Rr D r).1 (58 + 7 * q) 10 = (r.2.2.2.2.2.2.2.2.2.2.2.2.2.2.2.1) q := by
  unfold sK_owed
  dsimp only
  repeat rw [zup_n (show 58 + 7 * q ≠ _ by omega)]
  rw [zR_s0 hq trivial]
  rfl
theorem fi_owed_11 {I : Nat → Nat → Int32} {J : Nat → Nat → Int64} {Rr : Nat → Nat → Option Nat} {D : zD} {r : Int64 × Int32 × Int32 × Int64 × Int64 × Int32 × Int32 × (Nat → Int64) × (Nat → Int32) × (Nat → Int32) × (Nat → Int32) × (Nat → Int32) × (Nat → Int32) × (Nat → Int64) × (Nat → Int64) × (Nat → Int32) × (Nat → Int32) × (Nat → (Nat → Int64)) × (Nat → (Nat → Int64)) × (Nat → (Nat → Int64)) × (Nat → (Nat → Int64)) × (Nat → (Nat → Int64)) × (Nat → (Nat → Int64)) × Int32 × (Nat → Int32) × (Nat → Int32) × (Nat → Int32) × (Nat → Int32) × (Nat → Int64) × (Nat → Nat → Int64) × (Nat → Int64) × (Nat → Int32) × (Nat → Int32) × (Nat → Int32) × (Nat → Int64) × (Nat → Int32)} {q : Nat} (hq : q < 8) : (sK_owed I J Rr D r).1 (58 + 7 * q) 11 = (r.2.2.2.2.2.2.2.2.2.2.2.2.2.2.2.2.1) q := by
  unfold sK_owed
  dsimp only
  repeat rw [zup_n (show 58 + 7 * q ≠ _ by omega)]
  rw [zR_s0 hq trivial]
  rfl
theorem fj_owed_3 {I : Nat → Nat → Int32} {J : Nat → Nat → Int64} {Rr : Nat → Nat → Option Nat} {D : zD} {r : Int64 × Int32 × Int32 × Int64 × Int64 × Int32 × Int32 × (Nat → Int64) × (Nat → Int32) × (Nat → Int32) × (Nat → Int32) × (Nat → Int32) × (Nat → Int32) × (Nat → Int64) × (Nat → Int64) × (Nat → Int32) × (Nat → Int32) × (Nat → (Nat → Int64)) × (Nat → (Nat → Int64)) × (Nat → (Nat → Int64)) × (Nat → (Nat → Int64)) × (Nat → (Nat → Int64)) × (Nat → (Nat → Int64)) × Int32 × (Nat → Int32) × (Nat → Int32) × (Nat → Int32) × (Nat → Int32) × (Nat → Int64) × (Nat → Nat → Int64) × (Nat → Int64) × (Nat → Int32) × (Nat → Int32) × (Nat → Int32) × (Nat → Int64) × (Nat → Int32)} {q : Nat} (hq : q < 8) : (sK_owed I J Rr D r).2.1 (58 + 7 * q + 3) = (r.2.2.2.2.2.2.2.2.2.2.2.2.2.2.2.2.2.1) q := by
  unfold sK_owed
  dsimp only
  repeat rw [zup_n (by omega)]
  rw [zR_n (c := 6) (by omega)]
  rw [zR_n (c := 5) (by omega)]
  rw [zR_n (c := 4) (by omega)]
  rw [zR_s (c := 3) hq (by decide)]
theorem fj_owed_1 {I : Nat → Nat → Int32} {J : Nat → Nat → Int64} {Rr : Nat → Nat → Option Nat} {D : zD} {r : Int64 × Int32 × Int32 × Int64 × Int64 × Int32 × Int32 × (Nat → Int64) × (Nat → Int32) × (Nat → Int32) × (Nat → Int32) × (Nat → Int32) × (Nat → Int32) × (Nat → Int64) × (Nat → Int64) × (Nat → Int32) × (Nat → Int32) × (Nat → (Nat → Int64)) × (Nat → (Nat → Int64)) × (Nat → (Nat → Int64)) × (Nat → (Nat → Int64)) × (Nat → (Nat → Int64)) × (Nat → (Nat → Int64)) × Int32 × (Nat → Int32) × (Nat → Int32) × (Nat → Int32) × (Nat → Int32) × (Nat → Int64) × (Nat → Nat → Int64) × (Nat → Int64) × (Nat → Int32) × (Nat → Int32) × (Nat → Int32) × (Nat → Int64) × (Nat → Int32)} {q : Nat} (hq : q < 8) : (sK_owed I J Rr D r).2.1 (58 + 7 * q + 1) = (r.2.2.2.2.2.2.2.2.2.2.2.2.2.2.2.2.2.2.1) q := by
  unfold sK_owed
  dsimp only
  repeat rw [zup_n (by omega)]
  rw [zR_n (c := 6) (by omega)]
  rw [zR_n (c := 5) (by omega)]
  rw [zR_n (c := 4) (by omega)]
  rw [zR_n (c := 3) (by omega)]
  rw [zR_n (c := 2) (by omega)]
  rw [zR_s (c := 1) hq (by decide)]
theorem fj_owed_2 {I : Nat → Nat → Int32} {J : Nat → Nat → Int64} {Rr : Nat → Nat → Option Nat} {D : zD} {r : Int64 × Int32 × Int32 × Int64 × Int64 × Int32 × Int32 × (Nat → Int64) × (Nat → Int32) × (Nat → Int32) × (Nat → Int32) × (Nat → Int32) × (Nat → Int32) × (Nat → Int64) × (Nat → Int64) × (Nat → Int32) × (Nat → Int32) × (Nat → (Nat → Int64)) × (Nat → (Nat → Int64)) × (Nat → (Nat → Int64)) × (Nat → (Nat → Int64)) × (Nat → (Nat → Int64)) × (Nat → (Nat → Int64)) × Int32 × (Nat → Int32) × (Nat → Int32) × (Nat → Int32) × (Nat → Int32) × (Nat → Int64) × (Nat → Nat → Int64) × (Nat → Int64) × (Nat → Int32) × (Nat → Int32) × (Nat → Int32) × (Nat → Int64) × (Nat → Int32)} {q : Nat} (hq : q < 8) : (sK_owed I J Rr D r).2.1 (58 + 7 * q + 2) = (r.2.2.2.2.2.2.2.2.2.2.2.2.2.2.2.2.2.2.2.1) q := by
  unfold sK_owed
  dsimp only
  repeat rw [zup_n (by omega)]
  rw [zR_n (c := 6) (by omega)]
  rw [zR_n (c := 5) (by omega)]
  rw [zR_n (c := 4) (by omega)]
  rw [zR_n (c := 3) (by omega)]
  rw [zR_s (c := 2) hq (by decide)]
theorem fj_owed_4 {I : Nat → Nat → Int32} {J : Nat → Nat → Int64} {Rr : Nat → Nat → Option Nat} {D : zD} {r : Int64 × Int32 × Int32 × Int64 × Int64 × Int32 × Int32 × (Nat → Int64) × (Nat → Int32) × (Nat → Int32) × (Nat → Int32) × (Nat → Int32) × (Nat → Int32) × (Nat → Int64) × (Nat → Int64) × (Nat → Int32) × (Nat → Int32) × (Nat → (Nat → Int64)) × (Nat → (Nat → Int64)) × (Nat → (Nat → Int64)) × (Nat → (Nat → Int64)) × (Nat → (Nat → Int64)) × (Nat → (Nat → Int64)) × Int32 × (Nat → Int32) × (Nat → Int32) × (Nat → Int32) × (Nat → Int32) × (Nat → Int64) × (Nat → Nat → Int64) × (Nat → Int64) × (Nat → Int32) × (Nat → Int32) × (Nat → Int32) × (Nat → Int64) × (Nat → Int32)} {q : Nat} (hq : q < 8) : (sK_owed I J Rr D r).2.1 (58 + 7 * q + 4) = (r.2.2.2.2.2.2.2.2.2.2.2.2.2.2.2.2.2.2.2.2.1) q := by
  unfold sK_owed
  dsimp only
  repeat rw [zup_n (by omega)]
  rw [zR_n (c := 6) (by omega)]
  rw [zR_n (c := 5) (by omega)]
  rw [zR_s (c := 4) hq (by decide)]
theorem fj_owed_6 {I : Nat → Nat → Int32} {J : Nat → Nat → Int64} {Rr : Nat → Nat → Option Nat} {D : zD} {r : Int64 × Int32 × Int32 × Int64 × Int64 × Int32 × Int32 × (Nat → Int64) × (Nat → Int32) × (Nat → Int32) × (Nat → Int32) × (Nat → Int32) × (Nat → Int32) × (Nat → Int64) × (Nat → Int64) × (Nat → Int32) × (Nat → Int32) × (Nat → (Nat → Int64)) × (Nat → (Nat → Int64)) × (Nat → (Nat → Int64)) × (Nat → (Nat → Int64)) × (Nat → (Nat → Int64)) × (Nat → (Nat → Int64)) × Int32 × (Nat → Int32) × (Nat → Int32) × (Nat → Int32) × (Nat → Int32) × (Nat → Int64) × (Nat → Nat → Int64) × (Nat → Int64) × (Nat → Int32) × (Nat → Int32) × (Nat → Int32) × (Nat → Int64) × (Nat → Int32)} {q : Nat} (hq : q < 8) : (sK_owed I J Rr D r).2.1 (58 + 7 * q + 6) = (r.2.2.2.2.2.2.2.2.2.2.2.2.2.2.2.2.2.2.2.2.2.2.1) q := by
  unfold sK_owed
  dsimp only
  repeat rw [zup_n (by omega)]
  rw [zR_s (c := 6) hq (by decide)]
theorem fj_owed_5 {I : Nat → Nat → Int32} {J : Nat → Nat → Int64} {Rr : Nat → Nat → Option Nat} {D : zD} {r : Int64 × Int32 × Int32 × Int64 × Int64 × Int32 × Int32 × (Nat → Int64) × (Nat → Int32) × (Nat → Int32) × (Nat → Int32) × (Nat → Int32) × (Nat → Int32) × (Nat → Int64) × (Nat → Int64) × (Nat → Int32) × (Nat → Int32) × (Nat → (Nat → Int64)) × (Nat → (Nat → Int64)) × (Nat → (Nat → Int64)) × (Nat → (Nat → Int64)) × (Nat → (Nat → Int64)) × (Nat → (Nat → Int64)) × Int32 × (Nat → Int32) × (Nat → Int32) × (Nat → Int32) × (Nat → Int32) × (Nat → Int64) × (Nat → Nat → Int64) × (Nat → Int64) × (Nat → Int32) × (Nat → Int32) × (Nat → Int32) × (Nat → Int64) × (Nat → Int32)} {q : Nat} (hq : q < 8) : (sK_owed I J Rr D r).2.1 (58 + 7 * q + 5) = (r.2.2.2.2.2.2.2.2.2.2.2.2.2.2.2.2.2.2.2.2.2.1) q := by
  unfold sK_owed
  dsimp only
  repeat rw [zup_n (by omega)]
  rw [zR_n (c := 6) (by omega)]
  rw [zR_s (c := 5) hq (by decide)]
theorem arm_owed {n : Nat} (hn : n ≤ 1000) {I : Nat → Nat → Int32} {J : Nat → Nat → Int64} {Rr : Nat → Nat → Option Nat} {D : zD} (h : INV n I J Rr D) {a1 : Int32} : ∃ (r : Int64) (S1 S2 : zS), (∀ (l : Launch) (X : zX), zMl l yX11_owed cX11_owed 2 (some .long) ({ frames := 7, cells := 0, slots := 0, locals := 191 } : Room) X [.ref (X.1 + 0), .int a1] (I, J, Rr, D) r S1) ∧ (∀ (l : Launch) (X : zX), zMl l yX12_owed cX12_owed 7 (some .long) ({ frames := 6, cells := 0, slots := 0, locals := 151 } : Room) X [.ref (X.1 + 128), .int a1] S1 r S2) ∧ INVs (n + 1) S2 := by
  obtain ⟨c, Wf, hC, hH, hG, hT, hF, hA, hW, hU, hS, hM, hK⟩ := h
  refine arm_of (x := iK_owed 5000 (mI a1) (mD D) (mI (I 0 5)) (mI (I 37 6)) (mA (I 41)) (mA (I 38)) (mA (I 39)) (mA (I 40)) (mA (I 42)) (mO (Rr 43)) (mI (I 44 8)) (mI (I 44 7)) (mJ (J 46 3)) (mJ (J 46 4)) (mI (I 46 1)) (mI (I 46 2)) (mL (J 47)) (mA (I (48 + 2))) (mA (I (48 + 3))) (mA (I (48 + 4))) (mA (I (48 + 1))) (mA (fun q => I (58 + 7 * q) 14)) (mL (fun q => J (58 + 7 * q) 12)) (mL (fun q => J (58 + 7 * q) 13)) (mA (fun q => I (58 + 7 * q) 10)) (mA (fun q => I (58 + 7 * q) 11)) (mLL (fun q => J (58 + 7 * q + 3))) (mLL (fun q => J (58 + 7 * q + 1))) (mLL (fun q => J (58 + 7 * q + 2))) (mLL (fun q => J (58 + 7 * q + 4))) (mLL (fun q => J (58 + 7 * q + 5))) (mLL (fun q => J (58 + 7 * q + 6))) (mI (I 5 12)) (mI (I 5 8)) (mI (I 5 11)) (mI (I 5 10)) (mI (I 5 9)) (mA (I 10)) (mA (I 9)) (mA (I 12)) (mA (I 30)) (mL (J 27)) (mLL (fun q => J (15 + q))) (mL (J 28)) (mA (I 31)) (mA (I 32)) (mA (I 29)) (mL (J 26)) (mA (I 6)) (mA (I 11)) (mA (I 8)) (mA (I 7))) (y := iM_owed 5000 (mI a1) (mI (I 128 67)) (mJ (J 128 80)) (mI (I 128 73)) (mJ (J 128 63)) (mJ (J 128 79)) (mI (I 128 10)) (mI (I 128 83)) (mI (I 128 74)) (mI (I 128 12)) (mI (I 128 11)) (mI (I 128 76)) (mI (I 128 77)) (mI (I 128 65)) (mJ (J 128 64)) (mJ (J 128 82)) (mJ (J 128 81)) (mI (I 128 62)) (mI (I 128 66)) (mI (I 128 75)) (mA (I 176)) (mA (I 179)) (mA (I 178)) (mA (I 177)) (mA (I 140)) (mA (I 173)) (mA (I 139)) (mA (I 136)) (mA (I 137)) (mA (I 135)) (mA (I 168)) (mA (I 142)) (mA (I 167)) (mA (I 165)) (mA (I 141)) (mL (J 181)) (mA (I 138)) (mL (J 175)) (mA (I 169)) (mA (I 166)) (mA (I 171)) (mA (I 170)) (mA (I 172)) (mA (I 180))) (by rw [hG.1, hG.2.1, hG.2.2.1, hG.2.2.2.1, hG.2.2.2.2.1, hG.2.2.2.2.2, hA.2.2, hA.2.1, hS.1]; exact ag_owed (Nat.le_refl 5000) (AuC_of hA.1 hW.1 hW.2 hK.2) hH hU ⟨hS.2.1, hS.2.2⟩ (Pp := fun r q => r.1 = q.1 ∧ IH n (mI (I 5 8)) (mI (I 5 9)) (mI (I 5 10)) (mI (I 5 12)) (r.2.2.2.2.2.2.2.2.2.2.2.2.2.2.2.2.2.2.2.2.2.2.2.1) (mA (I 6)) (mA (I 7)) (mA (I 8)) (r.2.2.2.2.2.2.2.2.2.2.2.2.2.2.2.2.2.2.2.2.2.2.2.2.2.1) (r.2.2.2.2.2.2.2.2.2.2.2.2.2.2.2.2.2.2.2.2.2.2.2.2.2.2.1) (r.2.2.2.2.2.2.2.2.2.2.2.2.2.2.2.2.2.2.2.2.2.2.2.2.2.2.2.2.2.2.2.2.1) ∧ AuI (mkA c (mA (I 38)) (mA (I 40)) (mA (I 39)) (mA (I 41)) (mA (I 42)) Wf (r.2.2.2.2.2.2.2.2.2.2.2.2.2.2.2.2.2.2.2.2.2.2.2.2.2.2.1)) (mI (I 5 12)) (r.2.2.2.2.2.2.2.2.2.2.2.2.2.2.2.2.2.2.2.2.2.2.2.1) (r.2.1) (r.2.2.1) (r.2.2.2.2.2.2.2.2.1) (r.2.2.2.2.2.2.2.2.2.1) (r.2.2.2.2.2.2.2.2.2.2.1) (r.2.2.2.2.2.2.2.2.2.2.2.1) (r.2.2.2.2.2.2.2.2.2.2.2.2.2.2.2.1) (r.2.2.2.2.2.2.2.2.2.2.2.2.2.2.2.2.1) (r.2.2.2.2.2.2.2.2.2.2.2.2.2.2.2.2.2.1) (r.2.2.2.2.2.2.2.2.2.2.2.2.2.2.2.2.2.2.1) (r.2.2.2.2.2.2.2.2.2.2.2.2.2.2.2.2.2.2.2.1) (r.2.2.2.2.2.2.2.2.2.2.2.2.2.2.2.2.2.2.2.2.1) (r.2.2.2.2.2.2.2.2.2.2.2.2.2.2.2.2.2.2.2.2.2.2.1) (r.2.2.2.2.2.2.2.2.2.2.2.2.2.2.2.2.2.2.2.2.2.1)) (fun _ _ _ _ _ _ _ _ _ _ _ _ _ _ _ _ _ _ _ _ _ _ _ _ _ _ _ _ _ _ _ _ _ _ _ _ _ _ _ _ _ _ _ _ _ _ _ _ _ _ _ _ _ _ _ x1 x2 => ⟨rfl, x1, x2⟩)) ?_
  intro rI qI e1 e2 hP
  obtain ⟨r, rfl, k1⟩ := k_K_owed (J := J) (Rr := Rr) (D := D) e1
  obtain ⟨q, rfl, k2⟩ := k_M_owed (I := (sK_owed I J Rr D r).1) (J := (sK_owed I J Rr D r).2.1) (Rr := (sK_owed I J Rr D r).2.2.1) (D := (sK_owed I J Rr D r).2.2.2) e2
  have hr : mJ (r.1) = mJ (q.1) := hP.1
  have hrq : q.1 = r.1 := (Int64.toInt_inj.mp hr).symm
  refine ⟨r.1, sK_owed I J Rr D r, sM_owed (sK_owed I J Rr D r).1 (sK_owed I J Rr D r).2.1 (sK_owed I J Rr D r).2.2.1 (sK_owed I J Rr D r).2.2.2 q, k1, fun l X => ?_, c, Wf, hC, IH_to hP.2.1 (by omega), hG, hT, hF, hA, hW, AuI_cg hP.2.2 (fun s hs => congrArg Int32.toInt ((congrFun (lo_owed (by omega)) 10).trans (fi_owed_10 hs))) (fun s hs => congrArg Int32.toInt ((congrFun (lo_owed (by omega)) 11).trans (fi_owed_11 hs))) (fun s hs => funext fun a => congrArg Int64.toInt (congrFun ((lj_owed (by omega)).trans (fj_owed_3 hs)) a)) (fun s hs => funext fun a => congrArg Int64.toInt (congrFun ((lj_owed (by omega)).trans (fj_owed_1 hs)) a)) (fun s hs => funext fun a => congrArg Int64.toInt (congrFun ((lj_owed (by omega)).trans (fj_owed_2 hs)) a)) (fun s hs => funext fun a => congrArg Int64.toInt (congrFun ((lj_owed (by omega)).trans (fj_owed_4 hs)) a)) (fun s hs => funext fun a => congrArg Int64.toInt (congrFun ((lj_owed (by omega)).trans (fj_owed_6 hs)) a)) (fun s hs => funext fun a => congrArg Int64.toInt (congrFun ((lj_owed (by omega)).trans (fj_owed_5 hs)) a)), hS, hM, hK⟩
  have k3 := k2 l X
  rw [hrq] at k3
  exact k3
