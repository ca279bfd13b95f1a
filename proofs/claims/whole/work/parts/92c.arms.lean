set_option maxHeartbeats 1000000
set_option maxRecDepth 100000
theorem arm_pays {n : Nat} (hn : n ≤ 1000) {I : Nat → Nat → Int32} {J : Nat → Nat → Int64} {Rr : Nat → Nat → Option Nat} {D : zD} (h : INV n I J Rr D) {a1 : Int32} {a2 : Int32} {a3 : Int32} : ∃ (r : Int32) (S1 S2 : zS), (∀ (l : Launch) (X : zX), zMi l yX11_pays cX11_pays 5 (some .int) ({ frames := 3, cells := 0, slots := 0, locals := 68 } : Room) X [.ref (X.1 + 0), .int a1, .int a2, .int a3] (I, J, Rr, D) r S1) ∧ (∀ (l : Launch) (X : zX), zMi l yX12_pays cX12_pays 4 (some .int) ({ frames := 3, cells := 0, slots := 0, locals := 69 } : Room) X [.ref (X.1 + 128), .int a1, .int a2, .int a3] S1 r S2) ∧ INVs (n + 1) S2 := by
  obtain ⟨c, Wf, hC, hH, hG, hT, hF, hA, hW, hU, hS, hM, hK⟩ := h
  refine arm_of (x := iK_pays (mI a1) (mI a2) (mI a3) (mI (I 37 6)) (mI (I 37 7)) (mA (I 41)) (mA (I 38)) (mA (I 39)) (mA (I 40))) (y := iM_pays 5000 (mI a1) (mI a2) (mI a3) (mI (I 128 67)) (mA (I 176)) (mA (I 179)) (mA (I 178)) (mA (I 177)) (mA (I 180))) (by rw [hA.2.2, hA.2.1]; exact ag_pays (Nat.le_refl 5000) hA.1) ?_
  intro rI qI e1 e2 hP
  obtain ⟨r, rfl, k1⟩ := k_K_pays (J := J) (Rr := Rr) (D := D) e1
  obtain ⟨q, rfl, k2⟩ := k_M_pays (I := (sK_pays I J Rr D r).1) (J := (sK_pays I J Rr D r).2.1) (Rr := (sK_pays I J Rr D r).2.2.1) (D := (sK_pays I J Rr D r).2.2.2) e2
  have hr : mI (r.1) = mI (q.1) := hP.1
  have hrq : q.1 = r.1 := (Int32.toInt_inj.mp hr).symm
  obtain ⟨d, d1, d2, d3, d4, d5, d6⟩ := aRes_iv hA.1 hP hW.1 hU hS.2.2
  refine ⟨r.1, sK_pays I J Rr D r, sM_pays (sK_pays I J Rr D r).1 (sK_pays I J Rr D r).2.1 (sK_pays I J Rr D r).2.2.1 (sK_pays I J Rr D r).2.2.2 q, k1, fun l X => ?_, d, Wf, hC, ivH_up hH, hG, hT, hF, ⟨d3, d1, d2⟩, ⟨d4, hW.2⟩, d5, ⟨hS.1, hS.2.1, d6⟩, hM, hK⟩
  have k3 := k2 l X
  rw [hrq] at k3
  exact k3
theorem arm_tally {n : Nat} (hn : n ≤ 1000) {I : Nat → Nat → Int32} {J : Nat → Nat → Int64} {Rr : Nat → Nat → Option Nat} {D : zD} (h : INV n I J Rr D) {a1 : Int32} {a2 : Int32} {a3 : Int32} : ∃ (r : Int32) (S1 S2 : zS), (∀ (l : Launch) (X : zX), zMi l yX11_tally cX11_tally 5 (some .int) ({ frames := 3, cells := 0, slots := 0, locals := 68 } : Room) X [.ref (X.1 + 0), .int a1, .int a2, .int a3] (I, J, Rr, D) r S1) ∧ (∀ (l : Launch) (X : zX), zMi l yX12_tally cX12_tally 4 (some .int) ({ frames := 3, cells := 0, slots := 0, locals := 69 } : Room) X [.ref (X.1 + 128), .int a1, .int a2, .int a3] S1 r S2) ∧ INVs (n + 1) S2 := by
  obtain ⟨c, Wf, hC, hH, hG, hT, hF, hA, hW, hU, hS, hM, hK⟩ := h
  refine arm_of (x := iK_tally (mI a1) (mI a2) (mI a3) (mI (I 37 6)) (mI (I 37 7)) (mA (I 41)) (mA (I 38)) (mA (I 39)) (mA (I 40))) (y := iM_tally 5000 (mI a1) (mI a2) (mI a3) (mI (I 128 67)) (mA (I 176)) (mA (I 179)) (mA (I 178)) (mA (I 177)) (mA (I 180))) (by rw [hA.2.2, hA.2.1]; exact ag_tally (Nat.le_refl 5000) hA.1) ?_
  intro rI qI e1 e2 hP
  obtain ⟨r, rfl, k1⟩ := k_K_tally (J := J) (Rr := Rr) (D := D) e1
  obtain ⟨q, rfl, k2⟩ := k_M_tally (I := (sK_tally I J Rr D r).1) (J := (sK_tally I J Rr D r).2.1) (Rr := (sK_tally I J Rr D r).2.2.1) (D := (sK_tally I J Rr D r).2.2.2) e2
  have hr : mI (r.1) = mI (q.1) := hP.1
  have hrq : q.1 = r.1 := (Int32.toInt_inj.mp hr).symm
  obtain ⟨d, d1, d2, d3, d4, d5, d6⟩ := aRes_iv hA.1 hP hW.1 hU hS.2.2
  refine ⟨r.1, sK_tally I J Rr D r, sM_tally (sK_tally I J Rr D r).1 (sK_tally I J Rr D r).2.1 (sK_tally I J Rr D r).2.2.1 (sK_tally I J Rr D r).2.2.2 q, k1, fun l X => ?_, d, Wf, hC, ivH_up hH, hG, hT, hF, ⟨d3, d1, d2⟩, ⟨d4, hW.2⟩, d5, ⟨hS.1, hS.2.1, d6⟩, hM, hK⟩
  have k3 := k2 l X
  rw [hrq] at k3
  exact k3
theorem arm_fire {n : Nat} (hn : n ≤ 1000) {I : Nat → Nat → Int32} {J : Nat → Nat → Int64} {Rr : Nat → Nat → Option Nat} {D : zD} (h : INV n I J Rr D) {a1 : Int32} {a2 : Int32} : ∃ (r : Int32) (S1 S2 : zS), (∀ (l : Launch) (X : zX), zMi l yX11_fire cX11_fire 4 (some .int) ({ frames := 2, cells := 0, slots := 0, locals := 44 } : Room) X [.ref (X.1 + 0), .int a1, .int a2] (I, J, Rr, D) r S1) ∧ (∀ (l : Launch) (X : zX), zMi l yX12_fire cX12_fire 3 (some .int) ({ frames := 2, cells := 0, slots := 0, locals := 45 } : Room) X [.ref (X.1 + 128), .int a1, .int a2] S1 r S2) ∧ INVs (n + 1) S2 := by
  obtain ⟨c, Wf, hC, hH, hG, hT, hF, hA, hW, hU, hS, hM, hK⟩ := h
  refine arm_of (x := iK_fire (mI a1) (mI a2) (mI (I 37 6)) (mA (I 41)) (mA (I 38)) (mA (I 39)) (mA (I 40))) (y := iM_fire (mI a1) (mI a2) (mI (I 128 67)) (mA (I 176)) (mA (I 179)) (mA (I 178)) (mA (I 177)) (mA (I 180))) (by rw [hA.2.2, hA.2.1]; exact ag_fire hA.1) ?_
  intro rI qI e1 e2 hP
  obtain ⟨r, rfl, k1⟩ := k_K_fire (J := J) (Rr := Rr) (D := D) e1
  obtain ⟨q, rfl, k2⟩ := k_M_fire (I := (sK_fire I J Rr D r).1) (J := (sK_fire I J Rr D r).2.1) (Rr := (sK_fire I J Rr D r).2.2.1) (D := (sK_fire I J Rr D r).2.2.2) e2
  have hr : mI (r.1) = mI (q.1) := hP.1
  have hrq : q.1 = r.1 := (Int32.toInt_inj.mp hr).symm
  obtain ⟨d, d1, d2, d3, d4, d5, d6⟩ := aRes_iv hA.1 hP hW.1 hU hS.2.2
  refine ⟨r.1, sK_fire I J Rr D r, sM_fire (sK_fire I J Rr D r).1 (sK_fire I J Rr D r).2.1 (sK_fire I J Rr D r).2.2.1 (sK_fire I J Rr D r).2.2.2 q, k1, fun l X => ?_, d, Wf, hC, ivH_up hH, hG, hT, hF, ⟨d3, d1, d2⟩, ⟨d4, hW.2⟩, d5, ⟨hS.1, hS.2.1, d6⟩, hM, hK⟩
  have k3 := k2 l X
  rw [hrq] at k3
  exact k3
theorem arm_annul {n : Nat} (hn : n ≤ 1000) {I : Nat → Nat → Int32} {J : Nat → Nat → Int64} {Rr : Nat → Nat → Option Nat} {D : zD} (h : INV n I J Rr D) {a1 : Int32} : ∃ (r : Int32) (S1 S2 : zS), (∀ (l : Launch) (X : zX), zMi l yX11_annul cX11_annul 2 (some .int) ({ frames := 3, cells := 0, slots := 0, locals := 65 } : Room) X [.ref (X.1 + 0), .int a1] (I, J, Rr, D) r S1) ∧ (∀ (l : Launch) (X : zX), zMi l yX12_annul cX12_annul 2 (some .int) ({ frames := 1, cells := 0, slots := 0, locals := 25 } : Room) X [.ref (X.1 + 128), .int a1] S1 r S2) ∧ INVs (n + 1) S2 := by
  obtain ⟨c, Wf, hC, hH, hG, hT, hF, hA, hW, hU, hS, hM, hK⟩ := h
  refine arm_of (x := iK_annul (mI a1) (mI (I 37 6)) (mA (I 41)) (mA (I 38)) (mA (I 39)) (mA (I 40)) (mA (I 42))) (y := iM_annul (mI a1) (mI (I 128 67)) (mA (I 176)) (mA (I 179)) (mA (I 178)) (mA (I 177)) (mA (I 180))) (by rw [hA.2.2, hA.2.1]; exact ag_annul hA.1) ?_
  intro rI qI e1 e2 hP
  obtain ⟨r, rfl, k1⟩ := k_K_annul (J := J) (Rr := Rr) (D := D) e1
  obtain ⟨q, rfl, k2⟩ := k_M_annul (I := (sK_annul I J Rr D r).1) (J := (sK_annul I J Rr D r).2.1) (Rr := (sK_annul I J Rr D r).2.2.1) (D := (sK_annul I J Rr D r).2.2.2) e2
  have hr : mI (r.1) = mI (q.1) := hP.1
  have hrq : q.1 = r.1 := (Int32.toInt_inj.mp hr).symm
  obtain ⟨d, d1, d2, d3, d4, d5, d6⟩ := aRes_iv hA.1 hP hW.1 hU hS.2.2
  refine ⟨r.1, sK_annul I J Rr D r, sM_annul (sK_annul I J Rr D r).1 (sK_annul I J Rr D r).2.1 (sK_annul I J Rr D r).2.2.1 (sK_annul I J Rr D r).2.2.2 q, k1, fun l X => ?_, d, Wf, hC, ivH_up hH, hG, hT, hF, ⟨d3, d1, d2⟩, ⟨d4, hW.2⟩, d5, ⟨hS.1, hS.2.1, d6⟩, hM, hK⟩
  have k3 := k2 l X
  rw [hrq] at k3
  exact k3
