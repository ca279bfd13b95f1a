set_option maxHeartbeats 1000000
set_option maxRecDepth 100000
theorem arm_put {n : Nat} (hn : n ≤ 1000) {I : Nat → Nat → Int32} {J : Nat → Nat → Int64} {Rr : Nat → Nat → Option Nat} {D : zD} (h : INV n I J Rr D) {a1 : Int32} {a2 : Int32} : ∃ (r : Int32) (S1 S2 : zS), (∀ (l : Launch) (X : zX), zMi l yX11_put cX11_put 3 (some .boolean) ({ frames := 2, cells := 0, slots := 0, locals := 42 } : Room) X [.ref (X.1 + 0), .int a1, .int a2] (I, J, Rr, D) r S1) ∧ (∀ (l : Launch) (X : zX), zMi l yX12_put cX12_put 3 (some .boolean) ({ frames := 1, cells := 0, slots := 0, locals := 25 } : Room) X [.ref (X.1 + 128), .int a1, .int a2] S1 r S2) ∧ INVs (n + 1) S2 := by
  obtain ⟨c, Wf, hC, hH, hG, hT, hF, hA, hW, hU, hS, hM, hK⟩ := h
  refine arm_of (x := iK_put (mI a1) (mI a2) (mA (I 2))) (y := iM_put (mI a1) (mI a2) (mA (I 130))) (by exact ag_put hC) ?_
  intro rI qI e1 e2 hP
  obtain ⟨r, rfl, k1⟩ := k_K_put (J := J) (Rr := Rr) (D := D) e1
  obtain ⟨q, rfl, k2⟩ := k_M_put (I := (sK_put I J Rr D r).1) (J := (sK_put I J Rr D r).2.1) (Rr := (sK_put I J Rr D r).2.2.1) (D := (sK_put I J Rr D r).2.2.2) e2
  have hr : mI (r.1) = mI (q.1) := hP.1
  have hrq : q.1 = r.1 := (Int32.toInt_inj.mp hr).symm
  refine ⟨r.1, sK_put I J Rr D r, sM_put (sK_put I J Rr D r).1 (sK_put I J Rr D r).2.1 (sK_put I J Rr D r).2.2.1 (sK_put I J Rr D r).2.2.2 q, k1, fun l X => ?_, c, Wf, hP.2, ivH_up hH, hG, hT, hF, hA, hW, hU, hS, hM, hK⟩
  have k3 := k2 l X
  rw [hrq] at k3
  exact k3
theorem arm_lies {n : Nat} (hn : n ≤ 1000) {I : Nat → Nat → Int32} {J : Nat → Nat → Int64} {Rr : Nat → Nat → Option Nat} {D : zD} (h : INV n I J Rr D) {a1 : Int32} : ∃ (r : Int32) (S1 S2 : zS), (∀ (l : Launch) (X : zX), zMi l yX11_lies cX11_lies 2 (some .int) ({ frames := 2, cells := 0, slots := 0, locals := 41 } : Room) X [.ref (X.1 + 0), .int a1] (I, J, Rr, D) r S1) ∧ (∀ (l : Launch) (X : zX), zMi l yX12_lies cX12_lies 2 (some .int) ({ frames := 1, cells := 0, slots := 0, locals := 25 } : Room) X [.ref (X.1 + 128), .int a1] S1 r S2) ∧ INVs (n + 1) S2 := by
  obtain ⟨c, Wf, hC, hH, hG, hT, hF, hA, hW, hU, hS, hM, hK⟩ := h
  refine arm_of (x := iK_lies (mI a1) (mA (I 2))) (y := iM_lies (mI a1) (mA (I 130))) (by exact ag_lies hC) ?_
  intro rI qI e1 e2 hP
  obtain ⟨r, rfl, k1⟩ := k_K_lies (J := J) (Rr := Rr) (D := D) e1
  obtain ⟨q, rfl, k2⟩ := k_M_lies (I := (sK_lies I J Rr D r).1) (J := (sK_lies I J Rr D r).2.1) (Rr := (sK_lies I J Rr D r).2.2.1) (D := (sK_lies I J Rr D r).2.2.2) e2
  have hr : mI (r) = mI (q) := hP
  have hrq : q = r := (Int32.toInt_inj.mp hr).symm
  refine ⟨r, sK_lies I J Rr D r, sM_lies (sK_lies I J Rr D r).1 (sK_lies I J Rr D r).2.1 (sK_lies I J Rr D r).2.2.1 (sK_lies I J Rr D r).2.2.2 q, k1, fun l X => ?_, c, Wf, hC, ivH_up hH, hG, hT, hF, hA, hW, hU, hS, hM, hK⟩
  have k3 := k2 l X
  rw [hrq] at k3
  exact k3
theorem arm_worth {n : Nat} (hn : n ≤ 1000) {I : Nat → Nat → Int32} {J : Nat → Nat → Int64} {Rr : Nat → Nat → Option Nat} {D : zD} (h : INV n I J Rr D) : ∃ (r : Int64) (S1 S2 : zS), (∀ (l : Launch) (X : zX), zMl l yX11_worth cX11_worth 1 (some .long) ({ frames := 1, cells := 0, slots := 0, locals := 23 } : Room) X [.ref (X.1 + 0)] (I, J, Rr, D) r S1) ∧ (∀ (l : Launch) (X : zX), zMl l yX12_worth cX12_worth 4 (some .long) ({ frames := 1, cells := 0, slots := 0, locals := 24 } : Room) X [.ref (X.1 + 128)] S1 r S2) ∧ INVs (n + 1) S2 := by
  obtain ⟨c, Wf, hC, hH, hG, hT, hF, hA, hW, hU, hS, hM, hK⟩ := h
  refine arm_of (x := iK_worth 5000 (mA (I 2))) (y := iM_worth 5000 (mA (I 130)) (mA (I 129))) (by exact ag_worth (Nat.le_refl 5000) hC) ?_
  intro rI qI e1 e2 hP
  obtain ⟨r, rfl, k1⟩ := k_K_worth (J := J) (Rr := Rr) (D := D) e1
  obtain ⟨q, rfl, k2⟩ := k_M_worth (I := (sK_worth I J Rr D r).1) (J := (sK_worth I J Rr D r).2.1) (Rr := (sK_worth I J Rr D r).2.2.1) (D := (sK_worth I J Rr D r).2.2.2) e2
  have hr : mJ (r) = mJ (q) := hP
  have hrq : q = r := (Int64.toInt_inj.mp hr).symm
  refine ⟨r, sK_worth I J Rr D r, sM_worth (sK_worth I J Rr D r).1 (sK_worth I J Rr D r).2.1 (sK_worth I J Rr D r).2.2.1 (sK_worth I J Rr D r).2.2.2 q, k1, fun l X => ?_, c, Wf, hC, ivH_up hH, hG, hT, hF, hA, hW, hU, hS, hM, hK⟩
  have k3 := k2 l X
  rw [hrq] at k3
  exact k3
theorem arm_plain {n : Nat} (hn : n ≤ 1000) {I : Nat → Nat → Int32} {J : Nat → Nat → Int64} {Rr : Nat → Nat → Option Nat} {D : zD} (h : INV n I J Rr D) {a1 : Int32} {a2 : Int32} : ∃ (r : Int32) (S1 S2 : zS), (∀ (l : Launch) (X : zX), zMi l yX11_plain cX11_plain 3 (some .int) ({ frames := 2, cells := 0, slots := 0, locals := 45 } : Room) X [.ref (X.1 + 0), .int a1, .int a2] (I, J, Rr, D) r S1) ∧ (∀ (l : Launch) (X : zX), zMi l yX12_plain cX12_plain 3 (some .int) ({ frames := 2, cells := 0, slots := 0, locals := 48 } : Room) X [.ref (X.1 + 128), .int a1, .int a2] S1 r S2) ∧ INVs (n + 1) S2 := by
  obtain ⟨c, Wf, hC, hH, hG, hT, hF, hA, hW, hU, hS, hM, hK⟩ := h
  refine arm_of (x := iK_plain 5000 (mI a1) (mI a2) (mA (I 4))) (y := iM_plain 5000 (mI a1) (mI a2) (mA (I 132)) (mA (I 129))) (by exact ag_plain (Nat.le_refl 5000) hC) ?_
  intro rI qI e1 e2 hP
  obtain ⟨r, rfl, k1⟩ := k_K_plain (J := J) (Rr := Rr) (D := D) e1
  obtain ⟨q, rfl, k2⟩ := k_M_plain (I := (sK_plain I J Rr D r).1) (J := (sK_plain I J Rr D r).2.1) (Rr := (sK_plain I J Rr D r).2.2.1) (D := (sK_plain I J Rr D r).2.2.2) e2
  have hr : mI (r.1) = mI (q.1) := hP
  have hrq : q.1 = r.1 := (Int32.toInt_inj.mp hr).symm
  refine ⟨r.1, sK_plain I J Rr D r, sM_plain (sK_plain I J Rr D r).1 (sK_plain I J Rr D r).2.1 (sK_plain I J Rr D r).2.2.1 (sK_plain I J Rr D r).2.2.2 q, k1, fun l X => ?_, c, Wf, hC, ivH_up hH, hG, hT, hF, hA, hW, hU, hS, hM, hK⟩
  have k3 := k2 l X
  rw [hrq] at k3
  exact k3
theorem arm_lay {n : Nat} (hn : n ≤ 1000) {I : Nat → Nat → Int32} {J : Nat → Nat → Int64} {Rr : Nat → Nat → Option Nat} {D : zD} (h : INV n I J Rr D) {a1 : Int32} : ∃ (r : Int32) (S1 S2 : zS), (∀ (l : Launch) (X : zX), zMi l yX11_lay cX11_lay 2 (some .int) ({ frames := 2, cells := 0, slots := 0, locals := 94 } : Room) X [.ref (X.1 + 0), .int a1] (I, J, Rr, D) r S1) ∧ (∀ (l : Launch) (X : zX), zMi l yX12_lay cX12_lay 4 (some .int) ({ frames := 2, cells := 0, slots := 0, locals := 48 } : Room) X [.ref (X.1 + 128), .int a1] S1 r S2) ∧ INVs (n + 1) S2 := by
  obtain ⟨c, Wf, hC, hH, hG, hT, hF, hA, hW, hU, hS, hM, hK⟩ := h
  refine arm_of (x := iK_lay 5000 (mI a1) (mA (I 4)) (mA (I 2)) (mA (I 3))) (y := iM_lay 5000 (mI a1) (mA (I 130)) (mA (I 132)) (mA (I 129)) (mA (I 131))) (by exact ag_lay (Nat.le_refl 5000) hC) ?_
  intro rI qI e1 e2 hP
  obtain ⟨r, rfl, k1⟩ := k_K_lay (J := J) (Rr := Rr) (D := D) e1
  obtain ⟨q, rfl, k2⟩ := k_M_lay (I := (sK_lay I J Rr D r).1) (J := (sK_lay I J Rr D r).2.1) (Rr := (sK_lay I J Rr D r).2.2.1) (D := (sK_lay I J Rr D r).2.2.2) e2
  have hr : mI (r.1) = mI (q.1) := hP.1
  have hrq : q.1 = r.1 := (Int32.toInt_inj.mp hr).symm
  refine ⟨r.1, sK_lay I J Rr D r, sM_lay (sK_lay I J Rr D r).1 (sK_lay I J Rr D r).2.1 (sK_lay I J Rr D r).2.2.1 (sK_lay I J Rr D r).2.2.2 q, k1, fun l X => ?_, c, Wf, hP.2, ivH_up hH, hG, hT, hF, hA, hW, hU, hS, hM, hK⟩
  have k3 := k2 l X
  rw [hrq] at k3
  exact k3
theorem arm_draw {n : Nat} (hn : n ≤ 1000) {I : Nat → Nat → Int32} {J : Nat → Nat → Int64} {Rr : Nat → Nat → Option Nat} {D : zD} (h : INV n I J Rr D) {a1 : Int32} : ∃ (r : Int32) (S1 S2 : zS), (∀ (l : Launch) (X : zX), zMi l yX11_draw cX11_draw 2 (some .int) ({ frames := 2, cells := 0, slots := 0, locals := 96 } : Room) X [.ref (X.1 + 0), .int a1] (I, J, Rr, D) r S1) ∧ (∀ (l : Launch) (X : zX), zMi l yX12_draw cX12_draw 6 (some .int) ({ frames := 2, cells := 0, slots := 0, locals := 48 } : Room) X [.ref (X.1 + 128), .int a1] S1 r S2) ∧ INVs (n + 1) S2 := by
  obtain ⟨c, Wf, hC, hH, hG, hT, hF, hA, hW, hU, hS, hM, hK⟩ := h
  refine arm_of (x := iK_draw 5000 (mI a1) (mA (I 4)) (mA (I 2)) (mA (I 3))) (y := iM_draw 5000 (mI a1) (mA (I 130)) (mA (I 132)) (mA (I 129)) (mA (I 131))) (by exact ag_draw (Nat.le_refl 5000) hC) ?_
  intro rI qI e1 e2 hP
  obtain ⟨r, rfl, k1⟩ := k_K_draw (J := J) (Rr := Rr) (D := D) e1
  obtain ⟨q, rfl, k2⟩ := k_M_draw (I := (sK_draw I J Rr D r).1) (J := (sK_draw I J Rr D r).2.1) (Rr := (sK_draw I J Rr D r).2.2.1) (D := (sK_draw I J Rr D r).2.2.2) e2
  have hr : mI (r.1) = mI (q.1) := hP.1
  have hrq : q.1 = r.1 := (Int32.toInt_inj.mp hr).symm
  refine ⟨r.1, sK_draw I J Rr D r, sM_draw (sK_draw I J Rr D r).1 (sK_draw I J Rr D r).2.1 (sK_draw I J Rr D r).2.2.1 (sK_draw I J Rr D r).2.2.2 q, k1, fun l X => ?_, c, Wf, hP.2, ivH_up hH, hG, hT, hF, hA, hW, hU, hS, hM, hK⟩
  have k3 := k2 l X
  rw [hrq] at k3
  exact k3
theorem arm_steps {n : Nat} (hn : n ≤ 1000) {I : Nat → Nat → Int32} {J : Nat → Nat → Int64} {Rr : Nat → Nat → Option Nat} {D : zD} (h : INV n I J Rr D) {a1 : Int32} : ∃ (r : Int32) (S1 S2 : zS), (∀ (l : Launch) (X : zX), zMi l yX11_steps cX11_steps 2 (some .int) ({ frames := 3, cells := 0, slots := 0, locals := 84 } : Room) X [.ref (X.1 + 0), .int a1] (I, J, Rr, D) r S1) ∧ (∀ (l : Launch) (X : zX), zMi l yX12_steps cX12_steps 7 (some .int) ({ frames := 2, cells := 0, slots := 0, locals := 48 } : Room) X [.ref (X.1 + 128), .int a1] S1 r S2) ∧ INVs (n + 1) S2 := by
  obtain ⟨c, Wf, hC, hH, hG, hT, hF, hA, hW, hU, hS, hM, hK⟩ := h
  refine arm_of (x := iK_steps 5000 (mI a1) (mA (I 4)) (mA (I 2))) (y := iM_steps 5000 (mI a1) (mA (I 133)) (mA (I 130)) (mA (I 134)) (mA (I 132)) (mA (I 129))) (by exact ag_steps (Nat.le_refl 5000) hC) ?_
  intro rI qI e1 e2 hP
  obtain ⟨r, rfl, k1⟩ := k_K_steps (J := J) (Rr := Rr) (D := D) e1
  obtain ⟨q, rfl, k2⟩ := k_M_steps (I := (sK_steps I J Rr D r).1) (J := (sK_steps I J Rr D r).2.1) (Rr := (sK_steps I J Rr D r).2.2.1) (D := (sK_steps I J Rr D r).2.2.2) e2
  have hr : mI (r.1) = mI (q.1) := hP
  have hrq : q.1 = r.1 := (Int32.toInt_inj.mp hr).symm
  refine ⟨r.1, sK_steps I J Rr D r, sM_steps (sK_steps I J Rr D r).1 (sK_steps I J Rr D r).2.1 (sK_steps I J Rr D r).2.2.1 (sK_steps I J Rr D r).2.2.2 q, k1, fun l X => ?_, c, Wf, hC, ivH_up hH, hG, hT, hF, hA, hW, hU, hS, hM, hK⟩
  have k3 := k2 l X
  rw [hrq] at k3
  exact k3
theorem arm_feed {n : Nat} (hn : n ≤ 1000) {I : Nat → Nat → Int32} {J : Nat → Nat → Int64} {Rr : Nat → Nat → Option Nat} {D : zD} (h : INV n I J Rr D) {a1 : Int32} {a2 : Int32} {a3 : Int32} {a4 : Int32} {a5 : Int32} : ∃ (r : Int32) (S1 S2 : zS), (∀ (l : Launch) (X : zX), zMi l yX11_feed cX11_feed 6 (some .int) ({ frames := 1, cells := 0, slots := 0, locals := 22 } : Room) X [.ref (X.1 + 0), .int a1, .int a2, .int a3, .int a4, .int a5] (I, J, Rr, D) r S1) ∧ (∀ (l : Launch) (X : zX), zMi l yX12_feed cX12_feed 8 (some .int) ({ frames := 0, cells := 0, slots := 0, locals := 0 } : Room) X [.ref (X.1 + 128), .int a1, .int a2, .int a3, .int a4, .int a5] S1 r S2) ∧ INVs (n + 1) S2 := by
  obtain ⟨c, Wf, hC, hH, hG, hT, hF, hA, hW, hU, hS, hM, hK⟩ := h
  refine arm_of (x := iK_feed 5000 (mI a1) (mI a2) (mI a3) (mI a4) (mI a5) (mI (I 33 3)) (mA (I 34))) (y := iM_feed 5000 (mI a1) (mI a2) (mI a3) (mI a4) (mI a5) (mI (I 128 18)) (mA (I 143))) (by rw [hT.2.1, hT.2.2]; exact ag_feed (Nat.le_refl 5000) (tIn_I _) (tIn_I _) (tIn_I _) (tIn_I _) (tIn_I _) hT.1) ?_
  intro rI qI e1 e2 hP
  obtain ⟨r, rfl, k1⟩ := k_K_feed (J := J) (Rr := Rr) (D := D) e1
  obtain ⟨q, rfl, k2⟩ := k_M_feed (I := (sK_feed I J Rr D r).1) (J := (sK_feed I J Rr D r).2.1) (Rr := (sK_feed I J Rr D r).2.2.1) (D := (sK_feed I J Rr D r).2.2.2) e2
  have hr : mI (r.1) = mI (q.1) := hP.1
  have hrq : q.1 = r.1 := (Int32.toInt_inj.mp hr).symm
  refine ⟨r.1, sK_feed I J Rr D r, sM_feed (sK_feed I J Rr D r).1 (sK_feed I J Rr D r).2.1 (sK_feed I J Rr D r).2.2.1 (sK_feed I J Rr D r).2.2.2 q, k1, fun l X => ?_, c, Wf, hC, ivH_up hH, hG, ⟨hP.2.2.2, hP.2.1, hP.2.2.1⟩, hF, hA, hW, hU, hS, hM, hK⟩
  have k3 := k2 l X
  rw [hrq] at k3
  exact k3
theorem arm_end {n : Nat} (hn : n ≤ 1000) {I : Nat → Nat → Int32} {J : Nat → Nat → Int64} {Rr : Nat → Nat → Option Nat} {D : zD} (h : INV n I J Rr D) {a1 : Int32} : ∃ (r : Int32) (S1 S2 : zS), (∀ (l : Launch) (X : zX), zMi l yX11_end cX11_end 2 (some .boolean) ({ frames := 1, cells := 0, slots := 0, locals := 21 } : Room) X [.ref (X.1 + 0), .int a1] (I, J, Rr, D) r S1) ∧ (∀ (l : Launch) (X : zX), zMi l yX12_end cX12_end 2 (some .boolean) ({ frames := 0, cells := 0, slots := 0, locals := 0 } : Room) X [.ref (X.1 + 128), .int a1] S1 r S2) ∧ INVs (n + 1) S2 := by
  obtain ⟨c, Wf, hC, hH, hG, hT, hF, hA, hW, hU, hS, hM, hK⟩ := h
  refine arm_of (x := iK_end (mI a1) (mI (I 33 3))) (y := iM_end (mI a1) (mI (I 128 18))) (by rw [hT.2.1]; exact ag_end hT.1) ?_
  intro rI qI e1 e2 hP
  obtain ⟨r, rfl, k1⟩ := k_K_end (J := J) (Rr := Rr) (D := D) e1
  obtain ⟨q, rfl, k2⟩ := k_M_end (I := (sK_end I J Rr D r).1) (J := (sK_end I J Rr D r).2.1) (Rr := (sK_end I J Rr D r).2.2.1) (D := (sK_end I J Rr D r).2.2.2) e2
  have hr : mI (r.1) = mI (q.1) := hP.1
  have hrq : q.1 = r.1 := (Int32.toInt_inj.mp hr).symm
  refine ⟨r.1, sK_end I J Rr D r, sM_end (sK_end I J Rr D r).1 (sK_end I J Rr D r).2.1 (sK_end I J Rr D r).2.2.1 (sK_end I J Rr D r).2.2.2 q, k1, fun l X => ?_, c, Wf, hC, ivH_up hH, hG, ⟨hP.2.2, hP.2.1, hT.2.2⟩, hF, hA, hW, hU, hS, hM, hK⟩
  have k3 := k2 l X
  rw [hrq] at k3
  exact k3
theorem arm_fault {n : Nat} (hn : n ≤ 1000) {I : Nat → Nat → Int32} {J : Nat → Nat → Int64} {Rr : Nat → Nat → Option Nat} {D : zD} (h : INV n I J Rr D) {a1 : Int32} : ∃ (r : Int32) (S1 S2 : zS), (∀ (l : Launch) (X : zX), zMi l yX11_fault cX11_fault 2 (some .int) ({ frames := 1, cells := 0, slots := 0, locals := 20 } : Room) X [.ref (X.1 + 0), .int a1] (I, J, Rr, D) r S1) ∧ (∀ (l : Launch) (X : zX), zMi l yX12_fault cX12_fault 2 (some .int) ({ frames := 0, cells := 0, slots := 0, locals := 0 } : Room) X [.ref (X.1 + 128), .int a1] S1 r S2) ∧ INVs (n + 1) S2 := by
  obtain ⟨c, Wf, hC, hH, hG, hT, hF, hA, hW, hU, hS, hM, hK⟩ := h
  refine arm_of (x := iK_fault (mI a1) (mI (I 33 10)) (mI (I 33 11))) (y := iM_fault (mI a1) (mI (I 128 24)) (mI (I 128 25))) (by rw [hF.1, hF.2]; exact ag_fault) ?_
  intro rI qI e1 e2 hP
  obtain ⟨r, rfl, k1⟩ := k_K_fault (J := J) (Rr := Rr) (D := D) e1
  obtain ⟨q, rfl, k2⟩ := k_M_fault (I := (sK_fault I J Rr D r).1) (J := (sK_fault I J Rr D r).2.1) (Rr := (sK_fault I J Rr D r).2.2.1) (D := (sK_fault I J Rr D r).2.2.2) e2
  have hr : mI (r) = mI (q) := hP
  have hrq : q = r := (Int32.toInt_inj.mp hr).symm
  refine ⟨r, sK_fault I J Rr D r, sM_fault (sK_fault I J Rr D r).1 (sK_fault I J Rr D r).2.1 (sK_fault I J Rr D r).2.2.1 (sK_fault I J Rr D r).2.2.2 q, k1, fun l X => ?_, c, Wf, hC, ivH_up hH, hG, hT, hF, hA, hW, hU, hS, hM, hK⟩
  have k3 := k2 l X
  rw [hrq] at k3
  exact k3
theorem arm_as {n : Nat} (hn : n ≤ 1000) {I : Nat → Nat → Int32} {J : Nat → Nat → Int64} {Rr : Nat → Nat → Option Nat} {D : zD} (h : INV n I J Rr D) {a1 : Int32} : ∃ (r : Int32) (S1 S2 : zS), (∀ (l : Launch) (X : zX), zMi l yX11_as cX11_as 2 (some .boolean) ({ frames := 1, cells := 0, slots := 0, locals := 20 } : Room) X [.ref (X.1 + 0), .int a1] (I, J, Rr, D) r S1) ∧ (∀ (l : Launch) (X : zX), zMi l yX12_as cX12_as 2 (some .boolean) ({ frames := 1, cells := 0, slots := 0, locals := 25 } : Room) X [.ref (X.1 + 128), .int a1] S1 r S2) ∧ INVs (n + 1) S2 := by
  obtain ⟨c, Wf, hC, hH, hG, hT, hF, hA, hW, hU, hS, hM, hK⟩ := h
  refine arm_of (x := iK_as (mI a1) (mI (I 0 5)) (mI (I 37 6))) (y := iM_as (mI a1) (mI (I 128 67)) (mI (I 128 73))) (by rw [hA.2.2, hA.2.1, hS.1]; exact ag_as ⟨hS.2.1, hS.2.2⟩) ?_
  intro rI qI e1 e2 hP
  obtain ⟨r, rfl, k1⟩ := k_K_as (J := J) (Rr := Rr) (D := D) e1
  obtain ⟨q, rfl, k2⟩ := k_M_as (I := (sK_as I J Rr D r).1) (J := (sK_as I J Rr D r).2.1) (Rr := (sK_as I J Rr D r).2.2.1) (D := (sK_as I J Rr D r).2.2.2) e2
  have hr : mI (r.1) = mI (q.1) := hP.1
  have hrq : q.1 = r.1 := (Int32.toInt_inj.mp hr).symm
  refine ⟨r.1, sK_as I J Rr D r, sM_as (sK_as I J Rr D r).1 (sK_as I J Rr D r).2.1 (sK_as I J Rr D r).2.2.1 (sK_as I J Rr D r).2.2.2 q, k1, fun l X => ?_, c, Wf, hC, ivH_up hH, hG, hT, hF, hA, hW, hU, ⟨hP.2.1, hP.2.2.1, hP.2.2.2⟩, hM, hK⟩
  have k3 := k2 l X
  rw [hrq] at k3
  exact k3
theorem arm_moved {n : Nat} (hn : n ≤ 1000) {I : Nat → Nat → Int32} {J : Nat → Nat → Int64} {Rr : Nat → Nat → Option Nat} {D : zD} (h : INV n I J Rr D) : ∃ (r : Int32) (S1 S2 : zS), (∀ (l : Launch) (X : zX), zMi l yX11_moved cX11_moved 1 (some .int) ({ frames := 1, cells := 0, slots := 0, locals := 20 } : Room) X [.ref (X.1 + 0)] (I, J, Rr, D) r S1) ∧ (∀ (l : Launch) (X : zX), zMi l yX12_moved cX12_moved 1 (some .int) ({ frames := 0, cells := 0, slots := 0, locals := 0 } : Room) X [.ref (X.1 + 128)] S1 r S2) ∧ INVs (n + 1) S2 := by
  obtain ⟨c, Wf, hC, hH, hG, hT, hF, hA, hW, hU, hS, hM, hK⟩ := h
  refine arm_of (x := iK_moved (mI (I 44 9))) (y := iM_moved (mI (I 128 84))) (by rw [hM]; exact ag_moved) ?_
  intro rI qI e1 e2 hP
  obtain ⟨r, rfl, k1⟩ := k_K_moved (J := J) (Rr := Rr) (D := D) e1
  obtain ⟨q, rfl, k2⟩ := k_M_moved (I := (sK_moved I J Rr D r).1) (J := (sK_moved I J Rr D r).2.1) (Rr := (sK_moved I J Rr D r).2.2.1) (D := (sK_moved I J Rr D r).2.2.2) e2
  have hr : mI (r) = mI (q) := hP
  have hrq : q = r := (Int32.toInt_inj.mp hr).symm
  refine ⟨r, sK_moved I J Rr D r, sM_moved (sK_moved I J Rr D r).1 (sK_moved I J Rr D r).2.1 (sK_moved I J Rr D r).2.2.1 (sK_moved I J Rr D r).2.2.2 q, k1, fun l X => ?_, c, Wf, hC, ivH_up hH, hG, hT, hF, hA, hW, hU, hS, hM, hK⟩
  have k3 := k2 l X
  rw [hrq] at k3
  exact k3
theorem arm_all {n : Nat} (hn : n ≤ 1000) {I : Nat → Nat → Int32} {J : Nat → Nat → Int64} {Rr : Nat → Nat → Option Nat} {D : zD} (h : INV n I J Rr D) {a1 : Int32} : ∃ (r : Int32) (S1 S2 : zS), (∀ (l : Launch) (X : zX), zMi l yX11_all cX11_all 2 (some .int) ({ frames := 3, cells := 0, slots := 0, locals := 64 } : Room) X [.ref (X.1 + 0), .int a1] (I, J, Rr, D) r S1) ∧ (∀ (l : Launch) (X : zX), zMi l yX12_all cX12_all 4 (some .int) ({ frames := 1, cells := 0, slots := 0, locals := 21 } : Room) X [.ref (X.1 + 128), .int a1] S1 r S2) ∧ INVs (n + 1) S2 := by
  obtain ⟨c, Wf, hC, hH, hG, hT, hF, hA, hW, hU, hS, hM, hK⟩ := h
  refine arm_of (x := iK_all 5000 (mI a1) (mI (I 0 5)) (mI (I 37 6)) (mA (I 8))) (y := iM_all 5000 (mI a1) (mI (I 128 67)) (mI (I 128 73)) (mA (I 135))) (by rw [hG.2.2.2.2.2, hA.2.2, hA.2.1, hS.1]; exact ag_all (Nat.le_refl 5000)) ?_
  intro rI qI e1 e2 hP
  obtain ⟨r, rfl, k1⟩ := k_K_all (J := J) (Rr := Rr) (D := D) e1
  obtain ⟨q, rfl, k2⟩ := k_M_all (I := (sK_all I J Rr D r).1) (J := (sK_all I J Rr D r).2.1) (Rr := (sK_all I J Rr D r).2.2.1) (D := (sK_all I J Rr D r).2.2.2) e2
  have hr : mI (r) = mI (q) := hP
  have hrq : q = r := (Int32.toInt_inj.mp hr).symm
  refine ⟨r, sK_all I J Rr D r, sM_all (sK_all I J Rr D r).1 (sK_all I J Rr D r).2.1 (sK_all I J Rr D r).2.2.1 (sK_all I J Rr D r).2.2.2 q, k1, fun l X => ?_, c, Wf, hC, ivH_up hH, hG, hT, hF, hA, hW, hU, hS, hM, hK⟩
  have k3 := k2 l X
  rw [hrq] at k3
  exact k3
