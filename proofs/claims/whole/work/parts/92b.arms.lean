set_option maxHeartbeats 1000000
set_option maxRecDepth 100000
theorem arm_cut {n : Nat} (hn : n ≤ 1000) {I : Nat → Nat → Int32} {J : Nat → Nat → Int64} {Rr : Nat → Nat → Option Nat} {D : zD} (h : INV n I J Rr D) {a1 : Int32} {a2 : Int32} {a3 : Int32} {a4 : Int32} : ∃ (r : Int32) (S1 S2 : zS), (∀ (l : Launch) (X : zX), zMi l yX11_cut cX11_cut 5 (some .int) ({ frames := 2, cells := 0, slots := 0, locals := 47 } : Room) X [.ref (X.1 + 0), .int a1, .int a2, .int a3, .int a4] (I, J, Rr, D) r S1) ∧ (∀ (l : Launch) (X : zX), zMi l yX12_cut cX12_cut 6 (some .int) ({ frames := 2, cells := 0, slots := 0, locals := 46 } : Room) X [.ref (X.1 + 128), .int a1, .int a2, .int a3, .int a4] S1 r S2) ∧ INVs (n + 1) S2 := by
  obtain ⟨c, Wf, hC, hH, hG, hT, hF, hA, hW, hU, hS, hM, hK⟩ := h
  refine arm_of (x := iK_cut 5000 (mI a1) (mI a2) (mI a3) (mI a4) (mI (I 5 12)) (mI (I 5 11)) (mA (I 9)) (mA (I 6)) (mA (I 8)) (mA (I 7))) (y := iM_cut (mI a1) (mI a2) (mI a3) (mI a4) (mA (I 136)) (mA (I 137)) (mA (I 135))) (by rw [hG.2.2.2.1, hG.2.2.2.2.1, hG.2.2.2.2.2]; exact ag_cut (Nat.le_refl 5000) (show (n : Int) ≤ 1000000 by omega) hH) ?_
  intro rI qI e1 e2 hP
  obtain ⟨r, rfl, k1⟩ := k_K_cut (J := J) (Rr := Rr) (D := D) e1
  obtain ⟨q, rfl, k2⟩ := k_M_cut (I := (sK_cut I J Rr D r).1) (J := (sK_cut I J Rr D r).2.1) (Rr := (sK_cut I J Rr D r).2.2.1) (D := (sK_cut I J Rr D r).2.2.2) e2
  have hr : mI (r.1) = mI (q.1) := hP.1
  have hrq : q.1 = r.1 := (Int32.toInt_inj.mp hr).symm
  refine ⟨r.1, sK_cut I J Rr D r, sM_cut (sK_cut I J Rr D r).1 (sK_cut I J Rr D r).2.1 (sK_cut I J Rr D r).2.2.1 (sK_cut I J Rr D r).2.2.2 q, k1, fun l X => ?_, c, Wf, hC, IH_to hP.2.2.2.2.1 (by omega), ⟨hG.1, hG.2.1, hG.2.2.1, hP.2.1, hP.2.2.1, hP.2.2.2.1⟩, hT, hF, hA, hW, AuI_ch hU (hP.2.2.2.2.2.imp (fun x => ⟨x.1, x.2.1⟩) id), hS, hM, hK⟩
  have k3 := k2 l X
  rw [hrq] at k3
  exact k3
theorem arm_burn {n : Nat} (hn : n ≤ 1000) {I : Nat → Nat → Int32} {J : Nat → Nat → Int64} {Rr : Nat → Nat → Option Nat} {D : zD} (h : INV n I J Rr D) {a1 : Int32} {a2 : Int32} : ∃ (r : Int32) (S1 S2 : zS), (∀ (l : Launch) (X : zX), zMi l yX11_burn cX11_burn 3 (some .boolean) ({ frames := 3, cells := 0, slots := 0, locals := 62 } : Room) X [.ref (X.1 + 0), .int a1, .int a2] (I, J, Rr, D) r S1) ∧ (∀ (l : Launch) (X : zX), zMi l yX12_burn cX12_burn 4 (some .boolean) ({ frames := 2, cells := 0, slots := 0, locals := 46 } : Room) X [.ref (X.1 + 128), .int a1, .int a2] S1 r S2) ∧ INVs (n + 1) S2 := by
  obtain ⟨c, Wf, hC, hH, hG, hT, hF, hA, hW, hU, hS, hM, hK⟩ := h
  refine arm_of (x := iK_burn 5000 (mI a1) (mI a2) (mI (I 5 12)) (mI (I 5 11)) (mA (I 9)) (mA (I 8))) (y := iM_burn (mI a1) (mI a2) (mA (I 135))) (by rw [hG.2.2.2.2.2]; exact ag_burn (Nat.le_refl 5000) (show (n : Int) ≤ 1000000 by omega) hH) ?_
  intro rI qI e1 e2 hP
  obtain ⟨r, rfl, k1⟩ := k_K_burn (J := J) (Rr := Rr) (D := D) e1
  obtain ⟨q, rfl, k2⟩ := k_M_burn (I := (sK_burn I J Rr D r).1) (J := (sK_burn I J Rr D r).2.1) (Rr := (sK_burn I J Rr D r).2.2.1) (D := (sK_burn I J Rr D r).2.2.2) e2
  have hr : mI (r.1) = mI (q.1) := hP.1
  have hrq : q.1 = r.1 := (Int32.toInt_inj.mp hr).symm
  refine ⟨r.1, sK_burn I J Rr D r, sM_burn (sK_burn I J Rr D r).1 (sK_burn I J Rr D r).2.1 (sK_burn I J Rr D r).2.2.1 (sK_burn I J Rr D r).2.2.2 q, k1, fun l X => ?_, c, Wf, hC, IH_to hP.2.2.1 (by omega), ⟨hG.1, hG.2.1, hG.2.2.1, hG.2.2.2.1, hG.2.2.2.2.1, hP.2.1⟩, hT, hF, hA, hW, AuI_ch hU (hP.2.2.2.imp (fun x => ⟨x.1, x.2.1⟩) id), hS, hM, hK⟩
  have k3 := k2 l X
  rw [hrq] at k3
  exact k3
theorem arm_sum {n : Nat} (hn : n ≤ 1000) {I : Nat → Nat → Int32} {J : Nat → Nat → Int64} {Rr : Nat → Nat → Option Nat} {D : zD} (h : INV n I J Rr D) {a1 : Int32} {a2 : Int32} : ∃ (r : Int32) (S1 S2 : zS), (∀ (l : Launch) (X : zX), zMi l yX11_sum cX11_sum 3 (some .int) ({ frames := 3, cells := 0, slots := 0, locals := 64 } : Room) X [.ref (X.1 + 0), .int a1, .int a2] (I, J, Rr, D) r S1) ∧ (∀ (l : Launch) (X : zX), zMi l yX12_sum cX12_sum 4 (some .int) ({ frames := 2, cells := 0, slots := 0, locals := 46 } : Room) X [.ref (X.1 + 128), .int a1, .int a2] S1 r S2) ∧ INVs (n + 1) S2 := by
  obtain ⟨c, Wf, hC, hH, hG, hT, hF, hA, hW, hU, hS, hM, hK⟩ := h
  refine arm_of (x := iK_sum 5000 (mI a1) (mI a2) (mA (I 8)) (mA (I 7))) (y := iM_sum 5000 (mI a1) (mI a2) (mA (I 137)) (mA (I 135)) (mA (I 138))) (by rw [hG.2.2.2.2.1, hG.2.2.2.2.2]; exact ag_sum (Nat.le_refl 5000) hK.2 hH) ?_
  intro rI qI e1 e2 hP
  obtain ⟨r, rfl, k1⟩ := k_K_sum (J := J) (Rr := Rr) (D := D) e1
  obtain ⟨q, rfl, k2⟩ := k_M_sum (I := (sK_sum I J Rr D r).1) (J := (sK_sum I J Rr D r).2.1) (Rr := (sK_sum I J Rr D r).2.2.1) (D := (sK_sum I J Rr D r).2.2.2) e2
  have hr : mI (r) = mI (q) := hP
  have hrq : q = r := (Int32.toInt_inj.mp hr).symm
  refine ⟨r, sK_sum I J Rr D r, sM_sum (sK_sum I J Rr D r).1 (sK_sum I J Rr D r).2.1 (sK_sum I J Rr D r).2.2.1 (sK_sum I J Rr D r).2.2.2 q, k1, fun l X => ?_, c, Wf, hC, ivH_up hH, hG, hT, hF, hA, hW, hU, hS, hM, hK⟩
  have k3 := k2 l X
  rw [hrq] at k3
  exact k3
theorem arm_wear {n : Nat} (hn : n ≤ 1000) {I : Nat → Nat → Int32} {J : Nat → Nat → Int64} {Rr : Nat → Nat → Option Nat} {D : zD} (h : INV n I J Rr D) {a1 : Int32} {a2 : Int32} {a3 : Int32} : ∃ (r : Int32) (S1 S2 : zS), (∀ (l : Launch) (X : zX), zMi l yX11_wear cX11_wear 4 (some .boolean) ({ frames := 2, cells := 0, slots := 0, locals := 47 } : Room) X [.ref (X.1 + 0), .int a1, .int a2, .int a3] (I, J, Rr, D) r S1) ∧ (∀ (l : Launch) (X : zX), zMi l yX12_wear cX12_wear 4 (some .boolean) ({ frames := 1, cells := 0, slots := 0, locals := 25 } : Room) X [.ref (X.1 + 128), .int a1, .int a2, .int a3] S1 r S2) ∧ INVs (n + 1) S2 := by
  obtain ⟨c, Wf, hC, hH, hG, hT, hF, hA, hW, hU, hS, hM, hK⟩ := h
  refine arm_of (x := iK_wear (mI a1) (mI a2) (mI a3) (mI (I 5 12)) (mI (I 5 8)) (mI (I 5 11)) (mI (I 5 10)) (mI (I 5 9)) (mA (I 9))) (y := iM_wear (mI a1) (mI a2) (mI a3) (mI (I 128 10)) (mI (I 128 12)) (mI (I 128 11))) (by rw [hG.1, hG.2.1, hG.2.2.1]; exact ag_wear (show (n : Int) ≤ 1000000 by omega) hH) ?_
  intro rI qI e1 e2 hP
  obtain ⟨r, rfl, k1⟩ := k_K_wear (J := J) (Rr := Rr) (D := D) e1
  obtain ⟨q, rfl, k2⟩ := k_M_wear (I := (sK_wear I J Rr D r).1) (J := (sK_wear I J Rr D r).2.1) (Rr := (sK_wear I J Rr D r).2.2.1) (D := (sK_wear I J Rr D r).2.2.2) e2
  have hr : mI (r.1) = mI (q.1) := hP.1
  have hrq : q.1 = r.1 := (Int32.toInt_inj.mp hr).symm
  refine ⟨r.1, sK_wear I J Rr D r, sM_wear (sK_wear I J Rr D r).1 (sK_wear I J Rr D r).2.1 (sK_wear I J Rr D r).2.2.1 (sK_wear I J Rr D r).2.2.2 q, k1, fun l X => ?_, c, Wf, hC, IH_to hP.2.2.2.2.1 (by omega), ⟨hP.2.1, hP.2.2.2.1, hP.2.2.1, hG.2.2.2.1, hG.2.2.2.2.1, hG.2.2.2.2.2⟩, hT, hF, hA, hW, AuI_ch hU (hP.2.2.2.2.2.imp (fun x => ⟨x.1, x.2.1⟩) id), hS, hM, hK⟩
  have k3 := k2 l X
  rw [hrq] at k3
  exact k3
theorem arm_fit {n : Nat} (hn : n ≤ 1000) {I : Nat → Nat → Int32} {J : Nat → Nat → Int64} {Rr : Nat → Nat → Option Nat} {D : zD} (h : INV n I J Rr D) {a1 : Int32} {a2 : Int32} : ∃ (r : Int32) (S1 S2 : zS), (∀ (l : Launch) (X : zX), zMi l yX11_fit cX11_fit 3 (some .int) ({ frames := 4, cells := 0, slots := 0, locals := 121 } : Room) X [.ref (X.1 + 0), .int a1, .int a2] (I, J, Rr, D) r S1) ∧ (∀ (l : Launch) (X : zX), zMi l yX12_fit cX12_fit 5 (some .int) ({ frames := 3, cells := 0, slots := 0, locals := 68 } : Room) X [.ref (X.1 + 128), .int a1, .int a2] S1 r S2) ∧ INVs (n + 1) S2 := by
  obtain ⟨c, Wf, hC, hH, hG, hT, hF, hA, hW, hU, hS, hM, hK⟩ := h
  refine arm_of (x := iK_fit 5000 (mI a1) (mI a2) (mI (I 5 8)) (mI (I 5 9)) (mA (I 10)) (mA (I 9)) (mA (I 6)) (mA (I 11)) (mA (I 8)) (mA (I 7))) (y := iM_fit 5000 (mI a1) (mI a2) (mI (I 128 10)) (mI (I 128 11)) (mA (I 139)) (mA (I 136)) (mA (I 137)) (mA (I 135))) (by rw [hG.1, hG.2.1, hG.2.2.2.1, hG.2.2.2.2.1, hG.2.2.2.2.2]; exact ag_fit (Nat.le_refl 5000) hH) ?_
  intro rI qI e1 e2 hP
  obtain ⟨r, rfl, k1⟩ := k_K_fit (J := J) (Rr := Rr) (D := D) e1
  obtain ⟨q, rfl, k2⟩ := k_M_fit (I := (sK_fit I J Rr D r).1) (J := (sK_fit I J Rr D r).2.1) (Rr := (sK_fit I J Rr D r).2.2.1) (D := (sK_fit I J Rr D r).2.2.2) e2
  have hr : mI (r.1) = mI (q.1) := hP.1
  have hrq : q.1 = r.1 := (Int32.toInt_inj.mp hr).symm
  refine ⟨r.1, sK_fit I J Rr D r, sM_fit (sK_fit I J Rr D r).1 (sK_fit I J Rr D r).2.1 (sK_fit I J Rr D r).2.2.1 (sK_fit I J Rr D r).2.2.2 q, k1, fun l X => ?_, c, Wf, hC, IH_to hP.2 (by omega), hG, hT, hF, hA, hW, hU, hS, hM, hK⟩
  have k3 := k2 l X
  rw [hrq] at k3
  exact k3
theorem arm_mate {n : Nat} (hn : n ≤ 1000) {I : Nat → Nat → Int32} {J : Nat → Nat → Int64} {Rr : Nat → Nat → Option Nat} {D : zD} (h : INV n I J Rr D) {a1 : Int32} : ∃ (r : Int32) (S1 S2 : zS), (∀ (l : Launch) (X : zX), zMi l yX11_mate cX11_mate 2 (some .int) ({ frames := 6, cells := 0, slots := 0, locals := 165 } : Room) X [.ref (X.1 + 0), .int a1] (I, J, Rr, D) r S1) ∧ (∀ (l : Launch) (X : zX), zMi l yX12_mate cX12_mate 2 (some .int) ({ frames := 4, cells := 0, slots := 0, locals := 92 } : Room) X [.ref (X.1 + 128), .int a1] S1 r S2) ∧ INVs (n + 1) S2 := by
  obtain ⟨c, Wf, hC, hH, hG, hT, hF, hA, hW, hU, hS, hM, hK⟩ := h
  refine arm_of (x := iK_mate 5000 (mI a1) (mI (I 5 8)) (mI (I 5 11)) (mI (I 5 10)) (mI (I 5 9)) (mA (I 10)) (mA (I 9)) (mA (I 12)) (mA (I 30)) (mL (J 27)) (mLL (fun q => J (15 + q))) (mL (J 28)) (mA (I 31)) (mA (I 32)) (mA (I 29)) (mL (J 26)) (mA (I 6)) (mA (I 11)) (mA (I 8)) (mA (I 7))) (y := iM_mate 5000 (mI a1) (mI (I 128 10)) (mI (I 128 12)) (mI (I 128 11)) (mA (I 140)) (mA (I 139)) (mA (I 136)) (mA (I 137)) (mA (I 135)) (mA (I 142)) (mA (I 141))) (by rw [hG.1, hG.2.1, hG.2.2.1, hG.2.2.2.1, hG.2.2.2.2.1, hG.2.2.2.2.2]; exact ag_mate (Nat.le_refl 5000) hH) ?_
  intro rI qI e1 e2 hP
  obtain ⟨r, rfl, k1⟩ := k_K_mate (J := J) (Rr := Rr) (D := D) e1
  obtain ⟨q, rfl, k2⟩ := k_M_mate (I := (sK_mate I J Rr D r).1) (J := (sK_mate I J Rr D r).2.1) (Rr := (sK_mate I J Rr D r).2.2.1) (D := (sK_mate I J Rr D r).2.2.2) e2
  have hr : mI (r.1) = mI (q.1) := hP.1
  have hrq : q.1 = r.1 := (Int32.toInt_inj.mp hr).symm
  refine ⟨r.1, sK_mate I J Rr D r, sM_mate (sK_mate I J Rr D r).1 (sK_mate I J Rr D r).2.1 (sK_mate I J Rr D r).2.2.1 (sK_mate I J Rr D r).2.2.2 q, k1, fun l X => ?_, c, Wf, hC, IH_to hP.2.1 (by omega), hG, hT, hF, hA, hW, AuI_ma hU (fun x => ⟨(hP.2.2 x).1, (hP.2.2 x).2.2⟩), hS, hM, hK⟩
  have k3 := k2 l X
  rw [hrq] at k3
  exact k3
theorem arm_matched {n : Nat} (hn : n ≤ 1000) {I : Nat → Nat → Int32} {J : Nat → Nat → Int64} {Rr : Nat → Nat → Option Nat} {D : zD} (h : INV n I J Rr D) {a1 : Int32} : ∃ (r : Int32) (S1 S2 : zS), (∀ (l : Launch) (X : zX), zMi l yX11_matched cX11_matched 2 (some .int) ({ frames := 6, cells := 0, slots := 0, locals := 167 } : Room) X [.ref (X.1 + 0), .int a1] (I, J, Rr, D) r S1) ∧ (∀ (l : Launch) (X : zX), zMi l yX12_matched cX12_matched 5 (some .int) ({ frames := 4, cells := 0, slots := 0, locals := 92 } : Room) X [.ref (X.1 + 128), .int a1] S1 r S2) ∧ INVs (n + 1) S2 := by
  obtain ⟨c, Wf, hC, hH, hG, hT, hF, hA, hW, hU, hS, hM, hK⟩ := h
  refine arm_of (x := iK_matched 5000 (mI a1) (mI (I 5 8)) (mI (I 5 11)) (mI (I 5 10)) (mI (I 5 9)) (mA (I 10)) (mA (I 9)) (mA (I 12)) (mA (I 30)) (mL (J 27)) (mLL (fun q => J (15 + q))) (mL (J 28)) (mA (I 31)) (mA (I 32)) (mA (I 29)) (mL (J 26)) (mA (I 6)) (mA (I 11)) (mA (I 8)) (mA (I 7))) (y := iM_matched 5000 (mI a1) (mI (I 128 10)) (mI (I 128 12)) (mI (I 128 11)) (mA (I 140)) (mA (I 139)) (mA (I 136)) (mA (I 137)) (mA (I 135)) (mA (I 142)) (mA (I 141))) (by rw [hG.1, hG.2.1, hG.2.2.1, hG.2.2.2.1, hG.2.2.2.2.1, hG.2.2.2.2.2]; exact ag_matched (Nat.le_refl 5000) hH) ?_
  intro rI qI e1 e2 hP
  obtain ⟨r, rfl, k1⟩ := k_K_matched (J := J) (Rr := Rr) (D := D) e1
  obtain ⟨q, rfl, k2⟩ := k_M_matched (I := (sK_matched I J Rr D r).1) (J := (sK_matched I J Rr D r).2.1) (Rr := (sK_matched I J Rr D r).2.2.1) (D := (sK_matched I J Rr D r).2.2.2) e2
  have hr : mI (r.1) = mI (q.1) := hP.1
  have hrq : q.1 = r.1 := (Int32.toInt_inj.mp hr).symm
  refine ⟨r.1, sK_matched I J Rr D r, sM_matched (sK_matched I J Rr D r).1 (sK_matched I J Rr D r).2.1 (sK_matched I J Rr D r).2.2.1 (sK_matched I J Rr D r).2.2.2 q, k1, fun l X => ?_, c, Wf, hC, IH_to hP.2.1 (by omega), hG, hT, hF, hA, hW, AuI_ma hU (fun x => ⟨(hP.2.2 x).1, (hP.2.2 x).2.2⟩), hS, hM, hK⟩
  have k3 := k2 l X
  rw [hrq] at k3
  exact k3
