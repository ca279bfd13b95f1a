set_option maxHeartbeats 1000000
set_option maxRecDepth 100000
theorem ext_writ {c : Nat} {ki te sh am vb gw : Nat → Int} {Wf : Nat → List St} {K t s a : Int} {V : List St} : Ext (mkA c ki te sh am vb Wf gw) (mkA (c + 1) (va_up ki (c + 1) K) (va_up te (c + 1) t) (va_up sh (c + 1) s) (va_up am (c + 1) a) vb (va_up Wf (c + 1) V) gw) := by
  refine ⟨rfl, fun k hk => ?_, fun k _ _ => Or.inl rfl, rfl⟩
  have e : k ≠ c + 1 := fun z => by
    have hk2 : k ≤ c := hk
    omega
  exact ⟨va_up_ne _ _ e, va_up_ne _ _ e, va_up_ne _ _ e, va_up_ne _ _ e, va_up_ne _ _ e⟩
theorem arm_writ {n : Nat} (hn : n ≤ 1000) {I : Nat → Nat → Int32} {J : Nat → Nat → Int64} {Rr : Nat → Nat → Option Nat} {D : zD} (h : INV n I J Rr D) {a1 : Int32} : ∃ (r : Int32) (S1 S2 : zS), (∀ (l : Launch) (X : zX), zMi l yX11_writ cX11_writ 3 (some .int) ({ frames := 666, cells := 27, slots := 794, locals := 16615 } : Room) X [.ref (X.1 + 0), .int a1] (I, J, Rr, D) r S1) ∧ (∀ (l : Launch) (X : zX), zMi l yX12_writ cX12_writ 3 (some .int) ({ frames := 10, cells := 0, slots := 0, locals := 216 } : Room) X [.ref (X.1 + 128), .int a1] S1 r S2) ∧ INVs (n + 1) S2 := by
  obtain ⟨c, Wf, hC, hH, hG, hT, hF, hA, hW, hU, hS, hM, hK⟩ := h
  obtain ⟨m, hm⟩ : ∃ m : Nat, mI (I 33 3) = (m : Int) := ⟨(mI (I 33 3)).toNat, by have := hT.1.1; omega⟩
  have hm6 : m ≤ 600 := by have := hT.1.1; omega
  have hm2 : mI (I 128 18) = (m : Int) := hT.2.1.trans hm
  refine arm_of (x := iK_writ 5000 (mI a1) (mD D) (mI (I 37 6)) (mA (I 41)) (mA (I 38)) (mA (I 39)) (mA (I 40)) (mO (Rr 43)) (mI (I 33 7)) (mI (I 33 5)) (mI (I 33 10)) (mI (I 33 11)) (mI (I 33 6)) (mI (I 33 3)) (mI (I 33 9)) (mI (I 33 4)) (mI (I 33 8)) (mA (I 35)) (mO (Rr 36)) (mA (I 34))) (y := iM_writ 5000 (mI a1) (mI (I 128 67)) (mI (I 128 19)) (mI (I 128 22)) (mI (I 128 23)) (mI (I 128 60)) (mI (I 128 56)) (mI (I 128 20)) (mI (I 128 21)) (mI (I 128 24)) (mI (I 128 25)) (mI (I 128 59)) (mI (I 128 18)) (mI (I 128 58)) (mA (I 176)) (mA (I 179)) (mA (I 178)) (mA (I 177)) (mA (I 154)) (mA (I 146)) (mA (I 152)) (mA (I 145)) (mA (I 173)) (mA (I 161)) (mA (I 144)) (mA (I 168)) (mA (I 150)) (mA (I 149)) (mA (I 167)) (mA (I 165)) (mA (I 164)) (mA (I 163)) (mA (I 153)) (mA (I 151)) (mA (I 162)) (mA (I 147)) (mA (I 156)) (mA (I 158)) (mA (I 169)) (mA (I 157)) (mA (I 155)) (mA (I 166)) (mA (I 148)) (mA (I 171)) (mA (I 170)) (mA (I 143)) (mA (I 159)) (mA (I 172)) (mA (I 180)) (mA (I 174)) (mA (I 160))) (by rw [hA.2.2, hA.2.1, hm2, hT.2.2, hm]; exact ag_writ (W := fun a => mA (wsel (I 144) (I 158) (I 157) (I 156) (I 163) (I 164) (I 159) (I 160) (I 161) (I 162) (I 145) (I 146) (I 147) (I 149) (I 148) (I 150) (I 153) (I 154) (I 155) (I 152) (I 151) a)) (Nat.le_refl 5000) hm6 hT.1.2 hK.1 hA.1 hW.1 (P := fun r q => r.1 = q.1 ∧ (r.2.2.2.2.2.2.2.2.2.2.2.2.2.1 = 0 ∧ q.2.2.2.2.2.2.2.2.2.2.2.2.1 = 0) ∧ ((q.2.2.2.2.2.2.2.2.2.1 = r.2.2.2.2.2.2.2.2.2.2.1 ∧ q.2.2.2.2.2.2.2.2.2.2.1 = r.2.2.2.2.2.2.2.2.2.2.2.1) ∨ (r.2.2.2.2.2.2.2.2.2.2.1 = mI (I 33 10) ∧ q.2.2.2.2.2.2.2.2.2.1 = mI (I 128 24) ∧ r.2.2.2.2.2.2.2.2.2.2.2.1 = mI (I 33 11) ∧ q.2.2.2.2.2.2.2.2.2.2.1 = mI (I 128 25))) ∧ ∃ (d : Nat) (Wg : Nat → List St), r.2.2.1 = (d : Int) ∧ q.2.1 = (d : Int) ∧ IA d (mI (I 37 7)) (r.2.2.2.1) (r.2.2.2.2.1) (r.2.2.2.2.2.1) (r.2.2.2.2.2.2.1) (mA (I 42)) (q.2.2.2.2.2.2.2.2.2.2.2.2.2.2.1) (q.2.2.2.2.2.2.2.2.2.2.2.2.2.2.2.1) (q.2.2.2.2.2.2.2.2.2.2.2.2.2.2.2.2.1) (q.2.2.2.2.2.2.2.2.2.2.2.2.2.2.2.2.2.1) (q.2.2.2.2.2.2.2.2.2.2.2.2.2.2.2.2.2.2.2.2.2.2.2.2.2.2.2.1) ∧ (IW d (r.2.2.2.2.1) (r.2.2.2.2.2.2.2.1) (r.2.1) (q.2.2.2.2.2.2.2.2.2.2.2.2.2.2.2.2.2.2.1) (q.2.2.2.2.2.2.2.2.2.2.2.2.2.2.2.2.2.2.2.1) (q.2.2.2.2.2.2.2.2.2.2.2.2.2.2.2.2.2.2.2.2.1) (q.2.2.2.2.2.2.2.2.2.2.2.2.2.2.2.2.2.2.2.2.2.1) (q.2.2.2.2.2.2.2.2.2.2.2.2.2.2.2.2.2.2.2.2.2.2.1) (q.2.2.2.2.2.2.2.2.2.2.2.2.2.2.2.2.2.2.2.2.2.2.2.1) (q.2.2.2.2.2.2.2.2.2.2.2.2.2.2.2.2.2.2.2.2.2.2.2.2.1) (q.2.2.2.2.2.2.2.2.2.2.2.2.2.2.2.2.2.2.2.2.2.2.2.2.2.1) (q.2.2.2.2.2.2.2.2.2.2.2.2.2.2.2.2.2.2.2.2.2.2.2.2.2.2.1) Wg ∧ (r.2.2.2.2.2.2.2.1) 0 = none) ∧ AuI (mkA d (r.2.2.2.2.1) (r.2.2.2.2.2.2.1) (r.2.2.2.2.2.1) (r.2.2.2.1) (mA (I 42)) Wg (mA (I 12))) (mI (I 5 12)) (mI (I 5 11)) (mI (I 44 8)) (mI (I 44 7)) (mA (I (48 + 2))) (mA (I (48 + 3))) (mA (I (48 + 4))) (mA (I (48 + 1))) (rI I 10) (rI I 11) (rJ J 3) (rJ J 1) (rJ J 2) (rJ J 4) (rJ J 6) (rJ J 5) ∧ c ≤ d) ⟨rfl, ⟨rfl, rfl⟩, Or.inr ⟨rfl, rfl, rfl, rfl⟩, c, Wf, rfl, rfl, hA.1, hW, hU, Nat.le_refl c⟩ (fun E k p at2 cn2 kd2 o2 s2 st2 v2 stm2 at3 bs3 s3 e3 o3 w3 v3 fi3 ib3 mn3 se3 so3 sE3 sF3 tE3 wt3 x1 x2 x3 => ⟨rfl, ⟨rfl, rfl⟩, Or.inl ⟨rfl, rfl⟩, c, Wf, rfl, rfl, hA.1, ⟨x3, hW.2⟩, hU, Nat.le_refl c⟩) (fun E V wn at2 cn2 kd2 o2 s2 st2 v2 stm2 at3 bs3 s3 e3 o3 w3 v3 fi3 ib3 mn3 se3 so3 sE3 sF3 tE3 wt3 x1 x2 x3 x4 x5 x6 => ⟨rfl, ⟨rfl, rfl⟩, Or.inl ⟨rfl, rfl⟩, c + 1, va_up Wf (c + 1) V, rfl, rfl, x5, ⟨x6, show va_up (Rr 43) (c + 1) (some wn) 0 = none from (if_neg (Nat.succ_ne_zero c).symm).trans hW.2⟩, AuI_add ext_writ hU, Nat.le_succ c⟩)) ?_
  intro rI qI e1 e2 hP
  obtain ⟨r, rfl, k1⟩ := k_K_writ (J := J) (Rr := Rr) (D := D) e1
  obtain ⟨q, rfl, k2⟩ := k_M_writ (I := (sK_writ I J Rr D r).1) (J := (sK_writ I J Rr D r).2.1) (Rr := (sK_writ I J Rr D r).2.2.1) (D := (sK_writ I J Rr D r).2.2.2) e2
  have hr : mI (r.1) = mI (q.1) := hP.1
  have hrq : q.1 = r.1 := (Int32.toInt_inj.mp hr).symm
  obtain ⟨-, ⟨w1, w2⟩, w3, d, Wg, d1, d2, d3, d4, d5, d6⟩ := hP
  have hF2 : mI (q.2.2.2.2.2.2.2.2.2.1) = mI (r.2.2.2.2.2.2.2.2.2.2.1) ∧ mI (q.2.2.2.2.2.2.2.2.2.2.1) = mI (r.2.2.2.2.2.2.2.2.2.2.2.1) := by
    rcases w3 with z | ⟨z1, z2, z3, z4⟩
    · exact z
    · exact ⟨(z2.trans hF.1).trans z1.symm, (z4.trans hF.2).trans z3.symm⟩
  have hIT : ivT (sM_writ (sK_writ I J Rr D r).1 (sK_writ I J Rr D r).2.1 (sK_writ I J Rr D r).2.2.1 (sK_writ I J Rr D r).2.2.2 q).1 := by
    refine ⟨⟨?_, hT.1.2⟩, w2.trans w1.symm, hT.2.2⟩
    have w4 : mI (r.2.2.2.2.2.2.2.2.2.2.2.2.2.1) = 0 := w1
    show 0 ≤ mI (r.2.2.2.2.2.2.2.2.2.2.2.2.2.1) ∧ mI (r.2.2.2.2.2.2.2.2.2.2.2.2.2.1) ≤ 600
    omega
  refine ⟨r.1, sK_writ I J Rr D r, sM_writ (sK_writ I J Rr D r).1 (sK_writ I J Rr D r).2.1 (sK_writ I J Rr D r).2.2.1 (sK_writ I J Rr D r).2.2.2 q, k1, fun l X => ?_, d, Wg, hC, ivH_up hH, hG, hIT, hF2, ⟨d3, d1, d2⟩, d4, d5, ⟨hS.1, hS.2.1, Int.le_trans hS.2.2 (Int.ofNat_le.mpr d6)⟩, hM, hK⟩
  have k3 := k2 l X
  rw [hrq] at k3
  exact k3
