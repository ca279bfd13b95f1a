set_option maxHeartbeats 400000
set_option maxRecDepth 100000
/-! what holds of both objects' cells between two calls -/
def wsel (c0 c1 c2 c3 c4 c5 c6 c7 c8 c9 c10 c11 c12 c13 c14 c15 c16 c17 c18 c19 c20 : Nat → Int32) (a : Nat) : Nat → Int32 := match a with
  | 0 => c0
  | 1 => c1
  | 2 => c2
  | 3 => c3
  | 4 => c4
  | 5 => c5
  | 6 => c6
  | 7 => c7
  | 8 => c8
  | 9 => c9
  | 10 => c10
  | 11 => c11
  | 12 => c12
  | 13 => c13
  | 14 => c14
  | 15 => c15
  | 16 => c16
  | 17 => c17
  | 18 => c18
  | 19 => c19
  | _ => c20
def ivC (I : Nat → Nat → Int32) : Prop := IC (mA (I 2)) (mA (I 130)) (mA (I 129))
def ivH (n : Nat) (I : Nat → Nat → Int32) : Prop := IH n (mI (I 5 8)) (mI (I 5 9)) (mI (I 5 10)) (mI (I 5 12)) (mI (I 5 11)) (mA (I 6)) (mA (I 7)) (mA (I 8)) (mA (I 9)) (mA (I 12)) (mA (I 32))
def ivG (I : Nat → Nat → Int32) : Prop := mI (I 128 10) = mI (I 5 8) ∧ mI (I 128 11) = mI (I 5 9) ∧ mI (I 128 12) = mI (I 5 10) ∧ mA (I 136) = mA (I 6) ∧ mA (I 137) = mA (I 7) ∧ mA (I 135) = mA (I 8)
def ivT (I : Nat → Nat → Int32) : Prop := IT (mI (I 33 3)) (mA (I 34)) ∧ mI (I 128 18) = mI (I 33 3) ∧ mA (I 143) = mA (I 34)
def ivF (I : Nat → Nat → Int32) : Prop := mI (I 128 24) = mI (I 33 10) ∧ mI (I 128 25) = mI (I 33 11)
def ivA (c : Nat) (I : Nat → Nat → Int32) : Prop := IA c (mI (I 37 7)) (mA (I 41)) (mA (I 38)) (mA (I 39)) (mA (I 40)) (mA (I 42)) (mA (I 176)) (mA (I 179)) (mA (I 178)) (mA (I 177)) (mA (I 180)) ∧ mI (I 37 6) = (c : Int) ∧ mI (I 128 67) = (c : Int)
def ivW (c : Nat) (Wf : Nat → List St) (I : Nat → Nat → Int32) (Rr : Nat → Nat → Option Nat) (D : zD) : Prop := IW c (mA (I 38)) (Rr 43) (mD D) (mA (I 173)) (mA (I 168)) (mA (I 167)) (mA (I 165)) (mA (I 169)) (mA (I 166)) (mA (I 171)) (mA (I 170)) (mA (I 172)) Wf ∧ Rr 43 0 = none
def sel8 {α : Type} (a0 a1 a2 a3 a4 a5 a6 a7 : α) (q : Nat) : α := match q with
  | 0 => a0
  | 1 => a1
  | 2 => a2
  | 3 => a3
  | 4 => a4
  | 5 => a5
  | 6 => a6
  | _ => a7
theorem all8 {P : Nat → Prop} (h0 : P 0) (h1 : P 1) (h2 : P 2) (h3 : P 3) (h4 : P 4) (h5 : P 5) (h6 : P 6) (h7 : P 7) : ∀ s, s < 8 → P s := by
  intro s hs
  obtain rfl | rfl | rfl | rfl | rfl | rfl | rfl | rfl : s = 0 ∨ s = 1 ∨ s = 2 ∨ s = 3 ∨ s = 4 ∨ s = 5 ∨ s = 6 ∨ s = 7 := by omega
  all_goals assumption
abbrev rI (I : Nat → Nat → Int32) (j : Nat) : Nat → Int := mA (sel8 (I 58 j) (I 65 j) (I 72 j) (I 79 j) (I 86 j) (I 93 j) (I 100 j) (I 107 j))
abbrev rJ (J : Nat → Nat → Int64) (j : Nat) : Nat → Nat → Int := mLL (sel8 (J (58 + j)) (J (65 + j)) (J (72 + j)) (J (79 + j)) (J (86 + j)) (J (93 + j)) (J (100 + j)) (J (107 + j)))
def ivU (c : Nat) (Wf : Nat → List St) (I : Nat → Nat → Int32) (J : Nat → Nat → Int64) : Prop := AuI (mkA c (mA (I 38)) (mA (I 40)) (mA (I 39)) (mA (I 41)) (mA (I 42)) Wf (mA (I 12))) (mI (I 5 12)) (mI (I 5 11)) (mI (I 44 8)) (mI (I 44 7)) (mA (I (48 + 2))) (mA (I (48 + 3))) (mA (I (48 + 4))) (mA (I (48 + 1))) (rI I 10) (rI I 11) (rJ J 3) (rJ J 1) (rJ J 2) (rJ J 4) (rJ J 6) (rJ J 5)
def ivS (c : Nat) (I : Nat → Nat → Int32) : Prop := mI (I 128 73) = mI (I 0 5) ∧ -1 ≤ mI (I 0 5) ∧ mI (I 0 5) ≤ (c : Int)
def ivM (I : Nat → Nat → Int32) : Prop := mI (I 128 84) = mI (I 44 9)
def ivK (I : Nat → Nat → Int32) : Prop := (∀ a, a < 21 → ∀ i, i < kS_len a → mA (wsel (I 144) (I 158) (I 157) (I 156) (I 163) (I 164) (I 159) (I 160) (I 161) (I 162) (I 145) (I 146) (I 147) (I 149) (I 148) (I 150) (I 153) (I 154) (I 155) (I 152) (I 151) a) i = jch a i) ∧ ∀ n, n < 6 → mA (I 138) n = jc2.getD n 0
def INV (n : Nat) (I : Nat → Nat → Int32) (J : Nat → Nat → Int64) (Rr : Nat → Nat → Option Nat) (D : zD) : Prop := ∃ (c : Nat) (Wf : Nat → List St), ivC I ∧ ivH n I ∧ ivG I ∧ ivT I ∧ ivF I ∧ ivA c I ∧ ivW c Wf I Rr D ∧ ivU c Wf I J ∧ ivS c I ∧ ivM I ∧ ivK I
def INVs (n : Nat) (S : zS) : Prop := INV n S.1 S.2.1 S.2.2.1 S.2.2.2
theorem IH_to {n m g lo lim ch isM : Int} {P W S fi gw ma : Nat → Int} (h : IH n g lo lim ch isM P W S fi gw ma) (e : n ≤ m) : IH m g lo lim ch isM P W S fi gw ma := ⟨h.1, h.2.1, h.2.2.1, h.2.2.2.1, h.2.2.2.2.1, Int.le_trans h.2.2.2.2.2 e⟩
theorem ivH_up {n : Nat} {I : Nat → Nat → Int32} (h : ivH n I) : ivH (n + 1) I := IH_to h (by omega)
theorem arm_of {A B : Type} {x : Option A} {y : Option B} {P : A → B → Prop} {G : Prop} (h : wp x (fun r => wp y (P r))) (k : ∀ r q, x = some r → y = some q → P r q → G) : G := by
  obtain ⟨r, e1, q, e2, hp⟩ := h
  exact k r q e1 e2 hp
theorem AuI_cg {A : AW} {ch isM cA kA : Int} {kfi kfp knx kwr rsh rto rsh2 rto2 : Nat → Int} {ral rde rfa rpa rpu rpy ral2 rde2 rfa2 rpa2 rpu2 rpy2 : Nat → Nat → Int} (h : AuI A ch isM cA kA kfi kfp knx kwr rsh rto ral rde rfa rpa rpu rpy) (e1 : ∀ s, s < 8 → rsh2 s = rsh s) (e2 : ∀ s, s < 8 → rto2 s = rto s) (e3 : ∀ s, s < 8 → ral2 s = ral s) (e4 : ∀ s, s < 8 → rde2 s = rde s) (e5 : ∀ s, s < 8 → rfa2 s = rfa s) (e6 : ∀ s, s < 8 → rpa2 s = rpa s) (e7 : ∀ s, s < 8 → rpu2 s = rpu s) (e8 : ∀ s, s < 8 → rpy2 s = rpy s) : AuI A ch isM cA kA kfi kfp knx kwr rsh2 rto2 ral2 rde2 rfa2 rpa2 rpu2 rpy2 := by
  refine ⟨h.1, fun e => ?_⟩
  obtain ⟨h1, h2, h3, h4⟩ := h.2 e
  refine ⟨h1, h2, h3, fun s hs => ?_⟩
  rw [e1 s hs, e2 s hs, e3 s hs, e4 s hs, e5 s hs, e6 s hs, e7 s hs, e8 s hs]
  exact h4 s hs
theorem ivU_in {c : Nat} {Wf : Nat → List St} {I : Nat → Nat → Int32} {J : Nat → Nat → Int64} (h : ivU c Wf I J) : AuI (mkA c (mA (I 38)) (mA (I 40)) (mA (I 39)) (mA (I 41)) (mA (I 42)) Wf (mA (I 12))) (mI (I 5 12)) (mI (I 5 11)) (mI (I 44 8)) (mI (I 44 7)) (mA (I (48 + 2))) (mA (I (48 + 3))) (mA (I (48 + 4))) (mA (I (48 + 1))) (mA (fun q => I (58 + 7 * q) 10)) (mA (fun q => I (58 + 7 * q) 11)) (mLL (fun q => J (58 + 7 * q + 3))) (mLL (fun q => J (58 + 7 * q + 1))) (mLL (fun q => J (58 + 7 * q + 2))) (mLL (fun q => J (58 + 7 * q + 4))) (mLL (fun q => J (58 + 7 * q + 6))) (mLL (fun q => J (58 + 7 * q + 5))) := AuI_cg h (all8 rfl rfl rfl rfl rfl rfl rfl rfl) (all8 rfl rfl rfl rfl rfl rfl rfl rfl) (all8 rfl rfl rfl rfl rfl rfl rfl rfl) (all8 rfl rfl rfl rfl rfl rfl rfl rfl) (all8 rfl rfl rfl rfl rfl rfl rfl rfl) (all8 rfl rfl rfl rfl rfl rfl rfl rfl) (all8 rfl rfl rfl rfl rfl rfl rfl rfl) (all8 rfl rfl rfl rfl rfl rfl rfl rfl)
theorem IW_add {c : Nat} {ki ki2 : Nat → Int} {wr : Nat → Option Nat} {D : DynI} {v fi ib mn se so sE sF tE : Nat → Int} {Wf : Nat → List St} (h : IW c ki wr D v fi ib mn se so sE sF tE Wf) (e : ∀ k, k ≠ c + 1 → ki2 k = ki k) (e2 : ki2 (c + 1) ≠ 1) : IW (c + 1) ki2 wr D v fi ib mn se so sE sF tE Wf := by
  intro k k1 k2 k3
  by_cases hk : k = c + 1
  · subst hk
    exact absurd k3 e2
  · exact h k k1 (by omega) (by rw [← e k hk]; exact k3)
theorem aRes_iv {c : Nat} {pay : Int} {am ki sh te vb aK aN aS aT aV : Nat → Int} {r1 r2 c2 c3 pay2 : Int} {am2 ki2 sh2 te2 vb2 aK2 aN2 aS2 aT2 aV2 : Nat → Int} (hA : IA c pay am ki sh te vb aK aN aS aT aV) (hP : aRes c pay am ki sh te vb aK aN aS aT aV r1 r2 c2 c3 pay2 am2 ki2 sh2 te2 vb2 aK2 aN2 aS2 aT2 aV2) {wr : Nat → Option Nat} {D : DynI} {v fi ib mn se so sE sF tE gw : Nat → Int} {Wf : Nat → List St} (hW : IW c ki wr D v fi ib mn se so sE sF tE Wf) {ch isM cA kA ka : Int} {kfi kfp knx kwr rsh rto : Nat → Int} {ral rde rfa rpa rpu rpy : Nat → Nat → Int} (hU : AuI (mkA c ki te sh am vb Wf gw) ch isM cA kA kfi kfp knx kwr rsh rto ral rde rfa rpa rpu rpy) (hk : ka ≤ c) : ∃ d : Nat, c2 = (d : Int) ∧ c3 = (d : Int) ∧ IA d pay2 am2 ki2 sh2 te2 vb2 aK2 aN2 aS2 aT2 aV2 ∧ IW d ki2 wr D v fi ib mn se so sE sF tE Wf ∧ AuI (mkA d ki2 te2 sh2 am2 vb2 Wf gw) ch isM cA kA kfi kfp knx kwr rsh rto ral rde rfa rpa rpu rpy ∧ ka ≤ (d : Int) := by
  obtain ⟨-, e3, h | h⟩ := hP
  · obtain ⟨-, a1, a2, a3, a4, a5, a6, a7, a8, a9, a10, a11, a12⟩ := h
    subst a1 a2 a3 a4 a5 a6 a7 a8 a9 a10 a11 a12
    exact ⟨c, rfl, e3, hA, hW, hU, hk⟩
  · obtain ⟨a1, a2, a3, a4, a5⟩ := h
    exact ⟨c + 1, a1, e3.trans a1, a2, IW_add hW (fun k hk => (a3 k hk).2.1) a5, AuI_add (Ext_of hA a2 a3 a4) hU, by omega⟩
theorem tIn_I (x : Int32) : tIn (mI x) := by
  have h1 := Int32.le_toInt x
  have h2 := Int32.toInt_lt x
  show -2147483648 ≤ x.toInt ∧ x.toInt < 2147483648
  omega
