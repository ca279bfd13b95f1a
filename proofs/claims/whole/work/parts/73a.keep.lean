set_option maxHeartbeats 4000000
set_option maxRecDepth 100000
/-! the audit's state stays, as acts are added and the chest changes -/
/-- one act more: what was known is known as before -/
def Ext (A B : AW) : Prop := B.c = A.c + 1 ∧ (∀ k, k ≤ A.c → B.ki k = A.ki k ∧ B.te k = A.te k ∧ B.sh k = A.sh k ∧ B.am k = A.am k ∧ B.Wf k = A.Wf k) ∧ (∀ k, 1 ≤ k → k ≤ A.c → B.vb k = A.vb k ∨ (A.vb k = 0 ∧ B.vb k = ((A.c + 1 : Nat) : Int))) ∧ B.gw = A.gw
theorem ext_knw {A B : AW} (h : Ext A B) {K wo : Int} (hK : K ≤ A.c) {k : Nat} (h1 : 1 ≤ k) (h2 : k ≤ A.c) : knw B K wo k ↔ knw A K wo k := by
  rcases h.2.2.1 k h1 h2 with e | ⟨e1, e2⟩
  · show (_ ∧ (B.vb k = 0 ∨ K < B.vb k) ∧ _) ↔ _
    rw [e]
  · show (_ ∧ (B.vb k = 0 ∨ K < B.vb k) ∧ _) ↔ (_ ∧ (A.vb k = 0 ∨ K < A.vb k) ∧ _)
    rw [e1, e2]
    exact ⟨fun q => ⟨q.1, Or.inl rfl, q.2.2⟩, fun q => ⟨q.1, Or.inr (by omega), q.2.2⟩⟩
theorem ext_no {A B : AW} {K wo : Int} (hK : K ≤ A.c) : ¬ knw B K wo (A.c + 1) := fun q => by
  have := q.1
  omega
theorem ext_wA {A B : AW} (h : Ext A B) {K wo : Int} (hK : K ≤ A.c) (x : Nat) : ∀ n, n ≤ A.c → wA B K wo x n = wA A K wo x n
  | 0, _ => rfl
  | n + 1, hn => by
    have ih := ext_wA h (wo := wo) hK x n (by omega)
    have e := h.2.1 (n + 1) hn
    have ew := h.2.1 (wA A K wo x n) (by have := (wA_s A K wo x n).1; omega)
    have kk := ext_knw h (wo := wo) hK (show 1 ≤ n + 1 by omega) hn
    show (if B.ki (n + 1) = 1 ∧ knw B K wo (n + 1) ∧ B.te (n + 1) ≤ x ∧ (wA B K wo x n = 0 ∨ B.te (wA B K wo x n) ≤ B.te (n + 1)) then n + 1 else wA B K wo x n) = (if A.ki (n + 1) = 1 ∧ knw A K wo (n + 1) ∧ A.te (n + 1) ≤ x ∧ (wA A K wo x n = 0 ∨ A.te (wA A K wo x n) ≤ A.te (n + 1)) then n + 1 else wA A K wo x n)
    rw [ih, e.1, e.2.1, ew.2.1]
    by_cases c : A.ki (n + 1) = 1 ∧ knw A K wo (n + 1) ∧ A.te (n + 1) ≤ x ∧ (wA A K wo x n = 0 ∨ A.te (wA A K wo x n) ≤ A.te (n + 1))
    · rw [if_pos c, if_pos ⟨c.1, kk.mpr c.2.1, c.2.2⟩]
    · rw [if_neg c, if_neg (fun q => c ⟨q.1, kk.mp q.2.1, q.2.2⟩)]
theorem ext_fA {A B : AW} (h : Ext A B) {K wo : Int} (hK : K ≤ A.c) (x : Nat) : ∀ n, n ≤ A.c → fA B K wo x n = fA A K wo x n
  | 0, _ => rfl
  | n + 1, hn => by
    have ih := ext_fA h (wo := wo) hK x n (by omega)
    have e := h.2.1 (n + 1) hn
    have kk := ext_knw h (wo := wo) hK (show 1 ≤ n + 1 by omega) hn
    show (if B.ki (n + 1) = 4 ∧ knw B K wo (n + 1) ∧ B.te (n + 1) = x then B.am (n + 1) else fA B K wo x n) = (if A.ki (n + 1) = 4 ∧ knw A K wo (n + 1) ∧ A.te (n + 1) = x then A.am (n + 1) else fA A K wo x n)
    rw [ih, e.1, e.2.1, e.2.2.2.1]
    by_cases c : A.ki (n + 1) = 4 ∧ knw A K wo (n + 1) ∧ A.te (n + 1) = x
    · rw [if_pos c, if_pos ⟨c.1, kk.mpr c.2.1, c.2.2⟩]
    · rw [if_neg c, if_neg (fun q => c ⟨q.1, kk.mp q.2.1, q.2.2⟩)]
theorem ext_mK {A B : AW} (h : Ext A B) {K wo kd : Int} (hK : K ≤ A.c) (x : Nat) : ∀ n, n ≤ A.c → mK B K wo kd x n = mK A K wo kd x n
  | 0, _ => rfl
  | n + 1, hn => by
    have ih := ext_mK h (wo := wo) (kd := kd) hK x n (by omega)
    have e := h.2.1 (n + 1) hn
    have kk := ext_knw h (wo := wo) hK (show 1 ≤ n + 1 by omega) hn
    show (if B.ki (n + 1) = kd ∧ knw B K wo (n + 1) ∧ B.te (n + 1) = x then n + 1 else mK B K wo kd x n) = (if A.ki (n + 1) = kd ∧ knw A K wo (n + 1) ∧ A.te (n + 1) = x then n + 1 else mK A K wo kd x n)
    rw [ih, e.1, e.2.1]
    by_cases c : A.ki (n + 1) = kd ∧ knw A K wo (n + 1) ∧ A.te (n + 1) = x
    · rw [if_pos c, if_pos ⟨c.1, kk.mpr c.2.1, c.2.2⟩]
    · rw [if_neg c, if_neg (fun q => c ⟨q.1, kk.mp q.2.1, q.2.2⟩)]
theorem ext_pSum {A B : AW} (h : Ext A B) {K wo mv mt : Int} (hK : K ≤ A.c) (x : Nat) (g : Nat → Int) : ∀ n, n ≤ A.c → pSum B K wo mv mt x g n = pSum A K wo mv mt x g n
  | 0, _ => rfl
  | n + 1, hn => by
    have ih := ext_pSum h (wo := wo) (mv := mv) (mt := mt) hK x g n (by omega)
    have e := h.2.1 (n + 1) hn
    have kk := ext_knw h (wo := wo) hK (show 1 ≤ n + 1 by omega) hn
    have ii : isT B K wo mv mt x (n + 1) ↔ isT A K wo mv mt x (n + 1) := by
      show ((B.ki (n + 1) = 2 ∨ B.ki (n + 1) = 3) ∧ knw B K wo (n + 1) ∧ (if ((n + 1 : Nat) : Int) = mv then mt else B.te (n + 1)) = x) ↔ _
      rw [e.1, e.2.1]
      exact ⟨fun q => ⟨q.1, kk.mp q.2.1, q.2.2⟩, fun q => ⟨q.1, kk.mpr q.2.1, q.2.2⟩⟩
    show pSum B K wo mv mt x g n + (if isT B K wo mv mt x (n + 1) then g (n + 1) else 0) = pSum A K wo mv mt x g n + (if isT A K wo mv mt x (n + 1) then g (n + 1) else 0)
    rw [ih]
    by_cases c : isT A K wo mv mt x (n + 1)
    · rw [if_pos c, if_pos (ii.mpr c)]
    · rw [if_neg c, if_neg (fun q => c (ii.mp q))]
theorem ext_pA {A B : AW} (h : Ext A B) {K wo mv mt s f bl : Int} (hK : K ≤ A.c) (x : Nat) : ∀ n, n ≤ A.c → pA B K wo mv mt s x f bl n = pA A K wo mv mt s x f bl n
  | 0, _ => rfl
  | n + 1, hn => by
    have ih := ext_pA h (wo := wo) (mv := mv) (mt := mt) (s := s) (f := f) (bl := bl) hK x n (by omega)
    have e := h.2.1 (n + 1) hn
    have kk := ext_knw h (wo := wo) hK (show 1 ≤ n + 1 by omega) hn
    have ii : isP B K wo mv mt s x (n + 1) ↔ isP A K wo mv mt s x (n + 1) := by
      show ((B.ki (n + 1) = 2 ∨ B.ki (n + 1) = 3) ∧ knw B K wo (n + 1) ∧ B.sh (n + 1) = s ∧ (if ((n + 1 : Nat) : Int) = mv then mt else B.te (n + 1)) = x) ↔ _
      rw [e.1, e.2.1, e.2.2.1]
      exact ⟨fun q => ⟨q.1, kk.mp q.2.1, q.2.2⟩, fun q => ⟨q.1, kk.mpr q.2.1, q.2.2⟩⟩
    have ew : wrt B f bl (n + 1) = wrt A f bl (n + 1) := by
      unfold wrt
      rw [e.1, e.2.2.2.1, h.2.2.2]
    show pA B K wo mv mt s x f bl n + (if isP B K wo mv mt s x (n + 1) then wrt B f bl (n + 1) else 0) = pA A K wo mv mt s x f bl n + (if isP A K wo mv mt s x (n + 1) then wrt A f bl (n + 1) else 0)
    rw [ih, ew]
    by_cases c : isP A K wo mv mt s x (n + 1)
    · rw [if_pos c, if_pos (ii.mpr c)]
    · rw [if_neg c, if_neg (fun q => c (ii.mp q))]
theorem ext_wAc {A B : AW} (h : Ext A B) {K wo : Int} (hK : K ≤ A.c) (x : Nat) : wA B K wo x B.c = wA A K wo x A.c := by
  rw [h.1, ← ext_wA h hK x A.c (Nat.le_refl _)]
  exact if_neg (fun q => ext_no hK q.2.1)
theorem ext_fAc {A B : AW} (h : Ext A B) {K wo : Int} (hK : K ≤ A.c) (x : Nat) : fA B K wo x B.c = fA A K wo x A.c := by
  rw [h.1, ← ext_fA h hK x A.c (Nat.le_refl _)]
  exact if_neg (fun q => ext_no hK q.2.1)
theorem ext_mKc {A B : AW} (h : Ext A B) {K wo kd : Int} (hK : K ≤ A.c) (x : Nat) : mK B K wo kd x B.c = mK A K wo kd x A.c := by
  rw [h.1, ← ext_mK h hK x A.c (Nat.le_refl _)]
  exact if_neg (fun q => ext_no hK q.2.1)
theorem ext_pSumc {A B : AW} (h : Ext A B) {K wo mv mt : Int} (hK : K ≤ A.c) (x : Nat) (g : Nat → Int) : pSum B K wo mv mt x g B.c = pSum A K wo mv mt x g A.c := by
  rw [h.1, ← ext_pSum h hK x g A.c (Nat.le_refl _)]
  show _ + (if isT B K wo mv mt x (A.c + 1) then _ else _) = _
  rw [if_neg (fun q => ext_no hK q.2.1), Int.add_zero]
theorem ext_pAc {A B : AW} (h : Ext A B) {K wo mv mt s f bl : Int} (hK : K ≤ A.c) (x : Nat) : pA B K wo mv mt s x f bl B.c = pA A K wo mv mt s x f bl A.c := by
  rw [h.1, ← ext_pA h hK x A.c (Nat.le_refl _)]
  show _ + (if isP B K wo mv mt s x (A.c + 1) then _ else _) = _
  rw [if_neg (fun q => ext_no hK q.2.1), Int.add_zero]
theorem ext_wld {A B : AW} (h : Ext A B) {K wo mv mt s : Int} (hK : K ≤ A.c) : wld B K wo mv mt s = wld A K wo mv mt s := by
  have e1 : (fun x => wtA B K wo x) = fun x => wtA A K wo x := funext (fun x => by
    unfold wtA
    rw [ext_wAc h hK x]
    have ws := (wA_s A K wo x A.c).1
    rw [(h.2.1 _ ws).2.2.2.2])
  have e2 : (fun x bl => pA B K wo mv mt s x (fA B K wo x B.c) bl B.c) = fun x bl => pA A K wo mv mt s x (fA A K wo x A.c) bl A.c := funext (fun x => funext (fun bl => by
    rw [ext_fAc h hK x, ext_pAc h hK x]))
  show ((fun x => wtA B K wo x), _) = ((fun x => wtA A K wo x), _)
  rw [e1]
  exact congrArg _ e2
theorem AuI_add {A B : AW} (hE : Ext A B) {ch isM cA kA : Int} {kfi kfp knx kwr rsh rto : Nat → Int} {ral rde rfa rpa rpu rpy : Nat → Nat → Int} (h : AuI A ch isM cA kA kfi kfp knx kwr rsh rto ral rde rfa rpa rpu rpy) : AuI B ch isM cA kA kfi kfp knx kwr rsh rto ral rde rfa rpa rpu rpy := by
  refine ⟨h.1, fun e => ?_⟩
  obtain ⟨h1, h2, ⟨h3, h4, h5⟩, h6⟩ := h.2 e
  have hK := h2.2
  refine ⟨h1, ⟨h2.1, by rw [hE.1]; omega⟩, ⟨fun t ht => ?_, fun t ht => ?_, fun t ht => ?_⟩, fun s hs => ?_⟩
  · rw [ext_wAc hE hK]
    exact h3 t ht
  · rw [ext_mKc hE hK]
    exact h4 t ht
  · obtain ⟨L, l1, l2, l3, l4⟩ := h5 t ht
    refine ⟨L, l1, l2, fun j hj => ?_, fun g => ?_⟩
    · obtain ⟨a1, a2⟩ := l3 j hj
      rw [hE.1, (hE.2.1 j a1.2).1]
      exact ⟨⟨a1.1, by omega⟩, a2⟩
    · rw [ext_pSumc hE hK]
      exact l4 g
  · have := h6 s hs
    unfold RoOk at this ⊢
    rw [ext_wld hE hK]
    exact this
/-- the chest has changed, or has not -/
theorem AuI_ch {A : AW} {ch isM ch2 isM2 cA kA : Int} {kfi kfp knx kwr rsh rto : Nat → Int} {ral rde rfa rpa rpu rpy : Nat → Nat → Int} (h : AuI A ch isM cA kA kfi kfp knx kwr rsh rto ral rde rfa rpa rpu rpy) (hc : (ch2 = ch ∧ isM2 = isM) ∨ ch2 = ch + 1) : AuI A ch2 isM2 cA kA kfi kfp knx kwr rsh rto ral rde rfa rpa rpu rpy := by
  rcases hc with ⟨e1, e2⟩ | e
  · rw [e1, e2]
    exact h
  · have := h.1
    exact ⟨by omega, fun z => by omega⟩
/-- matched anew -/
theorem AuI_ma {c : Nat} {ki te sh am vb gw gw2 : Nat → Int} {Wf : Nat → List St} {ch isM isM2 cA kA : Int} {kfi kfp knx kwr rsh rto : Nat → Int} {ral rde rfa rpa rpu rpy : Nat → Nat → Int} (h : AuI (mkA c ki te sh am vb Wf gw) ch isM cA kA kfi kfp knx kwr rsh rto ral rde rfa rpa rpu rpy) (hm : isM = 1 → isM2 = 1 ∧ gw2 = gw) : AuI (mkA c ki te sh am vb Wf gw2) ch isM2 cA kA kfi kfp knx kwr rsh rto ral rde rfa rpa rpu rpy := by
  refine ⟨h.1, fun e => ?_⟩
  obtain ⟨h1, h2, h3⟩ := h.2 e
  obtain ⟨m1, m2⟩ := hm h1
  rw [m2]
  exact ⟨m1, h2, h3⟩
/-- an act added by pays, tally, fire, annul -/
theorem Ext_of {c : Nat} {pay pay2 : Int} {am ki sh te vb aK aN aS aT aV am2 ki2 sh2 te2 vb2 aK2 aN2 aS2 aT2 aV2 gw : Nat → Int} {Wf : Nat → List St} (h : IA c pay am ki sh te vb aK aN aS aT aV) (h2 : IA (c + 1) pay2 am2 ki2 sh2 te2 vb2 aK2 aN2 aS2 aT2 aV2) (he : ∀ k, k ≠ c + 1 → am2 k = am k ∧ ki2 k = ki k ∧ sh2 k = sh k ∧ te2 k = te k) (hv : ∀ k, vb2 k = vb k ∨ vb2 k = ((c + 1 : Nat) : Int)) : Ext (mkA c ki te sh am vb Wf gw) (mkA (c + 1) ki2 te2 sh2 am2 vb2 Wf gw) := by
  refine ⟨rfl, fun k (hk : k ≤ c) => ?_, fun k h1 (hk : k ≤ c) => ?_, rfl⟩
  · obtain ⟨e1, e2, e3, e4⟩ := he k (by omega)
    exact ⟨e2, e4, e3, e1, rfl⟩
  · rcases hv k with e | e
    · exact Or.inl e
    · refine Or.inr ⟨?_, e⟩
      show vb k = 0
      have o := (h.2.1 k h1 hk).2.2.2.2.2.2.2.2.2
      rcases o with z | ⟨j, j1, j2, j3, j4, j5, j6⟩
      · exact z
      · exfalso
        have oj := (h2.2.1 j (by omega) (by omega)).2.2.2.2.2.2.2.2.1
        obtain ⟨e1, e2, e3, e4⟩ := he j (by omega)
        rw [e2] at oj
        obtain ⟨i, i1, i2, i3, i4, i5, _⟩ := oj j5
        rw [e1, j6] at i1
        have ik : i = k := by omega
        rw [ik, e] at i5
        omega
