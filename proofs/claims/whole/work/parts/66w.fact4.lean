set_option maxHeartbeats 4000000
set_option maxRecDepth 100000
theorem SimF_up [Inhabited Frm] {T : Nat → Int} {n : Nat} {f : RF} {q : Nat} {e o : Int} {D D2 : Nat} (h : SimF T n f q e o D) (hD : D ≤ D2) : SimF T n f q e o D2 := by
  rcases h with ⟨q2, e2, l, r1, r2, r3, r4, r5⟩ | h
  · exact Or.inl ⟨q2, e2, l, r1, r2, r3, Ev_up r4 hD, r5⟩
  · exact Or.inr h
/-- a fact -/
theorem sim_F [Inhabited Frm] {N n d D : Nat} {T : Nat → Int} {o : Int} (hN : 5000 ≤ N) (hn : n ≤ 600) (hTT : ∀ k, 0 ≤ T k ∧ T k ≤ 255) (ho : 0 ≤ o ∧ o ≤ 6) (hD : 22 ≤ D) (hF : o ≠ 6 → ∀ q e, q ≤ n → tSk T n q = q → e ≤ (q : Int) → SimF T n (g2 N n T d 1) q e (o + 1) D) (hV : o ≠ 6 → ∀ q e, q ≤ n → tSk T n q = q → e ≤ (q : Int) → SimV T n (g2 N n T d 2) q e (o + 1) D) : ∀ q e, q ≤ n → tSk T n q = q → e ≤ (q : Int) → SimF T n (g2 N n T (d + 1) 1) q e o D := by
  intro q e hq hqq he
  have unf : g2 N n T (d + 1) 1 = iReader_readFact_G N (g2 N n T d) n T := rfl
  rw [unf]
  by_cases t16 : tW T n 16 q e
  · exact sim_not hN hn ho hF hq hqq he t16
  · by_cases t91 : tM T n q 91
    · exact sim_sq hN hn ho hV hq hqq he t91
    · exact SimF_up (sim_wd hN hn hTT ho hq hqq he t91 t16) hD
/-- facts joined by `and` -/
def TBb [Inhabited Frm] (C : Tx) (L S : List Int) (q : Nat) (e o : Int) : Prop := ∀ L1 P, L = L1 ++ P → P.length ≤ 1 → (∀ x, x ∈ P → x = 14) → TB C L1 (P ++ S) q e o
/-- above what both may stand -/
def sB (S : List Int) : Prop := S = [] ∨ ∃ x V, S = x :: V ∧ (x = 25 ∨ x = 15)
def SimB [Inhabited Frm] (T : Nat → Int) (n : Nat) (f : RF) (q : Nat) (e o : Int) (D : Nat) : Prop := (∃ q2 e2 l, CLok T n f q e o q2 e2 l ∧ plc T n q q2 e2 l ∧ q < q2 ∧ EvT l D ∧ ¬ tW T n 19 q2 e2 ∧ ∀ C L S, fitT C T n q L S → sB S → TBb C (L ++ l) S q2 e2 o → TA C L S q e o) ∨ ∃ kd p, CLbad T n f q e o kd p ∧ ∀ C L S, fitT C T n q L S → sB S → TF C kd p → TA C L S q e o
theorem sB_nt {S : List Int} (h : sB S) : nt asB S ∧ nt asB (14 :: S) ∧ tkw n14 S = [] ∧ drw n14 S = S ∧ tkw n16 S = [] ∧ drw n16 S = S := by
  rcases h with h | ⟨x, V, h, hx⟩
  · rw [h]
    refine ⟨fun x V hxV _ => ?_, fun x V hxV hx => ?_, rfl, rfl, rfl, rfl⟩
    · cases hxV
    · have e1 := (List.cons.inj hxV).1
      have e2 := asB_iff.mp hx
      omega
  · rw [h]
    refine ⟨fun y U hyU hy => ?_, fun y U hyU hy => ?_, tkw_n (fun g => ?_), drw_n (fun g => ?_), tkw_n (fun g => ?_), drw_n (fun g => ?_)⟩
    · have e1 := (List.cons.inj hyU).1
      have e2 := asB_iff.mp hy
      omega
    · have e1 := (List.cons.inj hyU).1
      have e2 := asB_iff.mp hy
      omega
    · have := n14_iff.mp g
      omega
    · have := n14_iff.mp g
      omega
    · have := n16_iff.mp g
      omega
    · have := n16_iff.mp g
      omega
