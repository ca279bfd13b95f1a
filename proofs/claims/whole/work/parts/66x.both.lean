set_option maxHeartbeats 4000000
set_option maxRecDepth 100000
/-- `and` behind a fact: on with the next one -/
theorem tb_and [Inhabited Frm] {C : Tx} {T : Nat → Int} {n q0 q : Nat} {e o : Int} {L S l : List Int} (hf : fitT C T n q0 L S) (hS : sB S) (hq : tW T n 19 q e) (hq0 : q0 ≤ q) (hl : (trl l).length + q0 ≤ q) (g : TA C (L ++ l) (14 :: S) (tSk T n (tS T n q)) (tS T n q : Nat) o) : TBb C (L ++ l) S q e o := by
  intro L1 P hLP hP1 hP2
  obtain ⟨f1, f2, f3, f4, f5⟩ := hf
  obtain ⟨b1, b2, b3, b4, b5, b6⟩ := sB_nt hS
  have hn := f1.hn
  have hqn : q < n := hq.1
  have ll : l.length ≤ (trl l).length := trl_len l
  have e1 : (L ++ l).length = (L1 ++ P).length := by rw [hLP]
  rw [List.length_append, List.length_append] at e1
  have tw := tkw_t (f := n14) (W := S) (P := P) (fun x V hxV hx => by
    rw [hxV, tkw_p hx] at b3
    exact absurd b3 (List.cons_ne_nil _ _)) (fun x hx => n14_iff.mpr (hP2 x hx))
  have t16 : tkw n16 (P ++ S) = [] ∧ drw n16 (P ++ S) = P ++ S := by
    cases P with
    | nil => exact ⟨b5, b6⟩
    | cons x P =>
      have hx := hP2 x (List.mem_cons_self ..)
      have nx : ¬ n16 x = true := fun w => by
        have := n16_iff.mp w
        omega
      exact ⟨tkw_n nx, drw_n nx⟩
  subst f2
  subst f3
  unfold TB
  rw [t16.1, t16.2, List.append_nil]
  show TC C L1 (P ++ S) q e (o - 0)
  rw [Int.sub_zero]
  refine tc_and f1 (by rw [List.length_append]; omega) (by omega) hq ?_
  rw [tw.1, tw.2, ← hLP]
  exact g
