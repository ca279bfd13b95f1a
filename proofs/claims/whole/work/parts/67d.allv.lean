set_option maxHeartbeats 4000000
set_option maxRecDepth 100000
theorem all_V [Inhabited Frm] {N n : Nat} {T : Nat → Int} (hN : 5000 ≤ N) (hn : n ≤ 600) (hTT : ∀ k, 0 ≤ T k ∧ T k ≤ 255) : ∀ j : Nat, j ≤ 6 → ∀ d : Nat, (∀ q e, q ≤ n → tSk T n q = q → e ≤ (q : Int) → SimF T n (g2 N n T (3 * j + 1 + d) 1) q e (6 - (j : Int)) (22 + 2 * j)) ∧ ∀ q e, q ≤ n → tSk T n q = q → e ≤ (q : Int) → SimV T n (g2 N n T (3 * j + 3 + d) 2) q e (6 - (j : Int)) (24 + 2 * j) := by
  intro j
  induction j with
  | zero =>
    intro hj d
    have F : ∀ d : Nat, ∀ q e, q ≤ n → tSk T n q = q → e ≤ (q : Int) → SimF T n (g2 N n T (d + 1) 1) q e (6 - ((0 : Nat) : Int)) 22 := fun d => sim_F (d := d) hN hn hTT (by omega) (Nat.le_refl 22) (fun w => absurd (show 6 - ((0 : Nat) : Int) = 6 by omega) w) (fun w => absurd (show 6 - ((0 : Nat) : Int) = 6 by omega) w)
    refine ⟨?_, ?_⟩
    · rw [show 3 * 0 + 1 + d = d + 1 by omega]
      exact F d
    · rw [show 3 * 0 + 3 + d = d + 1 + 1 + 1 by omega]
      exact sim_V hN hn (sim_B hN hn (F d))
  | succ j ih =>
    intro hj d
    have eo : 6 - ((j + 1 : Nat) : Int) + 1 = 6 - (j : Int) := by omega
    have F : ∀ d : Nat, ∀ q e, q ≤ n → tSk T n q = q → e ≤ (q : Int) → SimF T n (g2 N n T (3 * j + 3 + d + 1) 1) q e (6 - ((j + 1 : Nat) : Int)) (24 + 2 * j) := fun d => sim_F (d := 3 * j + 3 + d) hN hn hTT (by omega) (by omega) (fun _ q e h1 h2 h3 => by
      have := (ih (by omega) (d + 2)).1 q e h1 h2 h3
      rw [show 3 * j + 1 + (d + 2) = 3 * j + 3 + d by omega] at this
      rw [eo]
      exact SimF_up this (by omega)) (fun _ q e h1 h2 h3 => by
      rw [eo]
      exact (ih (by omega) d).2 q e h1 h2 h3)
    refine ⟨?_, ?_⟩
    · rw [show 3 * (j + 1) + 1 + d = 3 * j + 3 + d + 1 by omega, show 22 + 2 * (j + 1) = 24 + 2 * j by omega]
      exact F d
    · rw [show 3 * (j + 1) + 3 + d = 3 * j + 3 + d + 1 + 1 + 1 by omega, show 24 + 2 * (j + 1) = 24 + 2 * j + 1 + 1 by omega]
      exact sim_V hN hn (sim_B hN hn (F d))
/-- a test read by itself -/
theorem test_at [Inhabited Frm] {N n : Nat} {T : Nat → Int} (hN : 5000 ≤ N) (hn : n ≤ 600) (hTT : ∀ k, 0 ≤ T k ∧ T k ≤ 255) {q : Nat} {e : Int} (hq : q ≤ n) (hqq : tSk T n q = q) (he : e ≤ (q : Int)) : SimV T n (g2 N n T 40 2) q e 0 36 := by
  have h := (all_V hN hn hTT 6 (Nat.le_refl 6) 19).2 q e hq hqq he
  exact h
