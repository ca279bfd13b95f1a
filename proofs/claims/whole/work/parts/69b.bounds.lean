set_option maxHeartbeats 4000000
set_option maxRecDepth 100000
def oS (o : Nat → Int) : Nat → Int
  | 0 => 0
  | n + 1 => oS o n + o n
theorem oS_0 {o : Nat → Int} (h : ∀ j, 0 ≤ o j) : ∀ n, 0 ≤ oS o n
  | 0 => Int.le_refl 0
  | n + 1 => by
    have := oS_0 h n
    have := h n
    show 0 ≤ oS o n + o n
    omega
theorem oS_ge {o : Nat → Int} (h : ∀ j, 0 ≤ o j) : ∀ {n j : Nat}, j < n → o j ≤ oS o n
  | 0, j, hj => absurd hj (Nat.not_lt_zero j)
  | n + 1, j, hj => by
    show o j ≤ oS o n + o n
    have a := oS_0 h n
    by_cases e : j = n
    · rw [e]
      omega
    · have := oS_ge h (n := n) (j := j) (by omega)
      have := h n
      omega
theorem oS_add {o : Nat → Int} {n : Nat} {p : Int} : ∀ m : Nat, oS (addO o n p) m = oS o m + ((min m n : Nat) : Int) * p
  | 0 => by
    show (0 : Int) = 0 + ((min 0 n : Nat) : Int) * p
    rw [Nat.zero_min]
    omega
  | m + 1 => by
    show oS (addO o n p) m + addO o n p m = oS o m + o m + ((min (m + 1) n : Nat) : Int) * p
    rw [oS_add m]
    unfold addO
    by_cases h : m < n
    · rw [if_pos h, Nat.min_eq_left (Nat.le_of_lt h), Nat.min_eq_left h]
      have e : ((m + 1 : Nat) : Int) * p = (m : Int) * p + p := by
        rw [show ((m + 1 : Nat) : Int) = (m : Int) + 1 from rfl, Int.add_mul, Int.one_mul]
      rw [e]
      omega
    · rw [if_neg h, Nat.min_eq_right (by omega), Nat.min_eq_right (by omega)]
      omega
theorem oS_sh {o : Nat → Int} : ∀ m : Nat, oS (fun j => o (j + 1)) m = oS o (m + 1) - o 0
  | 0 => by
    show (0 : Int) = 0 + o 0 - o 0
    omega
  | m + 1 => by
    show oS (fun j => o (j + 1)) m + o (m + 1) = oS o (m + 1) + o (m + 1) - o 0
    rw [oS_sh m]
    omega
def aB (x : Int) : Int := if 0 ≤ x then x else -x
theorem aB_s (x : Int) : x ≤ aB x ∧ -x ≤ aB x ∧ 0 ≤ aB x := by
  unfold aB
  split <;> omega
/-- what is put off: never below nothing, nineteen terms at most -/
def oOk (o : Nat → Int) : Prop := (∀ j, 0 ≤ o j) ∧ ∀ j, 19 ≤ j → o j = 0
theorem f1_ok {w : St} (hw : wOk w) (h : w.kd = 4) : 2 ≤ w.f1 ∧ w.f1 ≤ 20 := by
  rcases hw.1 with g | g | g | g
  · omega
  · omega
  · omega
  · exact g.2.2.1
theorem sS_b {sh p : Int} {x : Nat} {w : St} {s : Int × (Nat → Int)} (hw : wOk w) (h : oOk s.2) : oOk (sS sh x p w s).2 ∧ aB (sS sh x p w s).1 + oS (sS sh x p w s).2 19 = aB s.1 + oS s.2 19 := by
  unfold sS
  by_cases c : w.kd = 4 ∧ 0 < s.1 ∧ val (env sh x s.1 p) w.t ≠ 0
  · rw [if_pos c]
    obtain ⟨f1, f2⟩ := f1_ok hw c.1
    have d0 : 0 ≤ s.1 / w.f1 := Int.ediv_nonneg (by omega) (by omega)
    have d1 : s.1 / w.f1 * w.f1 ≤ s.1 := Int.ediv_mul_le s.1 (by omega)
    have e1 : s.1 / w.f1 * (w.f1 - 1) = s.1 / w.f1 * w.f1 - s.1 / w.f1 := by rw [Int.mul_sub, Int.mul_one]
    have e2 : ((w.f1 - 1).toNat : Int) = w.f1 - 1 := by omega
    refine ⟨⟨fun j => ?_, fun j hj => ?_⟩, ?_⟩
    · show 0 ≤ addO s.2 (w.f1 - 1).toNat (s.1 / w.f1) j
      unfold addO
      have := h.1 j
      split <;> omega
    · show addO s.2 (w.f1 - 1).toNat (s.1 / w.f1) j = 0
      unfold addO
      rw [if_neg (by omega)]
      exact h.2 j hj
    · show aB (s.1 - s.1 / w.f1 * (w.f1 - 1)) + oS (addO s.2 (w.f1 - 1).toNat (s.1 / w.f1)) 19 = _
      rw [oS_add, Nat.min_eq_right (by omega), e2, Int.mul_comm (w.f1 - 1)]
      unfold aB
      rw [if_pos (by omega), if_pos (by omega)]
      omega
  · rw [if_neg c]
    exact ⟨h, rfl⟩
theorem runS_b {sh p : Int} {x : Nat} : ∀ {V : List St} {s : Int × (Nat → Int)}, (∀ w, w ∈ V → wOk w) → oOk s.2 → oOk (runS sh x p V s).2 ∧ aB (runS sh x p V s).1 + oS (runS sh x p V s).2 19 = aB s.1 + oS s.2 19
  | [], s, _, h => ⟨h, rfl⟩
  | w :: V, s, hV, h => by
    obtain ⟨a, b⟩ := sS_b (sh := sh) (p := p) (x := x) (hV w (List.mem_cons_self ..)) h
    obtain ⟨c, d⟩ := runS_b (sh := sh) (p := p) (x := x) (V := V) (s := sS sh x p w s) (fun z hz => hV z (List.mem_cons_of_mem _ hz)) a
    exact ⟨c, d.trans b⟩
/-- a world that both sides can bear -/
def RW.ok (W : RW) : Prop := (∀ x, wtOk (W.wt x)) ∧ ∀ x b, (b = 0 ∨ b = 1) → bB (W.py x b) 100000000000
/-- a state that both sides can bear -/
def RS.ok (S : RS) (x : Nat) : Prop := oOk S.o ∧ aB S.d + oS S.o 19 ≤ 172000000000 * x
def tB (t : Int) : Prop := 0 ≤ t ∧ t ≤ 100000000000000000
/-- all that comes up in one term, within bounds -/
theorem step_b {sh : Int} {W : RW} {x : Nat} {S : RS} (hW : W.ok) (hx : x ≤ 39) (hS : S.ok x) : bB (S.d + S.o 0) 7000000000000 ∧ bB (st1 sh W x S).1 7000000000000 ∧ tB (st1 sh W x S).2.1 ∧ ((st1 sh W x S).2.2 = 0 ∨ (st1 sh W x S).2.2 = 1) ∧ bB (st2 sh W x S).1 7000000000000 ∧ tB (st2 sh W x S).2.1 ∧ ((st2 sh W x S).2.2 = 0 ∨ (st2 sh W x S).2.2 = 1) ∧ bB (st3 sh W x S).1 7000000000000 ∧ tB (st3 sh W x S).2.1 ∧ ((st3 sh W x S).2.2 = 0 ∨ (st3 sh W x S).2.2 = 1) ∧ bB (stP sh W x S) 100000000000 ∧ bB ((st3 sh W x S).1 - stP sh W x S) 7000000000000 ∧ oOk (fun j => S.o (j + 1)) ∧ (rstep sh W x S).ok (x + 1) := by
  obtain ⟨hw, hp⟩ := hW
  obtain ⟨⟨o1, o2⟩, hb⟩ := hS
  obtain ⟨v1, v2⟩ := hw x
  have s0 := oS_ge o1 (n := 19) (j := 0) (by omega)
  have d0 := aB_s S.d
  have z0 := o1 0
  have B0 : bB (S.d + S.o 0) (aB S.d + S.o 0) := by
    unfold bB
    omega
  have r1 := runK_b (k := 1) (sh := sh) (x := x) hx (Or.inl rfl) (V := W.wt x) (s := (S.d + S.o 0, 0, 0)) (M := aB S.d + S.o 0) (P := 0) v2 B0 (by omega) ⟨Int.le_refl 0, Int.le_refl 0⟩ (Or.inl rfl) (by omega)
  obtain ⟨a1, a2, a3⟩ := r1
  have a1' : bB (st1 sh W x S).1 (aB S.d + S.o 0 + 24000000000) := by
    obtain ⟨q1, q2⟩ := a1
    have q3 : -((aB S.d + S.o 0) + 1000000000 * ((W.wt x).length : Int)) ≤ (st1 sh W x S).1 := q1
    have q4 : (st1 sh W x S).1 ≤ (aB S.d + S.o 0) + 1000000000 * ((W.wt x).length : Int) := q2
    exact ⟨by omega, by omega⟩
  have a2' : tB (st1 sh W x S).2.1 := ⟨a2.1, by have q : (st1 sh W x S).2.1 ≤ 0 + 1000001000000000 * ((W.wt x).length : Int) := a2.2; omega⟩
  have a3' : (st1 sh W x S).2.2 = 0 ∨ (st1 sh W x S).2.2 = 1 := a3
  have r2 := runK_b (k := 2) (sh := sh) (x := x) hx (Or.inr (Or.inl rfl)) (V := W.wt x) (s := ((st1 sh W x S).1, 0, (st1 sh W x S).2.2)) (M := aB S.d + S.o 0 + 24000000000) (P := 0) v2 a1' (by omega) ⟨Int.le_refl 0, Int.le_refl 0⟩ a3' (by omega)
  obtain ⟨b1, b2, b3⟩ := r2
  have b1' : bB (st2 sh W x S).1 (aB S.d + S.o 0 + 48000000000) := by
    obtain ⟨q1, q2⟩ := b1
    have q3 : -((aB S.d + S.o 0) + 24000000000 + 1000000000 * ((W.wt x).length : Int)) ≤ (st2 sh W x S).1 := q1
    have q4 : (st2 sh W x S).1 ≤ (aB S.d + S.o 0) + 24000000000 + 1000000000 * ((W.wt x).length : Int) := q2
    exact ⟨by omega, by omega⟩
  have b2' : tB (st2 sh W x S).2.1 := ⟨b2.1, by have q : (st2 sh W x S).2.1 ≤ 0 + 1000001000000000 * ((W.wt x).length : Int) := b2.2; omega⟩
  have b3' : (st2 sh W x S).2.2 = 0 ∨ (st2 sh W x S).2.2 = 1 := b3
  have r3 := runK_b (k := 3) (sh := sh) (x := x) hx (Or.inr (Or.inr rfl)) (V := W.wt x) (s := ((st2 sh W x S).1, 0, (st2 sh W x S).2.2)) (M := aB S.d + S.o 0 + 48000000000) (P := 0) v2 b1' (by omega) ⟨Int.le_refl 0, Int.le_refl 0⟩ b3' (by omega)
  obtain ⟨c1, c2, c3⟩ := r3
  have c1' : bB (st3 sh W x S).1 (aB S.d + S.o 0 + 72000000000) := by
    obtain ⟨q1, q2⟩ := c1
    have q3 : -((aB S.d + S.o 0) + 48000000000 + 1000000000 * ((W.wt x).length : Int)) ≤ (st3 sh W x S).1 := q1
    have q4 : (st3 sh W x S).1 ≤ (aB S.d + S.o 0) + 48000000000 + 1000000000 * ((W.wt x).length : Int) := q2
    exact ⟨by omega, by omega⟩
  have c2' : tB (st3 sh W x S).2.1 := ⟨c2.1, by have q : (st3 sh W x S).2.1 ≤ 0 + 1000001000000000 * ((W.wt x).length : Int) := c2.2; omega⟩
  have c3' : (st3 sh W x S).2.2 = 0 ∨ (st3 sh W x S).2.2 = 1 := c3
  have pB : bB (stP sh W x S) 100000000000 := hp x _ c3'
  have oo : oOk (fun j => S.o (j + 1)) := ⟨fun j => o1 (j + 1), fun j hj => o2 (j + 1) (by omega)⟩
  have sh19 : oS (fun j => S.o (j + 1)) 19 = oS S.o 19 + S.o 19 - S.o 0 := oS_sh 19
  have o19 := o2 19 (Nat.le_refl 19)
  obtain ⟨x1, x2⟩ := a1'
  obtain ⟨x3, x4⟩ := b1'
  obtain ⟨x5, x6⟩ := c1'
  obtain ⟨x7, x8⟩ := pB
  have rs := runS_b (sh := sh) (p := stP sh W x S) (x := x) (V := W.wt x) (s := ((st3 sh W x S).1 - stP sh W x S, fun j => S.o (j + 1))) v2 oo
  have dd : aB ((st3 sh W x S).1 - stP sh W x S) ≤ aB S.d + S.o 0 + 172000000000 := by
    unfold aB at *
    split <;> omega
  refine ⟨⟨by omega, by omega⟩, ⟨by omega, by omega⟩, a2', a3', ⟨by omega, by omega⟩, b2', b3', ⟨by omega, by omega⟩, c2', c3', ⟨x7, x8⟩, ⟨by omega, by omega⟩, oo, rs.1, ?_⟩
  have e := rs.2
  show aB (st4 sh W x S).1 + oS (st4 sh W x S).2 19 ≤ 172000000000 * ((x + 1 : Nat) : Int)
  have e2 : aB (st4 sh W x S).1 + oS (st4 sh W x S).2 19 = aB ((st3 sh W x S).1 - stP sh W x S) + oS (fun j => S.o (j + 1)) 19 := e
  rw [e2, sh19]
  omega
theorem roll_ok {sh : Int} {W : RW} (hW : W.ok) : ∀ {x : Nat}, x ≤ 40 → (roll sh W x).ok x
  | 0, _ => ⟨⟨fun _ => Int.le_refl 0, fun _ _ => rfl⟩, by
    show aB 0 + oS (fun _ => 0) 19 ≤ 172000000000 * ((0 : Nat) : Int)
    decide⟩
  | x + 1, h => (step_b (sh := sh) hW (show x ≤ 39 by omega) (roll_ok hW (by omega))).2.2.2.2.2.2.2.2.2.2.2.2.2
theorem roll_b {sh : Int} {W : RW} (hW : W.ok) {x : Nat} (hx : x ≤ 40) : bB (roll sh W x).d 7000000000000 ∧ ∀ j, 0 ≤ (roll sh W x).o j ∧ (roll sh W x).o j ≤ 7000000000000 := by
  obtain ⟨⟨o1, o2⟩, hb⟩ := roll_ok (sh := sh) hW hx
  have a := aB_s (roll sh W x).d
  have s0 := oS_0 o1 19
  refine ⟨⟨by omega, by omega⟩, fun j => ⟨o1 j, ?_⟩⟩
  by_cases h : j < 19
  · have := oS_ge o1 h
    omega
  · rw [o2 j (by omega)]
    omega
