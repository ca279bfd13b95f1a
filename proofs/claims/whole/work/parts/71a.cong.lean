set_option maxHeartbeats 4000000
set_option maxRecDepth 100000
/-! what an act can touch -/
theorem wA_cg {A : AW} {a1 w1 a2 w2 : Int} {x : Nat} (h : ∀ k, 1 ≤ k → k ≤ A.c → A.ki k = 1 → A.te k ≤ x → (knw A a1 w1 k ↔ knw A a2 w2 k)) : ∀ n, n ≤ A.c → wA A a1 w1 x n = wA A a2 w2 x n
  | 0, _ => rfl
  | n + 1, hn => by
    have ih := wA_cg h n (by omega)
    show (if _ then _ else _) = (if _ then _ else _)
    rw [ih]
    by_cases c : A.ki (n + 1) = 1 ∧ A.te (n + 1) ≤ x
    · have e := h (n + 1) (by omega) hn c.1 c.2
      by_cases c2 : A.ki (n + 1) = 1 ∧ knw A a2 w2 (n + 1) ∧ A.te (n + 1) ≤ x ∧ (wA A a2 w2 x n = 0 ∨ A.te (wA A a2 w2 x n) ≤ A.te (n + 1))
      · rw [if_pos c2, if_pos ⟨c2.1, e.mpr c2.2.1, c2.2.2⟩]
      · rw [if_neg c2, if_neg (fun q => c2 ⟨q.1, e.mp q.2.1, q.2.2⟩)]
    · rw [if_neg (fun q => c ⟨q.1, q.2.2.1⟩), if_neg (fun q => c ⟨q.1, q.2.2.1⟩)]
theorem fA_cg {A : AW} {a1 w1 a2 w2 : Int} {x : Nat} (h : ∀ k, 1 ≤ k → k ≤ A.c → A.ki k = 4 → A.te k = x → (knw A a1 w1 k ↔ knw A a2 w2 k)) : ∀ n, n ≤ A.c → fA A a1 w1 x n = fA A a2 w2 x n
  | 0, _ => rfl
  | n + 1, hn => by
    have ih := fA_cg h n (by omega)
    show (if _ then _ else _) = (if _ then _ else _)
    rw [ih]
    by_cases c : A.ki (n + 1) = 4 ∧ A.te (n + 1) = x
    · have e := h (n + 1) (by omega) hn c.1 c.2
      by_cases c2 : A.ki (n + 1) = 4 ∧ knw A a2 w2 (n + 1) ∧ A.te (n + 1) = x
      · rw [if_pos c2, if_pos ⟨c2.1, e.mpr c2.2.1, c2.2.2⟩]
      · rw [if_neg c2, if_neg (fun q => c2 ⟨q.1, e.mp q.2.1, q.2.2⟩)]
    · rw [if_neg (fun q => c ⟨q.1, q.2.2⟩), if_neg (fun q => c ⟨q.1, q.2.2⟩)]
theorem pA_cg {A : AW} {a1 w1 m1 t1 a2 w2 m2 t2 s f bl : Int} {x : Nat} (h : ∀ k, 1 ≤ k → k ≤ A.c → (isP A a1 w1 m1 t1 s x k ↔ isP A a2 w2 m2 t2 s x k)) : ∀ n, n ≤ A.c → pA A a1 w1 m1 t1 s x f bl n = pA A a2 w2 m2 t2 s x f bl n
  | 0, _ => rfl
  | n + 1, hn => by
    have ih := pA_cg (f := f) (bl := bl) h n (by omega)
    have e := h (n + 1) (by omega) hn
    show pA A a1 w1 m1 t1 s x f bl n + (if isP A a1 w1 m1 t1 s x (n + 1) then wrt A f bl (n + 1) else 0) = pA A a2 w2 m2 t2 s x f bl n + (if isP A a2 w2 m2 t2 s x (n + 1) then wrt A f bl (n + 1) else 0)
    rw [ih]
    by_cases c : isP A a2 w2 m2 t2 s x (n + 1)
    · rw [if_pos c, if_pos (e.mpr c)]
    · rw [if_neg c, if_neg (fun q => c (e.mp q))]
/-- two worlds are the same at a term -/
def sameW (W W2 : RW) (x : Nat) : Prop := W.wt x = W2.wt x ∧ W.py x = W2.py x
theorem wld_cg {A : AW} {a1 w1 m1 t1 a2 w2 m2 t2 s : Int} {x : Nat} (h : ∀ k, 1 ≤ k → k ≤ A.c → (A.ki k = 1 ∧ A.te k ≤ x ∨ A.ki k = 4 ∧ A.te k = x) → (knw A a1 w1 k ↔ knw A a2 w2 k)) (hp : ∀ k, 1 ≤ k → k ≤ A.c → (isP A a1 w1 m1 t1 s x k ↔ isP A a2 w2 m2 t2 s x k)) : sameW (wld A a1 w1 m1 t1 s) (wld A a2 w2 m2 t2 s) x := by
  have e1 := wA_cg (A := A) (a1 := a1) (w1 := w1) (a2 := a2) (w2 := w2) (x := x) (fun k h1 h2 h3 h4 => h k h1 h2 (Or.inl ⟨h3, h4⟩)) A.c (Nat.le_refl _)
  have e2 := fA_cg (A := A) (a1 := a1) (w1 := w1) (a2 := a2) (w2 := w2) (x := x) (fun k h1 h2 h3 h4 => h k h1 h2 (Or.inr ⟨h3, h4⟩)) A.c (Nat.le_refl _)
  refine ⟨?_, ?_⟩
  · show wtA A a1 w1 x = wtA A a2 w2 x
    unfold wtA
    rw [e1]
  · funext b
    show pA A a1 w1 m1 t1 s x (fA A a1 w1 x A.c) b A.c = pA A a2 w2 m2 t2 s x (fA A a2 w2 x A.c) b A.c
    rw [e2]
    exact pA_cg hp A.c (Nat.le_refl _)
theorem wld_mt {A : AW} {a w t1 t2 s : Int} (x : Nat) : sameW (wld A a w (-1) t1 s) (wld A a w (-1) t2 s) x := by
  refine wld_cg (fun k _ _ _ => Iff.rfl) (fun k h1 _ => ?_)
  unfold isP
  rw [if_neg (show ¬ (k : Int) = -1 by omega), if_neg (show ¬ (k : Int) = -1 by omega)]
/-- act k can touch term x of shire s -/
abbrev tou (A : AW) (s : Int) (x k : Nat) : Prop := A.te k ≤ x ∧ (A.sh k = -1 ∨ A.sh k = s)
theorem wld_wo {A : AW} (hA : A.ok) {a s : Int} {k : Nat} (h1 : 1 ≤ k) (h2 : k ≤ A.c) {x : Nat} (h : ¬ tou A s x k ∨ A.ki k ≠ 1 ∧ A.te k ≠ x) : sameW (wld A a (-1) (-1) 0 s) (wld A a k (-1) 0 s) x := by
  have o := hA.2.1 k h1 h2
  refine wld_cg (fun j j1 j2 j3 => ?_) (fun j j1 j2 => ?_)
  · by_cases e : j = k
    · subst e
      exfalso
      have sh := o.2.2.1 (by omega)
      rcases h with h | h
      · exact h ⟨by omega, Or.inl sh⟩
      · rcases j3 with g | g
        · exact h.1 g.1
        · exact h.2 g.2
    · exact ⟨fun q => ⟨q.1, q.2.1, by omega⟩, fun q => ⟨q.1, q.2.1, by omega⟩⟩
  · unfold isP
    rw [if_neg (show ¬ (j : Int) = -1 by omega)]
    by_cases e : j = k
    · subst e
      constructor
      · intro q
        exfalso
        rcases h with h | h
        · exact h ⟨by omega, Or.inr q.2.2.1⟩
        · exact h.2 q.2.2.2
      · intro q
        exact absurd rfl q.2.1.2.2
    · constructor
      · exact fun q => ⟨q.1, ⟨q.2.1.1, q.2.1.2.1, by omega⟩, q.2.2⟩
      · exact fun q => ⟨q.1, ⟨q.2.1.1, q.2.1.2.1, by omega⟩, q.2.2⟩
/-- known up to act k, or up to the act before -/
theorem wld_at {A : AW} (hA : A.ok) {s : Int} {k : Nat} (h1 : 1 ≤ k) (h2 : k ≤ A.c) {x : Nat} (h : ¬ tou A s x k) : sameW (wld A k (-1) (-1) 0 s) (wld A ((k : Int) - 1) (-1) (-1) 0 s) x := by
  have key : ∀ j, 1 ≤ j → j ≤ A.c → A.ki j ≠ 5 → (A.te j ≤ x ∧ (A.sh j = -1 ∨ A.sh j = s)) → (knw A k (-1) j ↔ knw A ((k : Int) - 1) (-1) j) := by
    intro j j1 j2 j5 jt
    have oj := hA.2.1 j j1 j2
    have nek : j ≠ k := fun e => h (by rw [← e]; exact jt)
    -- act j isn't voided by act k
    have nv : A.vb j ≠ k := fun e => by
      rcases oj.2.2.2.2.2.2.2.2 with g | ⟨q, q1, q2, q3, q4, q5, q6⟩
      · omega
      · have qk : q = k := by omega
        subst qk
        have ok := hA.2.1 q h1 h2
        obtain ⟨r, r1, r2, r3, r4, r5, r6, r7, r8⟩ := ok.2.2.2.2.2.2.2.1 q5
        have rj : r = j := by omega
        subst rj
        exact h ⟨by rw [r7]; exact jt.1, by rw [r6]; exact jt.2⟩
    constructor
    · intro q
      refine ⟨by have := q.1; omega, ?_, q.2.2⟩
      rcases q.2.1 with g | g
      · exact Or.inl g
      · exact Or.inr (by omega)
    · intro q
      refine ⟨by have := q.1; omega, ?_, q.2.2⟩
      rcases q.2.1 with g | g
      · exact Or.inl g
      · exact Or.inr (by omega)
  refine wld_cg (fun j j1 j2 j3 => ?_) (fun j j1 j2 => ?_)
  · have oj := hA.2.1 j j1 j2
    have sh := oj.2.2.1 (by omega)
    exact key j j1 j2 (by omega) ⟨by omega, Or.inl sh⟩
  · unfold isP
    rw [if_neg (show ¬ (j : Int) = -1 by omega)]
    constructor
    · exact fun q => ⟨q.1, (key j j1 j2 (by omega) ⟨by omega, Or.inr q.2.2.1⟩).mp q.2.1, q.2.2⟩
    · exact fun q => ⟨q.1, (key j j1 j2 (by omega) ⟨by omega, Or.inr q.2.2.1⟩).mpr q.2.1, q.2.2⟩
/-- a payment moved to term t: elsewhere as if it weren't -/
theorem wld_mv {A : AW} (hA : A.ok) {a s : Int} {k t : Nat} (h1 : 1 ≤ k) (h2 : k ≤ A.c) (hk : A.ki k = 2 ∨ A.ki k = 3) {x : Nat} (h : x ≠ t) : sameW (wld A a (-1) k t s) (wld A a k (-1) 0 s) x := by
  refine wld_cg (fun j j1 j2 j3 => ?_) (fun j j1 j2 => ?_)
  · have e : j ≠ k := fun e => by
      subst e
      omega
    exact ⟨fun q => ⟨q.1, q.2.1, by omega⟩, fun q => ⟨q.1, q.2.1, by omega⟩⟩
  · unfold isP
    rw [if_neg (show ¬ (j : Int) = -1 by omega)]
    by_cases e : j = k
    · subst e
      rw [if_pos rfl]
      constructor
      · intro q
        have := q.2.2.2
        omega
      · intro q
        exact absurd rfl q.2.1.2.2
    · rw [if_neg (show ¬ (j : Int) = (k : Int) by omega)]
      constructor
      · exact fun q => ⟨q.1, ⟨q.2.1.1, q.2.1.2.1, by omega⟩, q.2.2⟩
      · exact fun q => ⟨q.1, ⟨q.2.1.1, q.2.1.2.1, by omega⟩, q.2.2⟩
theorem sameW.tr {W W2 W3 : RW} {x : Nat} (h : sameW W W2 x) (k : sameW W2 W3 x) : sameW W W3 x := ⟨h.1.trans k.1, h.2.trans k.2⟩
theorem sameW.sy {W W2 : RW} {x : Nat} (h : sameW W W2 x) : sameW W2 W x := ⟨h.1.symm, h.2.symm⟩
theorem roll_same {s : Int} {W W2 : RW} {x : Nat} (h : ∀ y, y < x → sameW W W2 y) : roll s W x = roll s W2 x := roll_cg h
/-- from a like state on, rolls are alike -/
theorem roll_like {s : Int} {W W2 : RW} {x : Nat} (h0 : roll s W x = roll s W2 x ∨ ((roll s W x).d = (roll s W2 x).d ∧ ∀ j, (roll s W x).o j = (roll s W2 x).o j)) : ∀ d, (∀ y, x ≤ y → y < x + d → sameW W W2 y) → (roll s W (x + d)).d = (roll s W2 (x + d)).d ∧ ∀ j, (roll s W (x + d)).o j = (roll s W2 (x + d)).o j
  | 0, _ => by
    rcases h0 with e | e
    · rw [Nat.add_zero, e]
      exact ⟨rfl, fun _ => rfl⟩
    · exact e
  | d + 1, h => by
    obtain ⟨e1, e2⟩ := roll_like h0 d (fun y h1 h2 => h y h1 (by omega))
    have e3 := h (x + d) (by omega) (by omega)
    have ed : (roll s W (x + d)).d = (roll s W2 (x + d)).d := e1
    have eo : (roll s W (x + d)).o = (roll s W2 (x + d)).o := funext e2
    have en : roll s W (x + (d + 1)) = rstep s W (x + d) (roll s W (x + d)) := rfl
    have en2 : roll s W2 (x + (d + 1)) = rstep s W2 (x + d) (roll s W2 (x + d)) := rfl
    have g1 : st1 s W (x + d) (roll s W (x + d)) = st1 s W2 (x + d) (roll s W2 (x + d)) := by unfold st1; rw [e3.1, ed, eo]
    have g2 : st2 s W (x + d) (roll s W (x + d)) = st2 s W2 (x + d) (roll s W2 (x + d)) := by unfold st2; rw [e3.1, g1]
    have g3 : st3 s W (x + d) (roll s W (x + d)) = st3 s W2 (x + d) (roll s W2 (x + d)) := by unfold st3; rw [e3.1, g2]
    have g4 : stP s W (x + d) (roll s W (x + d)) = stP s W2 (x + d) (roll s W2 (x + d)) := by unfold stP; rw [e3.2, g3]
    have g5 : st4 s W (x + d) (roll s W (x + d)) = st4 s W2 (x + d) (roll s W2 (x + d)) := by unfold st4; rw [e3.1, g3, g4, eo]
    rw [en, en2]
    refine ⟨?_, fun j => ?_⟩
    · show (st4 s W (x + d) (roll s W (x + d))).1 = (st4 s W2 (x + d) (roll s W2 (x + d))).1
      rw [g5]
    · show (st4 s W (x + d) (roll s W (x + d))).2 j = (st4 s W2 (x + d) (roll s W2 (x + d))).2 j
      rw [g5]
theorem RlD.cg {s : Int} {W W2 : RW} {t u : Nat} {de pu : Nat → Int} (h : RlD s W t de pu) (hu : u ≤ t) (hc : ∀ y, y < u → sameW W W2 y) : RlD s W2 u de pu := fun x hx => by
  have e := h x (by omega)
  rw [roll_same (fun y hy => hc y (by omega))] at e
  exact e
