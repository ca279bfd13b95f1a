set_option maxHeartbeats 4000000
set_option maxRecDepth 100000
/-! a statement: what both sides make of it -/
def jRow (D : DynI) (y : Nat) (g : Nat → Int) : DynI := (D.1, D.2.1, D.2.2.1, va_up D.2.2.2.1 y g, D.2.2.2.2)
theorem up_up {α : Type} (f : Nat → α) (y : Nat) (a b : α) : va_up (va_up f y a) y b = va_up f y b := by
  funext k
  by_cases h : k = y
  · rw [h, va_up_self, va_up_self]
  · rw [va_up_ne _ _ h, va_up_ne _ _ h, va_up_ne _ _ h]
theorem jPI_row {D : DynI} {y k : Nat} {g : Nat → Int} {x : Int} (h : jOk D y 0) : jPI (jRow D y g) y 0 k x = some (jRow D y (va_up g k x)) := by
  have h2 : jOk (jRow D y g) y 0 := h
  unfold jPI
  rw [if_pos h2]
  show some (D.1, D.2.1, D.2.2.1, va_up (va_up D.2.2.2.1 y g) y (va_up ((va_up D.2.2.2.1 y g) y) k x), D.2.2.2.2) = _
  rw [va_up_self, up_up]
  rfl
theorem jGI_row {D : DynI} {y k : Nat} {g : Nat → Int} (h : jOk D y 0) : jGI (jRow D y g) y 0 k = some (g k) := by
  have h2 : jOk (jRow D y g) y 0 := h
  unfold jGI
  rw [if_pos h2]
  show some ((va_up D.2.2.2.1 y g) y k) = _
  rw [va_up_self]
/-- row i of f is x, the others stay -/
def updI (f f2 : Nat → Int) (i : Nat) (x : Int) : Prop := f2 i = x ∧ ∀ k, k ≠ i → f2 k = f k
theorem updI_1 (f : Nat → Int) (i : Nat) (x : Int) : updI f (va_up f i x) i x := ⟨va_up_self _ _ _, fun _ h => va_up_ne _ _ h⟩
theorem updI_2 (f : Nat → Int) (i : Nat) (x y : Int) : updI f (va_up (va_up f i x) i y) i y := by
  rw [up_up]
  exact updI_1 f i y
/-- a statement: kind, blanched, two numbers, the duty's code -/
def stOk (kd bl f1 f2 : Int) (l : List Int) : Prop := (kd = 1 ∧ (bl = 0 ∨ bl = 1) ∧ f1 = 0 ∧ f2 = 0 ∧ EvS l 21) ∨ (kd = 2 ∧ bl = 0 ∧ f1 = 0 ∧ f2 = 0 ∧ EvS l 21) ∨ (kd = 3 ∧ bl = 0 ∧ (1 ≤ f1 ∧ f1 ≤ f2 ∧ f2 ≤ 999) ∧ l = []) ∨ (kd = 4 ∧ bl = 0 ∧ (2 ≤ f1 ∧ f1 ≤ 20) ∧ f2 = 0 ∧ l = [])
def KDok (N : Nat) (T : Nat → Int) (n q : Nat) (e : Int) (q2 : Nat) (e2 kd bl f1 f2 : Int) (l : List Int) : Prop := ∀ (D : DynI) (y : Nat) (g : Nat → Int) (L : List Int) (fa fp s : Int) (v : Nat → Int) (Q : R_iReader_readDuty → Prop), jOk D y 0 → (g 0 = 0 ∧ g 1 = 0 ∧ g 2 = 0 ∧ g 3 = 0) → s ≤ q → cdk v s (trl L) → (∀ g2 s2 v2, (g2 0 = kd ∧ g2 1 = bl ∧ g2 2 = f1 ∧ g2 3 = f2 ∧ g2 4 = g 4) → cdk v2 s2 (trl (L ++ l)) → Q (1, jRow D y g2, (q2 : Int), fa, fp, tK T n q2 e2, 0, s2, (tS T n q2 : Int), v2)) → wp (iReader_readDuty N (some y) (jRow D y g) q fa fp (tK T n q e) n 0 s (tS T n q) v T) Q
def KDbad (N : Nat) (T : Nat → Int) (n q : Nat) (e k p : Int) : Prop := ∀ (D : DynI) (y : Nat) (g : Nat → Int) (L : List Int) (fa fp s : Int) (v : Nat → Int) (Q : R_iReader_readDuty → Prop), jOk D y 0 → (g 0 = 0 ∧ g 1 = 0 ∧ g 2 = 0 ∧ g 3 = 0) → s ≤ q → cdk v s (trl L) → (∀ g2 a kd op s2 st v2, Q (0, jRow D y g2, a, k, p, kd, op, s2, st, v2)) → wp (iReader_readDuty N (some y) (jRow D y g) q fa fp (tK T n q e) n 0 s (tS T n q) v T) Q
def RSt (N : Nat) (W : Nat → Nat → Int) (n : Nat) (T : Nat → Int) (x bp bs s e o w : Int) (v fi ib mn se so sE sF tE wt : Nat → Int) : Option R_iM_statement := iM_statement N x 0 bp bs s n e o w (W 17) (W 11) (W 19) (W 10) v (W 8) (W 0) fi (W 15) (W 13) ib mn (W 5) (W 4) (W 16) (W 20) (W 9) (W 12) (W 3) (W 1) se (W 2) (W 18) so (W 14) sE sF T (W 6) tE wt (W 7)
def B250 (N : Nat) (W : Nat → Nat → Int) (n : Nat) (T : Nat → Int) (x1 a bd bp bs s e o w : Int) (v fi ib mn se so sE sF tE wt : Nat → Int) : Option R_iM_statement := iM_statement_b250 N n (W 17) (W 11) (W 19) (W 10) (W 8) (W 0) (W 15) (W 13) (W 5) (W 4) (W 16) (W 20) (W 9) (W 12) (W 3) (W 1) (W 2) (W 18) (W 14) T (W 6) (W 7) x1 a bd bp bs s e o w v fi ib mn se so sE sF tE wt
def RDok [Inhabited Frm] (T : Nat → Int) (n q : Nat) (e : Int) (q2 : Nat) (e2 kd bl f1 f2 : Int) (l : List Int) : Prop := ∀ (N : Nat) (W : Nat → Nat → Int) (x i : Nat) (bp : MOne) (bs s o w : Int) (v fi ib mn se so sE sF tE wt : Nat → Int) (L : List Int) (Q : R_iM_statement → Prop), 5000 ≤ N → (∀ a, a < 21 → ∀ i, i < kS_len a → W a i = jch a i) → x ≤ n → tSk T n x = q → mn 0 = i → i < 24 → cod v s L → L.length ≤ q → (∀ (x2 : Nat) (bp2 : MOne) bs2 s2 v2 fi2 ib2 se2 so2 wt2, x2 ≤ n → tSk T n x2 = q2 → cod v2 s2 (L ++ l) → updI fi fi2 i f1 → updI ib ib2 i bl → updI se se2 i f2 → updI so so2 i (kd - 1) → wp (B250 N W n T i x2 0 bp2 bs2 s2 e2 0 0 v2 fi2 ib2 mn se2 so2 sE (va_up sF i s) tE wt2) Q) → wp (RSt N W n T x bp bs s e o w v fi ib mn se so sE sF tE wt) Q
def kpt (f f2 : Nat → Int) (i : Nat) : Prop := ∀ k, k ≠ i → f2 k = f k
theorem kpt_1 (f : Nat → Int) (i : Nat) (x : Int) : kpt f (va_up f i x) i := fun _ h => va_up_ne _ _ h
theorem kpt_2 (f : Nat → Int) (i : Nat) (x y : Int) : kpt f (va_up (va_up f i x) i y) i := by
  rw [up_up]
  exact kpt_1 f i y
def RDbad [Inhabited Frm] (T : Nat → Int) (n q : Nat) (e kd p : Int) : Prop := ∀ (N : Nat) (W : Nat → Nat → Int) (x i : Nat) (bp : MOne) (bs s o w : Int) (v fi ib mn se so sE sF tE wt : Nat → Int) (L : List Int) (Q : R_iM_statement → Prop), 5000 ≤ N → (∀ a, a < 21 → ∀ i, i < kS_len a → W a i = jch a i) → x ≤ n → tSk T n x = q → mn 0 = i → i < 24 → cod v s L → L.length ≤ q → (kd ≠ 0 → ∀ a bs2 s2 e2 o2 w2 v2 fi2 ib2 se2 so2 wt2, frT v2 s2 → kpt fi fi2 i → kpt ib ib2 i → kpt se se2 i → kpt so so2 i → wp (B250 N W n T i a kd p bs2 s2 e2 o2 w2 v2 fi2 ib2 mn se2 so2 sE (va_up sF i s) tE wt2) Q) → wp (RSt N W n T x bp bs s e o w v fi ib mn se so sE sF tE wt) Q
theorem dv_b {T : Nat → Int} {n q : Nat} {e least most : Int} (h : tN T n q e least most = none) : least ≤ dV T q (tS T n q - q) ∧ dV T q (tS T n q - q) ≤ most := (tN_ok h).2.2
