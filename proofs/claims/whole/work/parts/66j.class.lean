set_option maxHeartbeats 4000000
set_option maxRecDepth 100000
/-! the class's side of a sum -/
abbrev RF : Type := Int → Int → Int → Int → Int → Int → Int → (Nat → Int) → Option R_iReader_readPart
/-- f reads at q, ends at q2 and gives l -/
def CLok (T : Nat → Int) (n : Nat) (f : RF) (q : Nat) (e o : Int) (q2 : Nat) (e2 : Int) (l : List Int) : Prop := ∀ (L : List Int) (fa fp s : Int) (v : Nat → Int) (Q : R_iReader_readPart → Prop), s ≤ q → cdk v s (trl L) → (∀ s2 v2, cdk v2 s2 (trl (L ++ l)) → Q (1, q2, fa, fp, tK T n q2 e2, o, s2, tS T n q2, v2)) → wp (f q fa fp (tK T n q e) o s (tS T n q) v) Q
/-- f fails -/
def CLbad (T : Nat → Int) (n : Nat) (f : RF) (q : Nat) (e o k p : Int) : Prop := ∀ (L : List Int) (fa fp s : Int) (v : Nat → Int) (Q : R_iReader_readPart → Prop), s ≤ q → cdk v s (trl L) → (∀ a kd op s2 st v2, Q (0, a, k, p, kd, op, s2, st, v2)) → wp (f q fa fp (tK T n q e) o s (tS T n q) v) Q
theorem w_emit {c a fa fp s : Int} {v : Nat → Int} {L : List Int} {Q : R_iReader_emit → Prop} (h : cdk v s L) (hs : s < 600) (k : ∀ v2, cdk v2 (s + 1) (L ++ [c]) → Q (1, fa, fp, s + 1, v2)) : wp (iReader_emit c a fa fp s v) Q := by
  have := h.1
  unfold iReader_emit
  rw [if_pos hs, wp_gd, wp_gd, wp_some]
  exact ⟨jb_iff.mpr (by omega), jr_iff.mpr (by omega), k _ (cdk_push h)⟩
theorem w_kop {a fa fp o : Int} {Q : R_iReader_opens → Prop} (ho : 0 ≤ o ∧ o ≤ 6) (h1 : o = 6 → Q (0, 3, a, o)) (h2 : o ≠ 6 → Q (1, fa, fp, o + 1)) : wp (iReader_opens a fa fp o) Q := by
  unfold iReader_opens iReader_fail
  rw [wp_ite]
  refine ⟨fun c => ?_, fun c => ?_⟩
  · rw [wp_gd, wp_some]
    exact ⟨jr_iff.mpr (by omega), h2 (by omega)⟩
  · rw [wp_bd3, wp_some, wp_gd, wp_some]
    exact ⟨(show jB 0 = true by decide), h1 (by omega)⟩
theorem w_kcl {o : Int} {Q : R_iReader_closes → Prop} (ho : 0 ≤ o ∧ o ≤ 6) (h : Q (1, o - 1)) : wp (iReader_closes o) Q := by
  unfold iReader_closes
  rw [wp_gd, wp_some]
  exact ⟨jr_iff.mpr (by omega), h⟩
theorem w_needM {N : Nat} (hN : 5000 ≤ N) {T : Nat → Int} {n q : Nat} {e c fa fp : Int} {Q : R_iReader_needMark → Prop} (hn : n ≤ 600) (he : e ≤ q) (hc : cMk c) (h1 : tM T n q c → Q (1, (tSk T n (q + 1) : Int), fa, fp, tK T n (tSk T n (q + 1)) e, (tS T n (tSk T n (q + 1)) : Int))) (h2 : ¬ tM T n q c → Q (0, (q : Int), 1, (q : Int), tK T n q e, (tS T n q : Int))) : wp (iReader_needMark N c q fa fp (tK T n q e) n (tS T n q) T) Q := by
  unfold iReader_needMark iReader_fail
  rw [wp_bd4]
  refine w_takeMark hN hn he hc (fun t => ?_) (fun t => ?_)
  · show wp (if (1 : Int) = 0 then _ else _) _
    rw [if_neg (by decide), wp_some]
    exact h1 t
  · show wp (if (0 : Int) = 0 then _ else _) _
    rw [if_pos rfl, wp_bd3, wp_some]
    show wp (if (0 : Int) = 0 then _ else _) _
    rw [if_pos rfl, wp_some]
    exact h2 t
theorem w_unit {N : Nat} (hN : 5000 ≤ N) {T : Nat → Int} {n q : Nat} {e : Int} {Q : R_iReader_takeUnit → Prop} (hn : n ≤ 600) (hq : q ≤ n) (hqq : tSk T n q = q) (he : e ≤ q) (h : ∀ u q2 e2, un T n q e u q2 e2 → (u = 240 ∨ u = 12 ∨ u = 1) → q ≤ q2 → q2 ≤ n → tSk T n q2 = q2 → e2 ≤ q2 → Q (u, (q2 : Int), tK T n q2 e2, (tS T n q2 : Int))) : wp (iReader_takeUnit N q (tK T n q e) n (tS T n q) T) Q := by
  have z0 := tS_le (T := T) (n := n) (q := q) hq
  have z1 : tS T n q ≤ tSk T n (tS T n q) := lR_ge
  have z2 : tSk T n (tS T n q) ≤ n := lR_le z0.2.1
  have z3 : tSk T n (tSk T n (tS T n q)) = tSk T n (tS T n q) := lR_id
  unfold iReader_takeUnit
  rw [wp_bd4]
  refine w_takeWord hN hn hq (by decide) (fun t => ?_) (fun t => ?_)
  · show wp (if (1 : Int) = 0 then _ else _) _
    rw [if_neg (by decide), wp_some]
    exact h 240 _ _ (Or.inl ⟨t, rfl, rfl, rfl⟩) (Or.inl rfl) (by omega) z2 z3 (by omega)
  · show wp (if (0 : Int) = 0 then _ else _) _
    rw [if_pos rfl, wp_bd4]
    refine w_takeWord hN hn hq (by decide) (fun t2 => ?_) (fun t2 => ?_)
    · show wp (if (1 : Int) = 0 then _ else _) _
      rw [if_neg (by decide), wp_some]
      exact h 12 _ _ (Or.inr (Or.inl ⟨t2, rfl, rfl, rfl⟩)) (Or.inr (Or.inl rfl)) (by omega) z2 z3 (by omega)
    · show wp (if (0 : Int) = 0 then _ else _) _
      rw [if_pos rfl, wp_bd4]
      refine w_takeWord hN hn hq (by decide) (fun t3 => ?_) (fun t3 => ?_)
      · rw [wp_some]
        exact h 1 _ _ (Or.inr (Or.inr (Or.inl ⟨t3, rfl, rfl, rfl⟩))) (Or.inr (Or.inr rfl)) (by omega) z2 z3 (by omega)
      · rw [wp_some]
        exact h 1 _ _ (Or.inr (Or.inr (Or.inr ⟨t, t2, t3, rfl, rfl, rfl⟩))) (Or.inr (Or.inr rfl)) (Nat.le_refl _) hq hqq he
/-- the place behind: in the text, a token's start, past what was read -/
def plc (T : Nat → Int) (n q : Nat) (q2 : Nat) (e2 : Int) (l : List Int) : Prop := q2 ≤ n ∧ tSk T n q2 = q2 ∧ e2 ≤ q2 ∧ (trl l).length + q ≤ q2
/-- operations that wait may as well have been given -/
def RBp [Inhabited Frm] (C : Rx) (L S : List Int) (q : Nat) (e o : Int) : Prop := ∀ L1 P, L = L1 ++ P → P.length ≤ 1 → (∀ x, x ∈ P → x = 3 ∨ x = 4) → RB C L1 (P ++ S) q e o
def RBs [Inhabited Frm] (C : Rx) (L S : List Int) (q : Nat) (e o : Int) : Prop := ∀ L1 P, L = L1 ++ P → P.length ≤ 2 → (∀ x, x ∈ P → 1 ≤ x ∧ x ≤ 4) → RB C L1 (P ++ S) q e o
def nt (f : Int → Bool) (W : List Int) : Prop := ∀ x V, W = x :: V → ¬ f x = true
def fit (C : Rx) (T : Nat → Int) (n q : Nat) (L S : List Int) : Prop := okR C ∧ C.n = n ∧ C.T = T ∧ (S ++ C.B).length ≤ q ∧ L.length + (S ++ C.B).length ≤ q
/-- a part: both sides -/
def SimP [Inhabited Frm] (T : Nat → Int) (n : Nat) (f : RF) (q : Nat) (e o : Int) (D : Nat) : Prop := (∃ q2 e2 l, CLok T n f q e o q2 e2 l ∧ plc T n q q2 e2 l ∧ q < q2 ∧ EvS l D ∧ ∀ C L S, fit C T n q L S → RB C (L ++ l) S q2 e2 o → RA C L S q e o) ∨ ∃ k p, CLbad T n f q e o k p ∧ ∀ C L S, fit C T n q L S → FL C k p → RA C L S q e o
/-- a product -/
def SimM [Inhabited Frm] (T : Nat → Int) (n : Nat) (f : RF) (q : Nat) (e o : Int) (D : Nat) : Prop := (∃ q2 e2 l, CLok T n f q e o q2 e2 l ∧ plc T n q q2 e2 l ∧ q < q2 ∧ EvS l D ∧ (¬ tM T n q2 42 ∧ ¬ tM T n q2 47) ∧ ∀ C L S, fit C T n q L S → nt mlB (S ++ C.B) → RBp C (L ++ l) S q2 e2 o → RA C L S q e o) ∨ ∃ k p, CLbad T n f q e o k p ∧ ∀ C L S, fit C T n q L S → nt mlB (S ++ C.B) → FL C k p → RA C L S q e o
/-- a sum -/
def SimS [Inhabited Frm] (T : Nat → Int) (n : Nat) (f : RF) (q : Nat) (e o : Int) (D : Nat) : Prop := (∃ q2 e2 l, CLok T n f q e o q2 e2 l ∧ plc T n q q2 e2 l ∧ q < q2 ∧ EvS l D ∧ nOp T n q2 ∧ ∀ C L S, fit C T n q L S → nt asB (S ++ C.B) → RBs C (L ++ l) S q2 e2 o → RA C L S q e o) ∨ ∃ k p, CLbad T n f q e o k p ∧ ∀ C L S, fit C T n q L S → nt asB (S ++ C.B) → FL C k p → RA C L S q e o
theorem tkw_t {f : Int → Bool} {W : List Int} : ∀ {P : List Int}, nt f W → (∀ x, x ∈ P → f x = true) → tkw f (P ++ W) = P ∧ drw f (P ++ W) = W
  | [], h, _ => by
    cases W with
    | nil => exact ⟨rfl, rfl⟩
    | cons x W => exact ⟨tkw_n (h x W rfl), drw_n (h x W rfl)⟩
  | x :: P, h, hp => by
    have hx := hp x (List.mem_cons_self ..)
    obtain ⟨a, b⟩ := tkw_t (P := P) h (fun y hy => hp y (List.mem_cons_of_mem _ hy))
    rw [List.cons_append, tkw_p hx, drw_p hx, a, b]
    exact ⟨rfl, rfl⟩
theorem fm_t {c : Int} {S : List Int} (hc : mkB c = true) : ∀ {P : List Int}, (∀ x, x ∈ P → nmB x = true) → fm (P ++ c :: S) = c
  | [], _ => if_pos hc
  | x :: P, hp => by
    have hx := hp x (List.mem_cons_self ..)
    have : ¬ mkB x = true := fun g => by
      unfold nmB at hx
      rw [g] at hx
      exact absurd hx (by decide)
    show (if mkB x = true then x else fm (P ++ c :: S)) = c
    rw [if_neg this]
    exact fm_t hc (fun y hy => hp y (List.mem_cons_of_mem _ hy))
theorem nm_as {P : List Int} (h : ∀ x, x ∈ P → 1 ≤ x ∧ x ≤ 4) : ∀ x, x ∈ P → nmB x = true := fun x hx => by
  have := h x hx
  unfold nmB
  cases g : mkB x with
  | false => rfl
  | true =>
    have := mkB_iff.mp g
    omega
theorem cM_ : cMk 41 ∧ cMk 42 ∧ cMk 43 ∧ cMk 44 ∧ cMk 45 ∧ cMk 47 ∧ cMk 91 ∧ cMk 93 ∧ cMk 60 ∧ cMk 62 ∧ cMk 61 ∧ cMk 59 := by
  unfold cMk
  decide
