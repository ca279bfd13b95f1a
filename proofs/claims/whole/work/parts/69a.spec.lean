set_option maxHeartbeats 4000000
set_option maxRecDepth 100000
/-! the roll: what both sides tell -/
def val (E : Env) (l : List Int) : Int := match rRun E l [] with
  | some (v :: _) => v
  | _ => 0
theorem val_v {lo hi : Int} {l : List Int} {m : Nat} {E : Env} (h : Ev lo hi l m) (hE : envOk E) : (lo ≤ val E l ∧ val E l ≤ hi) ∧ rRun E l [] = some [val E l] ∧ (m ≤ 64 → kRun E (trl l) [] = some [val E l]) := by
  obtain ⟨v, a, b, c⟩ := h E hE
  have e : val E l = v := by
    unfold val
    rw [b []]
  rw [e]
  exact ⟨a, b [], fun hm => c [] (by show 0 + m ≤ 64; omega)⟩
def env (sh : Int) (x : Nat) (d p : Int) : Env := (sh, (x : Int), clp d, clp p)
theorem env_ok {sh d p : Int} {x : Nat} (hx : x ≤ 39) : envOk (env sh x d p) := ⟨by show 0 ≤ (x : Int) ∧ (x : Int) ≤ 39; omega, clp_b d, clp_b p⟩
def pos (x : Int) : Int := if 0 ≤ x then x else 0
/-- what a statement of kind k gives -/
def amt (k sh : Int) (x : Nat) (w : St) (d : Int) : Int := if k = 3 then (if d ≤ 0 then 0 else d * w.f1 / w.f2) else pos (val (env sh x d 0) w.l)
/-- one statement: debt, total, blanched -/
def sK (k sh : Int) (x : Nat) (w : St) (s : Int × Int × Int) : Int × Int × Int := if w.kd = k ∧ val (env sh x s.1 0) w.t ≠ 0 then ((if k = 1 then s.1 + amt k sh x w s.1 else s.1 - amt k sh x w s.1), s.2.1 + amt k sh x w s.1, (if s.2.2 = 0 then w.bl else s.2.2)) else s
def runK (k sh : Int) (x : Nat) : List St → Int × Int × Int → Int × Int × Int
  | [], s => s
  | w :: V, s => runK k sh x V (sK k sh x w s)
/-- a statement that splits: debt, what is put off -/
def addO (o : Nat → Int) (n : Nat) (p : Int) : Nat → Int := fun j => if j < n then o j + p else o j
def sS (sh : Int) (x : Nat) (p : Int) (w : St) (s : Int × (Nat → Int)) : Int × (Nat → Int) := if w.kd = 4 ∧ 0 < s.1 ∧ val (env sh x s.1 p) w.t ≠ 0 then (s.1 - s.1 / w.f1 * (w.f1 - 1), addO s.2 (w.f1 - 1).toNat (s.1 / w.f1)) else s
def runS (sh : Int) (x : Nat) (p : Int) : List St → Int × (Nat → Int) → Int × (Nat → Int)
  | [], s => s
  | w :: V, s => runS sh x p V (sS sh x p w s)
/-- the world: the writ of a term, what is paid at a term (by blanched) -/
abbrev RW : Type := (Nat → List St) × (Nat → Int → Int)
def RW.wt (W : RW) : Nat → List St := W.1
def RW.py (W : RW) : Nat → Int → Int := W.2
/-- behind a term: debt, put off, farms, allowed, pardoned, paid -/
abbrev RS : Type := Int × (Nat → Int) × Int × Int × Int × Int
def RS.d (S : RS) : Int := S.1
def RS.o (S : RS) : Nat → Int := S.2.1
def RS.fa (S : RS) : Int := S.2.2.1
def RS.al (S : RS) : Int := S.2.2.2.1
def RS.pa (S : RS) : Int := S.2.2.2.2.1
def RS.pd (S : RS) : Int := S.2.2.2.2.2
def st1 (sh : Int) (W : RW) (x : Nat) (S : RS) : Int × Int × Int := runK 1 sh x (W.wt x) (S.d + S.o 0, 0, 0)
def st2 (sh : Int) (W : RW) (x : Nat) (S : RS) : Int × Int × Int := runK 2 sh x (W.wt x) ((st1 sh W x S).1, 0, (st1 sh W x S).2.2)
def st3 (sh : Int) (W : RW) (x : Nat) (S : RS) : Int × Int × Int := runK 3 sh x (W.wt x) ((st2 sh W x S).1, 0, (st2 sh W x S).2.2)
def stP (sh : Int) (W : RW) (x : Nat) (S : RS) : Int := W.py x (st3 sh W x S).2.2
def st4 (sh : Int) (W : RW) (x : Nat) (S : RS) : Int × (Nat → Int) := runS sh x (stP sh W x S) (W.wt x) ((st3 sh W x S).1 - stP sh W x S, fun j => S.o (j + 1))
def rstep (sh : Int) (W : RW) (x : Nat) (S : RS) : RS := ((st4 sh W x S).1, (st4 sh W x S).2, (st1 sh W x S).2.1, (st2 sh W x S).2.1, (st3 sh W x S).2.1, stP sh W x S)
def roll (sh : Int) (W : RW) : Nat → RS
  | 0 => (0, fun _ => 0, 0, 0, 0, 0)
  | x + 1 => rstep sh W x (roll sh W x)
theorem rstep_cg {sh : Int} {W W2 : RW} {x : Nat} {S : RS} (h1 : W.wt x = W2.wt x) (h2 : W.py x = W2.py x) : rstep sh W x S = rstep sh W2 x S := by
  have e1 : st1 sh W x S = st1 sh W2 x S := by unfold st1; rw [h1]
  have e2 : st2 sh W x S = st2 sh W2 x S := by unfold st2; rw [h1, e1]
  have e3 : st3 sh W x S = st3 sh W2 x S := by unfold st3; rw [h1, e2]
  have e4 : stP sh W x S = stP sh W2 x S := by unfold stP; rw [h2, e3]
  have e5 : st4 sh W x S = st4 sh W2 x S := by unfold st4; rw [h1, e3, e4]
  unfold rstep
  rw [e1, e2, e3, e4, e5]
/-- a roll speaks of the terms before alone -/
theorem roll_cg {sh : Int} {W W2 : RW} : ∀ {x : Nat}, (∀ y, y < x → W.wt y = W2.wt y ∧ W.py y = W2.py y) → roll sh W x = roll sh W2 x
  | 0, _ => rfl
  | x + 1, h => by
    show rstep sh W x (roll sh W x) = rstep sh W2 x (roll sh W2 x)
    rw [roll_cg (x := x) (fun y hy => h y (by omega)), rstep_cg (h x (by omega)).1 (h x (by omega)).2]
/-! bounds -/
/-- each writ's statements are well made -/
def wtOk (V : List St) : Prop := V.length ≤ 24 ∧ ∀ w, w ∈ V → wOk w
def bB (x M : Int) : Prop := -M ≤ x ∧ x ≤ M
theorem div_le_self' {a b : Int} (ha : 0 ≤ a) (hb : 1 ≤ b) : 0 ≤ a / b ∧ a / b ≤ a := ⟨Int.ediv_nonneg ha (by omega), Int.ediv_le_self b ha⟩
theorem amt_b {k sh : Int} {x : Nat} {w : St} {d : Int} (hx : x ≤ 39) (hk : k = 1 ∨ k = 2 ∨ k = 3) (hw : wOk w) (hwk : w.kd = k) : (k ≠ 3 → 0 ≤ amt k sh x w d ∧ amt k sh x w d ≤ 1000000000) ∧ (k = 3 → 0 ≤ amt k sh x w d ∧ (amt k sh x w d = 0 ∨ amt k sh x w d ≤ d)) := by
  unfold amt
  have hs := hw.1
  unfold stOk at hs
  refine ⟨fun h => ?_, fun h => ?_⟩
  · rw [if_neg h]
    have ev : EvS w.l 21 := by
      rcases hs with g | g | g | g
      · exact g.2.2.2.2
      · exact g.2.2.2.2
      · omega
      · omega
    have b := (val_v (E := env sh x d 0) ev (env_ok hx)).1
    unfold pos
    split <;> omega
  · rw [if_pos h]
    by_cases hd : d ≤ 0
    · rw [if_pos hd]
      exact ⟨Int.le_refl 0, Or.inl rfl⟩
    · rw [if_neg hd]
      have f : 1 ≤ w.f1 ∧ w.f1 ≤ w.f2 ∧ w.f2 ≤ 999 := by
        rcases hs with g | g | g | g
        · omega
        · omega
        · exact g.2.2.1
        · omega
      have h0 : 0 ≤ d * w.f1 := Int.mul_nonneg (by omega) (by omega)
      refine ⟨Int.ediv_nonneg h0 (by omega), Or.inr (Int.ediv_le_of_le_mul (by omega) ?_)⟩
      exact Int.mul_le_mul_of_nonneg_left f.2.1 (by omega)
theorem sK_b {k sh : Int} {x : Nat} {w : St} {s : Int × Int × Int} {M : Int} (hx : x ≤ 39) (hk : k = 1 ∨ k = 2 ∨ k = 3) (hw : wOk w) (h : bB s.1 M) : bB (sK k sh x w s).1 (M + 1000000000) := by
  unfold sK
  by_cases c : w.kd = k ∧ val (env sh x s.1 0) w.t ≠ 0
  · rw [if_pos c]
    have ha := amt_b (sh := sh) (d := s.1) hx hk hw c.1
    obtain ⟨h1, h2⟩ := h
    show bB (if k = 1 then _ else _) _
    unfold bB
    rcases hk with e | e | e
    · rw [if_pos e]
      have := ha.1 (by omega)
      omega
    · rw [if_neg (by omega)]
      have := ha.1 (by omega)
      omega
    · rw [if_neg (by omega)]
      have := ha.2 e
      omega
  · rw [if_neg c]
    obtain ⟨h1, h2⟩ := h
    exact ⟨by omega, by omega⟩
theorem sK_t {k sh : Int} {x : Nat} {w : St} {s : Int × Int × Int} {M P : Int} (hx : x ≤ 39) (hk : k = 1 ∨ k = 2 ∨ k = 3) (hw : wOk w) (h : bB s.1 M) (h0 : 0 ≤ M) (ht : 0 ≤ s.2.1 ∧ s.2.1 ≤ P) (hb : s.2.2 = 0 ∨ s.2.2 = 1) : (0 ≤ (sK k sh x w s).2.1 ∧ (sK k sh x w s).2.1 ≤ P + M + 1000000000) ∧ ((sK k sh x w s).2.2 = 0 ∨ (sK k sh x w s).2.2 = 1) := by
  unfold sK
  by_cases c : w.kd = k ∧ val (env sh x s.1 0) w.t ≠ 0
  · rw [if_pos c]
    have ha := amt_b (sh := sh) (d := s.1) hx hk hw c.1
    obtain ⟨h1, h2⟩ := h
    refine ⟨?_, ?_⟩
    · show 0 ≤ s.2.1 + _ ∧ s.2.1 + _ ≤ _
      rcases hk with e | e | e
      · have := ha.1 (by omega)
        omega
      · have := ha.1 (by omega)
        omega
      · have := ha.2 e
        omega
    · show (if s.2.2 = 0 then w.bl else s.2.2) = 0 ∨ (if s.2.2 = 0 then w.bl else s.2.2) = 1
      by_cases z : s.2.2 = 0
      · rw [if_pos z]
        rcases hw.1 with g | g | g | g
        · exact g.2.1
        · exact Or.inl g.2.1
        · exact Or.inl g.2.1
        · exact Or.inl g.2.1
      · rw [if_neg z]
        exact hb
  · rw [if_neg c]
    obtain ⟨h1, h2⟩ := h
    exact ⟨⟨ht.1, by omega⟩, hb⟩
theorem runK_b {k sh : Int} {x : Nat} (hx : x ≤ 39) (hk : k = 1 ∨ k = 2 ∨ k = 3) : ∀ {V : List St} {s : Int × Int × Int} {M P : Int}, (∀ w, w ∈ V → wOk w) → bB s.1 M → 0 ≤ M → 0 ≤ s.2.1 ∧ s.2.1 ≤ P → (s.2.2 = 0 ∨ s.2.2 = 1) → M + 1000000000 * V.length ≤ 1000000000000000 → bB (runK k sh x V s).1 (M + 1000000000 * V.length) ∧ (0 ≤ (runK k sh x V s).2.1 ∧ (runK k sh x V s).2.1 ≤ P + 1000001000000000 * V.length) ∧ ((runK k sh x V s).2.2 = 0 ∨ (runK k sh x V s).2.2 = 1)
  | [], s, M, P, _, h, h0, ht, hb, hm => by
    show bB s.1 (M + 1000000000 * ((0 : Nat) : Int)) ∧ (0 ≤ s.2.1 ∧ s.2.1 ≤ P + 1000001000000000 * ((0 : Nat) : Int)) ∧ _
    refine ⟨?_, ⟨ht.1, by omega⟩, hb⟩
    rw [show M + 1000000000 * ((0 : Nat) : Int) = M by omega]
    exact h
  | w :: V, s, M, P, hV, h, h0, ht, hb, hm => by
    have hl : ((w :: V).length : Int) = (V.length : Int) + 1 := rfl
    rw [hl] at hm ⊢
    have hw := hV w (List.mem_cons_self ..)
    have a := sK_b (sh := sh) hx hk hw h
    obtain ⟨b, c⟩ := sK_t (sh := sh) hx hk hw h h0 ht hb
    have r := runK_b hx hk (V := V) (s := sK k sh x w s) (M := M + 1000000000) (P := P + M + 1000000000) (sh := sh) (fun z hz => hV z (List.mem_cons_of_mem _ hz)) a (by omega) b c (by omega)
    show bB (runK k sh x V (sK k sh x w s)).1 _ ∧ (0 ≤ (runK k sh x V (sK k sh x w s)).2.1 ∧ (runK k sh x V (sK k sh x w s)).2.1 ≤ _) ∧ _
    refine ⟨?_, ⟨r.2.1.1, by have := r.2.1.2; omega⟩, r.2.2⟩
    have e : M + 1000000000 + 1000000000 * (V.length : Int) = M + 1000000000 * ((V.length : Int) + 1) := by omega
    rw [← e]
    exact r.1
