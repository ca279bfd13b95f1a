set_option maxHeartbeats 4000000
set_option maxRecDepth 100000
/-! code: as lists, and what it gives -/
def trc (c : Int) : List Int := if 1000 ≤ c then [c - 1000] else if 100 ≤ c then [c - 100, -6] else if c = 1 then [-7] else if c = 2 then [-8] else if c = 3 then [-9] else if c = 4 then [-10] else if c = 5 then [-11] else if c = 6 then [-12] else if c = 7 then [-1] else if c = 8 then [-2] else if c = 9 then [-3] else if c = 10 then [-4] else if c = 11 then [-13] else if c = 12 then [-14] else if c = 13 then [-15] else if c = 14 then [-16] else if c = 15 then [-17] else if c = 16 then [-5] else [1]
def trl : List Int → List Int
  | [] => []
  | c :: l => trc c ++ trl l
theorem trl_app (a b : List Int) : trl (a ++ b) = trl a ++ trl b := by
  induction a with
  | nil => rfl
  | cons c l ih =>
    show trc c ++ trl (l ++ b) = trc c ++ trl l ++ trl b
    rw [ih, List.append_assoc]
theorem trl_one (c : Int) : trl [c] = trc c := List.append_nil _
theorem ite_len {p : Prop} [Decidable p] {a b : List Int} (ha : 1 ≤ a.length) (hb : 1 ≤ b.length) : 1 ≤ (if p then a else b).length := by
  by_cases h : p
  · rw [if_pos h]
    exact ha
  · rw [if_neg h]
    exact hb
theorem trc_len (c : Int) : 1 ≤ (trc c).length := by
  unfold trc
  have o : ∀ x : Int, 1 ≤ [x].length := fun x => Nat.le_refl 1
  exact ite_len (o _) (ite_len (Nat.le_add_left 1 1) (ite_len (o _) (ite_len (o _) (ite_len (o _) (ite_len (o _) (ite_len (o _) (ite_len (o _) (ite_len (o _) (ite_len (o _) (ite_len (o _) (ite_len (o _) (ite_len (o _) (ite_len (o _) (ite_len (o _) (ite_len (o _) (ite_len (o _) (ite_len (o _) (o _))))))))))))))))))
theorem trl_len : ∀ l : List Int, l.length ≤ (trl l).length
  | [] => Nat.le_refl 0
  | c :: l => by
    have a := trl_len l
    have b := trc_len c
    show l.length + 1 ≤ (trc c ++ trl l).length
    rw [List.length_append]
    omega
/-- the array v holds the list L, s of it -/
def cdk (v : Nat → Int) (s : Int) (L : List Int) : Prop := s = L.length ∧ ∀ i, i < L.length → v i = L.getD i 0
/-- what the array held before -/
def Frm : Type := Nat → Int
def frm [h : Inhabited Frm] : Nat → Int := h.default
/-- the same, and behind it all is as before -/
def cod [Inhabited Frm] (v : Nat → Int) (s : Int) (L : List Int) : Prop := cdk v s L ∧ ∀ i, L.length ≤ i → v i = frm i
theorem cdk_push {v : Nat → Int} {s x : Int} {L : List Int} (h : cdk v s L) : cdk (va_up v s.toNat x) (s + 1) (L ++ [x]) := by
  obtain ⟨h1, h2⟩ := h
  have e : s.toNat = L.length := by omega
  refine ⟨by rw [List.length_append]; simp; omega, fun i hi => ?_⟩
  rw [List.length_append] at hi
  simp at hi
  by_cases k : i = L.length
  · rw [k, e, va_up_self]
    simp [List.getD]
  · rw [e, va_up_ne _ _ k, h2 i (by omega)]
    simp only [List.getD, List.getElem?_append_left (show i < L.length by omega)]
theorem cdk_nil (v : Nat → Int) : cdk v 0 [] := ⟨rfl, fun i h => absurd h (Nat.not_lt_zero i)⟩
theorem cod_push [Inhabited Frm] {v : Nat → Int} {s x : Int} {L : List Int} (h : cod v s L) : cod (va_up v s.toNat x) (s + 1) (L ++ [x]) := by
  refine ⟨cdk_push h.1, fun i hi => ?_⟩
  have e : s = L.length := h.1.1
  have e2 : s.toNat = L.length := by omega
  rw [List.length_append] at hi
  have hi2 : L.length + 1 ≤ i := hi
  rw [e2, va_up_ne _ _ (by omega)]
  exact h.2 i (by omega)
theorem cod_l [Inhabited Frm] {v : Nat → Int} {s : Int} {L : List Int} (h : cod v s L) : s = L.length := h.1.1
/-- a failing reader's codes -/
def frS [Inhabited Frm] (v : Nat → Int) (s : Int) : Prop := 0 ≤ s ∧ s ≤ 601 ∧ ∀ i, 640 ≤ i → v i = frm i
def frT [Inhabited Frm] (v : Nat → Int) (s : Int) : Prop := 0 ≤ s ∧ s ≤ 602 ∧ ∀ i, 640 ≤ i → v i = frm i
theorem frS.t [Inhabited Frm] {v : Nat → Int} {s : Int} (h : frS v s) : frT v s := ⟨h.1, by have := h.2.1; omega, h.2.2⟩
/-! values -/
def clp (x : Int) : Int := if x < -1000000000 then -1000000000 else if 1000000000 < x then 1000000000 else x
theorem clp_b (x : Int) : -1000000000 ≤ clp x ∧ clp x ≤ 1000000000 := by
  unfold clp
  split
  · omega
  · split <;> omega
/-- the greatest whole number not above; by 0: 0 -/
def flo (a b : Int) : Int := if b = 0 then 0 else Int.fdiv a b
theorem flo_b {a b : Int} (h : -1000000000 ≤ a ∧ a ≤ 1000000000) : -1000000000 ≤ flo a b ∧ flo a b ≤ 1000000000 := by
  unfold flo
  by_cases hb : b = 0
  · rw [if_pos hb]
    omega
  · rw [if_neg hb]
    by_cases hp : 0 < b
    · rw [Int.fdiv_eq_ediv_of_nonneg a (by omega)]
      exact ⟨Int.le_ediv_of_mul_le hp (by omega), Int.ediv_le_of_le_mul hp (by omega)⟩
    · have e : Int.fdiv a b = Int.fdiv (-a) (-b) := (Int.neg_fdiv_neg a b).symm
      rw [e, Int.fdiv_eq_ediv_of_nonneg _ (by omega)]
      exact ⟨Int.le_ediv_of_mul_le (by omega) (by omega), Int.ediv_le_of_le_mul (by omega) (by omega)⟩
/-- the moment: shire, term, debt, paid (both clipped) -/
abbrev Env : Type := Int × Int × Int × Int
def envOk (E : Env) : Prop := (0 ≤ E.2.1 ∧ E.2.1 ≤ 39) ∧ (-1000000000 ≤ E.2.2.1 ∧ E.2.2.1 ≤ 1000000000) ∧ -1000000000 ≤ E.2.2.2 ∧ E.2.2.2 ≤ 1000000000
/-- two values of the reference come together -/
def rOp (c a b : Int) : Int := if c = 1 then clp (a + b) else if c = 2 then clp (a - b) else if c = 3 then clp (a * b) else if c = 4 then flo a b else if c = 5 then (if a < b then a else b) else if c = 6 then (if b < a then a else b) else if c = 11 then (if a < b then 1 else 0) else if c = 12 then (if b < a then 1 else 0) else if c = 13 then (if a = b then 1 else 0) else if c = 14 then a * b else (if 0 < a + b then 1 else 0)
def rSt (E : Env) (c : Int) (st : List Int) : Option (List Int) := if 1000 ≤ c then some ((c - 1000) :: st) else if 100 ≤ c then some ((if c - 100 = E.1 then 1 else 0) :: st) else if c = 7 then some (E.2.1 :: st) else if c = 8 then some (E.2.1 / 2 :: st) else if c = 9 then some (E.2.2.1 :: st) else if c = 10 then some (E.2.2.2 :: st) else if c = 17 then some (1 :: st) else if c = 16 then (match st with | x :: s => some ((1 - x) :: s) | [] => none) else (match st with | b :: a :: s => some (rOp c a b :: s) | _ => none)
/-- a value that both sides can bear -/
abbrev inB (x : Int) : Prop := -1000000000 ≤ x ∧ x ≤ 1000000000
def chk : Option (List Int) → Option (List Int)
  | some (x :: s) => if inB x then some (x :: s) else none
  | _ => none
theorem chk_ok {x : Int} {s : List Int} (h : inB x) : chk (some (x :: s)) = some (x :: s) := if_pos h
def rRun (E : Env) : List Int → List Int → Option (List Int)
  | [], st => some st
  | c :: l, st => match chk (rSt E c st) with | some s => rRun E l s | none => none
/-- two values of the class come together -/
def kOp (c a b : Int) : Int := if c = -7 then clp (a + b) else if c = -8 then clp (a - b) else if c = -9 then clp (a * b) else if c = -10 then flo a b else if c = -11 ∨ c = -16 then (if b < a then b else a) else if c = -12 ∨ c = -17 then (if b < a then a else b) else if c = -13 then (if a < b then 1 else 0) else if c = -14 then (if b < a then 1 else 0) else (if a = b then 1 else 0)
def kPv (E : Env) (c : Int) : Int := if 0 ≤ c then c else if c = -1 then E.2.1 else if c = -2 then E.2.1 / 2 else if c = -3 then E.2.2.1 else E.2.2.2
def kSt (E : Env) (c : Int) (st : List Int) : Option (List Int) := if -4 ≤ c then (if st.length < 64 then some (kPv E c :: st) else none) else if -6 ≤ c then (match st with | x :: s => some ((if x = (if c = -6 then E.1 else 0) then 1 else 0) :: s) | [] => none) else (match st with | b :: a :: s => some (kOp c a b :: s) | _ => none)
def kRun (E : Env) : List Int → List Int → Option (List Int)
  | [], st => some st
  | c :: l, st => match chk (kSt E c st) with | some s => kRun E l s | none => none
theorem rRun_app (E : Env) : ∀ (a b st : List Int), rRun E (a ++ b) st = match rRun E a st with | some s => rRun E b s | none => none
  | [], b, st => rfl
  | c :: a, b, st => by
    show (match chk (rSt E c st) with | some s => rRun E (a ++ b) s | none => none) = (match (match chk (rSt E c st) with | some s => rRun E a s | none => none) with | some s => rRun E b s | none => none)
    cases chk (rSt E c st) with
    | none => rfl
    | some s => exact rRun_app E a b s
theorem kRun_app (E : Env) : ∀ (a b st : List Int), kRun E (a ++ b) st = match kRun E a st with | some s => kRun E b s | none => none
  | [], b, st => rfl
  | c :: a, b, st => by
    show (match chk (kSt E c st) with | some s => kRun E (a ++ b) s | none => none) = (match (match chk (kSt E c st) with | some s => kRun E a s | none => none) with | some s => kRun E b s | none => none)
    cases chk (kSt E c st) with
    | none => rfl
    | some s => exact kRun_app E a b s
/-- l gives one value, the same on both sides, with at most m places of the class's stack; between lo and hi -/
def Ev (lo hi : Int) (l : List Int) (m : Nat) : Prop := ∀ E : Env, envOk E → ∃ v : Int, (lo ≤ v ∧ v ≤ hi) ∧ (∀ st, rRun E l st = some (v :: st)) ∧ ∀ st, st.length + m ≤ 64 → kRun E (trl l) st = some (v :: st)
abbrev EvS : List Int → Nat → Prop := Ev (-1000000000) 1000000000
abbrev EvT : List Int → Nat → Prop := Ev 0 1
theorem Ev_up {lo hi : Int} {l : List Int} {m m2 : Nat} (h : Ev lo hi l m) (hm : m ≤ m2) : Ev lo hi l m2 := fun E hE => by
  obtain ⟨v, a, b, c⟩ := h E hE
  exact ⟨v, a, b, fun st hs => c st (by omega)⟩
theorem Ev_two {lo hi lo2 hi2 : Int} {a b : List Int} {m k : Nat} {c d : Int} (ha : Ev lo hi a m) (hb : Ev lo hi b k) (hB : -1000000000 ≤ lo2 ∧ hi2 ≤ 1000000000) (hr : ∀ E s, ∀ x y : Int, rSt E c (y :: x :: s) = some (rOp c x y :: s)) (ht : trc c = [d]) (hk : ∀ E s, ∀ x y : Int, kSt E d (y :: x :: s) = some (kOp d x y :: s)) (he : ∀ x y, (lo ≤ x ∧ x ≤ hi) → (lo ≤ y ∧ y ≤ hi) → rOp c x y = kOp d x y ∧ lo2 ≤ rOp c x y ∧ rOp c x y ≤ hi2) : Ev lo2 hi2 (a ++ b ++ [c]) (max m (k + 1)) := fun E hE => by
  obtain ⟨x, x1, x2, x3⟩ := ha E hE
  obtain ⟨y, y1, y2, y3⟩ := hb E hE
  obtain ⟨e1, e2⟩ := he x y x1 y1
  refine ⟨rOp c x y, e2, fun st => ?_, fun st hs => ?_⟩
  · rw [rRun_app, rRun_app, x2]
    show (match rRun E b (x :: st) with | some s => rRun E [c] s | none => none) = _
    rw [y2]
    show (match chk (rSt E c (y :: x :: st)) with | some s => some s | none => none) = _
    rw [hr, chk_ok ⟨by omega, by omega⟩]
  · rw [trl_app, trl_app, trl_one, ht, kRun_app, kRun_app, x3 st (by omega)]
    show (match kRun E (trl b) (x :: st) with | some s => kRun E [d] s | none => none) = _
    rw [y3 (x :: st) (by show st.length + 1 + k ≤ 64; omega)]
    show (match chk (kSt E d (y :: x :: st)) with | some s => some s | none => none) = _
    rw [hk, ← e1, chk_ok ⟨by omega, by omega⟩]
theorem rOp_1 (a b : Int) : rOp 1 a b = clp (a + b) := if_pos rfl
theorem rOp_2 (a b : Int) : rOp 2 a b = clp (a - b) := by
  unfold rOp
  rw [if_neg (by decide), if_pos rfl]
theorem rOp_3 (a b : Int) : rOp 3 a b = clp (a * b) := by
  unfold rOp
  rw [if_neg (by decide), if_neg (by decide), if_pos rfl]
theorem rOp_4 (a b : Int) : rOp 4 a b = flo a b := by
  unfold rOp
  rw [if_neg (by decide), if_neg (by decide), if_neg (by decide), if_pos rfl]
theorem rOp_5 (a b : Int) : rOp 5 a b = if a < b then a else b := by
  unfold rOp
  rw [if_neg (by decide), if_neg (by decide), if_neg (by decide), if_neg (by decide), if_pos rfl]
theorem rOp_6 (a b : Int) : rOp 6 a b = if b < a then a else b := by
  unfold rOp
  rw [if_neg (by decide), if_neg (by decide), if_neg (by decide), if_neg (by decide), if_neg (by decide), if_pos rfl]
theorem kOp_1 (a b : Int) : kOp (-7) a b = clp (a + b) := if_pos rfl
theorem kOp_2 (a b : Int) : kOp (-8) a b = clp (a - b) := by
  unfold kOp
  rw [if_neg (by decide), if_pos rfl]
theorem kOp_3 (a b : Int) : kOp (-9) a b = clp (a * b) := by
  unfold kOp
  rw [if_neg (by decide), if_neg (by decide), if_pos rfl]
theorem kOp_4 (a b : Int) : kOp (-10) a b = flo a b := by
  unfold kOp
  rw [if_neg (by decide), if_neg (by decide), if_neg (by decide), if_pos rfl]
theorem kOp_5 (a b : Int) : kOp (-11) a b = if b < a then b else a := by
  unfold kOp
  rw [if_neg (by decide), if_neg (by decide), if_neg (by decide), if_neg (by decide), if_pos (by decide)]
theorem kOp_6 (a b : Int) : kOp (-12) a b = if b < a then a else b := by
  unfold kOp
  rw [if_neg (by decide), if_neg (by decide), if_neg (by decide), if_neg (by decide), if_neg (by decide), if_pos (by decide)]
theorem rSt_op (E : Env) {c : Int} (h : (1 ≤ c ∧ c ≤ 6) ∨ (11 ≤ c ∧ c ≤ 15)) (s : List Int) (x y : Int) : rSt E c (y :: x :: s) = some (rOp c x y :: s) := by
  unfold rSt
  rw [if_neg (by omega), if_neg (by omega), if_neg (by omega), if_neg (by omega), if_neg (by omega), if_neg (by omega), if_neg (by omega), if_neg (by omega)]
theorem kSt_op (E : Env) {c : Int} (h : c ≤ -7) (s : List Int) (x y : Int) : kSt E c (y :: x :: s) = some (kOp c x y :: s) := by
  unfold kSt
  rw [if_neg (by omega), if_neg (by omega)]
theorem mulB {x y : Int} : -1000000000 ≤ clp (x * y) ∧ clp (x * y) ≤ 1000000000 := clp_b _
theorem Ev_ar {a b : List Int} {m k : Nat} {c : Int} (ha : EvS a m) (hb : EvS b k) (hc : 1 ≤ c ∧ c ≤ 6) : EvS (a ++ b ++ [c]) (max m (k + 1)) := by
  have cs : c = 1 ∨ c = 2 ∨ c = 3 ∨ c = 4 ∨ c = 5 ∨ c = 6 := by omega
  rcases cs with e | e | e | e | e | e
  · subst e
    refine Ev_two (d := -7) ha hb (by omega) (fun E => rSt_op E (by omega)) rfl (fun E => kSt_op E (by omega)) (fun x y hx hy => ?_)
    rw [rOp_1, kOp_1]
    exact ⟨rfl, clp_b (x + y)⟩
  · subst e
    refine Ev_two (d := -8) ha hb (by omega) (fun E => rSt_op E (by omega)) rfl (fun E => kSt_op E (by omega)) (fun x y hx hy => ?_)
    rw [rOp_2, kOp_2]
    exact ⟨rfl, clp_b (x - y)⟩
  · subst e
    refine Ev_two (d := -9) ha hb (by omega) (fun E => rSt_op E (by omega)) rfl (fun E => kSt_op E (by omega)) (fun x y hx hy => ?_)
    rw [rOp_3, kOp_3]
    exact ⟨rfl, clp_b (x * y)⟩
  · subst e
    refine Ev_two (d := -10) ha hb (by omega) (fun E => rSt_op E (by omega)) rfl (fun E => kSt_op E (by omega)) (fun x y hx hy => ?_)
    rw [rOp_4, kOp_4]
    exact ⟨rfl, flo_b hx⟩
  · subst e
    refine Ev_two (d := -11) ha hb (by omega) (fun E => rSt_op E (by omega)) rfl (fun E => kSt_op E (by omega)) (fun x y hx hy => ?_)
    rw [rOp_5, kOp_5]
    by_cases h : x < y
    · rw [if_pos h, if_neg (by omega)]
      exact ⟨rfl, hx⟩
    · rw [if_neg h]
      by_cases h2 : y < x
      · rw [if_pos h2]
        exact ⟨rfl, hy⟩
      · rw [if_neg h2]
        exact ⟨by omega, hy⟩
  · subst e
    refine Ev_two (d := -12) ha hb (by omega) (fun E => rSt_op E (by omega)) rfl (fun E => kSt_op E (by omega)) (fun x y hx hy => ?_)
    rw [rOp_6, kOp_6]
    by_cases h : y < x
    · rw [if_pos h]
      exact ⟨rfl, hx⟩
    · rw [if_neg h]
      exact ⟨rfl, hy⟩
theorem Ev_cmp {a b : List Int} {m k : Nat} {c : Int} (ha : EvS a m) (hb : EvS b k) (hc : c = 11 ∨ c = 12 ∨ c = 13) : EvT (a ++ b ++ [c]) (max m (k + 1)) := by
  rcases hc with e | e | e
  · subst e
    refine Ev_two (d := -13) ha hb (by omega) (fun E => rSt_op E (by omega)) rfl (fun E => kSt_op E (by omega)) (fun x y hx hy => ⟨rfl, ?_⟩)
    show 0 ≤ (if x < y then (1 : Int) else 0) ∧ (if x < y then (1 : Int) else 0) ≤ 1
    split <;> omega
  · subst e
    refine Ev_two (d := -14) ha hb (by omega) (fun E => rSt_op E (by omega)) rfl (fun E => kSt_op E (by omega)) (fun x y hx hy => ⟨rfl, ?_⟩)
    show 0 ≤ (if y < x then (1 : Int) else 0) ∧ (if y < x then (1 : Int) else 0) ≤ 1
    split <;> omega
  · subst e
    refine Ev_two (d := -15) ha hb (by omega) (fun E => rSt_op E (by omega)) rfl (fun E => kSt_op E (by omega)) (fun x y hx hy => ⟨rfl, ?_⟩)
    show 0 ≤ (if x = y then (1 : Int) else 0) ∧ (if x = y then (1 : Int) else 0) ≤ 1
    split <;> omega
theorem Ev_lo {a b : List Int} {m k : Nat} {c : Int} (ha : EvT a m) (hb : EvT b k) (hc : c = 14 ∨ c = 15) : EvT (a ++ b ++ [c]) (max m (k + 1)) := by
  rcases hc with e | e
  · subst e
    refine Ev_two (d := -16) ha hb (by omega) (fun E => rSt_op E (by omega)) rfl (fun E => kSt_op E (by omega)) (fun x y hx hy => ?_)
    show x * y = (if y < x then y else x) ∧ 0 ≤ x * y ∧ x * y ≤ 1
    have hx2 : x = 0 ∨ x = 1 := by omega
    have hy2 : y = 0 ∨ y = 1 := by omega
    rcases hx2 with h | h <;> rcases hy2 with h2 | h2 <;> subst h <;> subst h2 <;> decide
  · subst e
    refine Ev_two (d := -17) ha hb (by omega) (fun E => rSt_op E (by omega)) rfl (fun E => kSt_op E (by omega)) (fun x y hx hy => ?_)
    show (if 0 < x + y then (1 : Int) else 0) = (if y < x then x else y) ∧ 0 ≤ (if 0 < x + y then (1 : Int) else 0) ∧ (if 0 < x + y then (1 : Int) else 0) ≤ 1
    have hx2 : x = 0 ∨ x = 1 := by omega
    have hy2 : y = 0 ∨ y = 1 := by omega
    rcases hx2 with h | h <;> rcases hy2 with h2 | h2 <;> subst h <;> subst h2 <;> decide
theorem Ev_not {a : List Int} {m : Nat} (ha : EvT a m) : EvT (a ++ [16]) m := fun E hE => by
  obtain ⟨x, x1, x2, x3⟩ := ha E hE
  refine ⟨1 - x, by omega, fun st => ?_, fun st hs => ?_⟩
  · rw [rRun_app, x2]
    show (match chk (some ((1 - x) :: st)) with | some s => some s | none => none) = _
    rw [chk_ok ⟨by omega, by omega⟩]
  · rw [trl_app, kRun_app, x3 st hs]
    show (match chk (some ((if x = 0 then (1 : Int) else 0) :: st)) with | some s => some s | none => none) = some ((1 - x) :: st)
    have hx2 : x = 0 ∨ x = 1 := by omega
    rcases hx2 with h | h <;> subst h <;> rfl
theorem Ev_num {v : Int} (h : 0 ≤ v ∧ v ≤ 24000000) : EvS [1000 + v] 1 := fun E hE => by
  refine ⟨v, by omega, fun st => ?_, fun st hs => ?_⟩
  · show (match chk (rSt E (1000 + v) st) with | some s => some s | none => none) = _
    unfold rSt
    rw [if_pos (by omega), show 1000 + v - 1000 = v by omega, chk_ok ⟨by omega, by omega⟩]
  · have t : trc (1000 + v) = [v] := by
      unfold trc
      rw [if_pos (by omega), show 1000 + v - 1000 = v by omega]
    rw [trl_one, t]
    show (match chk (kSt E v st) with | some s => some s | none => none) = _
    unfold kSt kPv
    rw [if_pos (by omega), if_pos (by omega), if_pos h.1, chk_ok ⟨by omega, by omega⟩]
theorem Ev_at {c d : Int} (hr : ∀ E st, rSt E c st = some (kPv E d :: st)) (ht : trc c = [d]) (hd : -4 ≤ d) (hv : ∀ E, envOk E → -1000000000 ≤ kPv E d ∧ kPv E d ≤ 1000000000) : EvS [c] 1 := fun E hE => by
  refine ⟨kPv E d, hv E hE, fun st => ?_, fun st hs => ?_⟩
  · show (match chk (rSt E c st) with | some s => some s | none => none) = _
    rw [hr, chk_ok (hv E hE)]
  · rw [trl_one, ht]
    show (match chk (kSt E d st) with | some s => some s | none => none) = _
    unfold kSt
    rw [if_pos hd, if_pos (by omega), chk_ok (hv E hE)]
theorem Ev_env {c : Int} (hc : c = 7 ∨ c = 8 ∨ c = 9 ∨ c = 10) : EvS [c] 1 := by
  rcases hc with e | e | e | e
  · subst e
    exact Ev_at (d := -1) (fun E st => rfl) rfl (by omega) (fun E hE => by show -1000000000 ≤ E.2.1 ∧ E.2.1 ≤ 1000000000; have := hE.1; omega)
  · subst e
    exact Ev_at (d := -2) (fun E st => rfl) rfl (by omega) (fun E hE => by show -1000000000 ≤ E.2.1 / 2 ∧ E.2.1 / 2 ≤ 1000000000; have := hE.1; omega)
  · subst e
    exact Ev_at (d := -3) (fun E st => rfl) rfl (by omega) (fun E hE => hE.2.1)
  · subst e
    exact Ev_at (d := -4) (fun E st => rfl) rfl (by omega) (fun E hE => hE.2.2)
theorem Ev_all : EvT [17] 1 := fun E hE => by
  refine ⟨1, by omega, fun st => rfl, fun st hs => ?_⟩
  show (match chk (kSt E 1 st) with | some s => some s | none => none) = _
  unfold kSt
  rw [if_pos (by omega), if_pos (by omega)]
  rfl
theorem Ev_shire {k : Int} (h : 0 ≤ k ∧ k ≤ 7) : EvT [100 + k] 1 := fun E hE => by
  refine ⟨if k = E.1 then 1 else 0, by split <;> omega, fun st => ?_, fun st hs => ?_⟩
  · show (match chk (rSt E (100 + k) st) with | some s => some s | none => none) = _
    unfold rSt
    rw [if_neg (by omega), if_pos (by omega), show 100 + k - 100 = k by omega, chk_ok (by split <;> omega)]
  · have t : trc (100 + k) = [k, -6] := by
      unfold trc
      rw [if_neg (by omega), if_pos (by omega), show 100 + k - 100 = k by omega]
    rw [trl_one, t]
    show (match chk (kSt E k st) with | some s => (match chk (kSt E (-6) s) with | some s => some s | none => none) | none => none) = _
    have e : kSt E k st = some (k :: st) := by
      unfold kSt kPv
      rw [if_pos (by omega), if_pos (by omega), if_pos h.1]
    rw [e, chk_ok ⟨by omega, by omega⟩]
    show (match chk (some ((if k = E.1 then (1 : Int) else 0) :: st)) with | some s => some s | none => none) = _
    rw [chk_ok (by split <;> omega)]
