set_option maxHeartbeats 4000000
set_option maxRecDepth 100000
/-! words, numbers, marks: both readers see the same -/
def lB (c : Int) : Bool := decide (c = 10 ∨ c = 32)
def lL (c : Int) : Bool := decide (97 ≤ c ∧ c ≤ 122)
def lD (c : Int) : Bool := decide (48 ≤ c ∧ c ≤ 57)
def lGo (f : Int → Bool) (T : Nat → Int) (n : Nat) : Nat → Nat → Nat
  | 0, q => q
  | m + 1, q => if q < n ∧ f (T q) = true then lGo f T n m (q + 1) else q
def lR (f : Int → Bool) (T : Nat → Int) (n q : Nat) : Nat := lGo f T n (n - q) q
theorem lR_step {f : Int → Bool} {T : Nat → Int} {n q : Nat} (h : q < n) (k : f (T q) = true) : lR f T n q = lR f T n (q + 1) := by
  unfold lR
  rw [show n - q = (n - (q + 1)) + 1 by omega]
  conv => lhs; unfold lGo
  rw [if_pos ⟨h, k⟩]
theorem lR_end {f : Int → Bool} {T : Nat → Int} {n q : Nat} (h : ¬ (q < n ∧ f (T q) = true)) : lR f T n q = q := by
  unfold lR
  cases n - q with
  | zero => rfl
  | succ m =>
    unfold lGo
    rw [if_neg h]
theorem lR_s {f : Int → Bool} {T : Nat → Int} {n : Nat} : ∀ (m q : Nat), n - q = m → q ≤ lR f T n q ∧ (q ≤ n → lR f T n q ≤ n) ∧ ¬ (lR f T n q < n ∧ f (T (lR f T n q)) = true) ∧ (∀ j, q ≤ j → j < lR f T n q → f (T j) = true)
  | 0, q, h => by
    rw [lR_end (by omega)]
    exact ⟨Nat.le_refl q, id, by omega, fun j a b => by omega⟩
  | m + 1, q, h => by
    by_cases k : f (T q) = true
    · obtain ⟨a, b, c, d⟩ := lR_s (f := f) (T := T) (n := n) m (q + 1) (by omega)
      rw [lR_step (by omega) k]
      refine ⟨by omega, fun _ => b (by omega), c, fun j e g => ?_⟩
      by_cases e2 : j = q
      · rw [e2]
        exact k
      · exact d j (by omega) g
    · rw [lR_end (fun w => k w.2)]
      exact ⟨Nat.le_refl q, id, fun w => k w.2, fun j a b => by omega⟩
theorem lR_ge {f : Int → Bool} {T : Nat → Int} {n q : Nat} : q ≤ lR f T n q := (lR_s (n - q) q rfl).1
theorem lR_le {f : Int → Bool} {T : Nat → Int} {n q : Nat} (h : q ≤ n) : lR f T n q ≤ n := (lR_s (n - q) q rfl).2.1 h
theorem lR_no {f : Int → Bool} {T : Nat → Int} {n q : Nat} : ¬ (lR f T n q < n ∧ f (T (lR f T n q)) = true) := (lR_s (n - q) q rfl).2.2.1
theorem lR_all {f : Int → Bool} {T : Nat → Int} {n q j : Nat} (a : q ≤ j) (b : j < lR f T n q) : f (T j) = true := (lR_s (n - q) q rfl).2.2.2 j a b
theorem lR_id {f : Int → Bool} {T : Nat → Int} {n q : Nat} : lR f T n (lR f T n q) = lR f T n q := lR_end lR_no
theorem lR_gt {f : Int → Bool} {T : Nat → Int} {n q : Nat} (h : q < n) (k : f (T q) = true) : q < lR f T n q := by
  rw [lR_step h k]
  exact Nat.lt_of_lt_of_le (Nat.lt_succ_self q) lR_ge
abbrev tSk (T : Nat → Int) (n q : Nat) : Nat := lR lB T n q
/-- where the word, number or mark at q ends -/
def tS (T : Nat → Int) (n q : Nat) : Nat := if n ≤ q then q else if lL (T q) = true then lR lL T n q else if lD (T q) = true then lR lD T n q else q + 1
/-- what stands at q -/
def tK (T : Nat → Int) (n q : Nat) (e : Int) : Int := if n ≤ q then 0 else if lL (T q) = true then (if (q : Int) = e then 4 else 1) else if lD (T q) = true then (if (q : Int) = e then 4 else 2) else 3
theorem tS_le {T : Nat → Int} {n q : Nat} (h : q ≤ n) : q ≤ tS T n q ∧ tS T n q ≤ n ∧ (q < n → q < tS T n q) := by
  unfold tS
  by_cases a : n ≤ q
  · rw [if_pos a]
    omega
  · rw [if_neg a]
    by_cases b : lL (T q) = true
    · rw [if_pos b]
      have x := lR_gt (f := lL) (T := T) (n := n) (q := q) (by omega) b
      have y := lR_le (f := lL) (T := T) (n := n) (q := q) h
      omega
    · rw [if_neg b]
      by_cases c : lD (T q) = true
      · rw [if_pos c]
        have x := lR_gt (f := lD) (T := T) (n := n) (q := q) (by omega) c
        have y := lR_le (f := lD) (T := T) (n := n) (q := q) h
        omega
      · rw [if_neg c]
        omega
theorem lB_iff {c : Int} : lB c = true ↔ c = 10 ∨ c = 32 := decide_eq_true_iff
theorem lL_iff {c : Int} : lL c = true ↔ 97 ≤ c ∧ c ≤ 122 := decide_eq_true_iff
theorem lD_iff {c : Int} : lD c = true ↔ 48 ≤ c ∧ c ≤ 57 := decide_eq_true_iff
theorem w_next {N : Nat} (hN : 5000 ≤ N) {T : Nat → Int} {n s : Nat} {at_ kind e : Int} (hn : n ≤ 600) (hs : s ≤ n) (hk : (kind = 1 ∨ kind = 2) ∧ e = s ∨ kind = 3 ∧ e < s) : iReader_next N at_ kind n s T = some ((tSk T n s : Int), tK T n (tSk T n s) e, (tS T n (tSk T n s) : Int)) := by
  suffices H : wp (iReader_next N at_ kind n s T) (fun r => r = ((tSk T n s : Int), tK T n (tSk T n s) e, (tS T n (tSk T n s) : Int))) by
    obtain ⟨r, e1, e2⟩ := H
    rw [e1, e2]
  have main : ∀ x2 : Int, (x2 = 1 ∧ e = s ∨ x2 = 0 ∧ e < s) → wp (iReader_next_b27 N n T s x2 at_ kind (fun e7_ => iReader_next_b79 N n T s x2 at_ kind e7_) N s) (fun r => r = ((tSk T n s : Int), tK T n (tSk T n s) e, (tS T n (tSk T n s) : Int))) := fun x2 hx => by
    unfold iReader_next_b27
    refine wp_zlp1 (fun (k : Nat) (st : Int) => ∃ q : Nat, st = q ∧ q ≤ n ∧ n - q = k ∧ lR lB T n q = lR lB T n s) ?_ N (n - s) s (by omega) ⟨s, rfl, hs, rfl, rfl⟩
    intro self k st ⟨q, e1, e2, e3, e4⟩ ih
    subst e1
    have eq : (q : Int).toNat = q := rfl
    unfold iReader_next_b27_F
    have stop : ¬ (q < n ∧ lB (T q) = true) → wp (iReader_next_b79 N n T s x2 at_ kind q) (fun r => r = ((tSk T n s : Int), tK T n (tSk T n s) e, (tS T n (tSk T n s) : Int))) := fun hno => by
      have hq : tSk T n s = q := by
        show lR lB T n s = q
        rw [← e4, lR_end hno]
      rw [hq]
      unfold iReader_next_b79
      rw [wp_ite]
      refine ⟨fun hlt => ?_, fun hge => ?_⟩
      · -- the end of a token
        have b229 : ∀ (s2 : Nat) (kd : Int), s2 ≤ n → ((s2 = q ∧ tS T n q = q + 1 ∧ tK T n q e = 3) ∨ (s2 ≠ q ∧ tS T n q = s2 ∧ tK T n q e = if (q : Int) = e then 4 else kd)) → wp (iReader_next_b229 N n T s x2 q kd s2) (fun r => r = ((q : Int), tK T n q e, (tS T n q : Int))) := fun s2 kd h1 h2 => by
          unfold iReader_next_b229
          rw [wp_ite]
          refine ⟨fun a => ?_, fun a => ?_⟩
          · rcases h2 with ⟨b1, b2, b3⟩ | ⟨b1, b2, b3⟩
            · rw [wp_gd, wp_some, b2, b3]
              exact ⟨jr_iff.mpr (by omega), by rw [b1]; rfl⟩
            · omega
          · rcases h2 with ⟨b1, b2, b3⟩ | ⟨b1, b2, b3⟩
            · omega
            · have hsq : s ≤ q := by
                rw [← hq]
                exact lR_ge
              rw [wp_ite, wp_some, b2, b3]
              refine ⟨fun c => ?_, fun c => ?_⟩
              · rw [if_neg (by omega)]
              · rw [wp_ite, wp_some, wp_some]
                exact ⟨fun d => by rw [if_pos (by omega)], fun d => by rw [if_neg (by omega)]⟩
        show wp (iReader_next_b104 N n T s x2 q kind _ N q) _
        unfold iReader_next_b104
        refine wp_zlp1 (fun (k : Nat) (st : Int) => ∃ p : Nat, st = p ∧ q ≤ p ∧ p ≤ n ∧ n - p = k ∧ lR lL T n p = lR lL T n q) ?_ N (n - q) q (by omega) ⟨q, rfl, Nat.le_refl q, by omega, rfl, rfl⟩
        intro self2 k2 st2 ⟨p, f1, f2, f3, f4, f5⟩ ih2
        subst f1
        have ep : (p : Int).toNat = p := rfl
        unfold iReader_next_b104_F
        have fin : ¬ (p < n ∧ lL (T p) = true) → wp (iReader_next_b156 N n T s x2 q kind p) (fun r => r = ((q : Int), tK T n q e, (tS T n q : Int))) := fun hno2 => by
          have hp : lR lL T n q = p := by rw [← f5, lR_end hno2]
          unfold iReader_next_b156
          rw [wp_ite]
          refine ⟨fun a => ?_, fun a => ?_⟩
          · have pq : p = q := by omega
            have nl : ¬ lL (T q) = true := fun w => hno2 (by rw [pq]; exact ⟨by omega, w⟩)
            unfold iReader_next_b172
            refine wp_zlp1 (fun (k : Nat) (st : Int) => ∃ p : Nat, st = p ∧ q ≤ p ∧ p ≤ n ∧ n - p = k ∧ lR lD T n p = lR lD T n q) ?_ N (n - q) p (by omega) ⟨q, by omega, Nat.le_refl q, by omega, rfl, rfl⟩
            intro self3 k3 st3 ⟨p3, g1, g2, g3, g4, g5⟩ ih3
            subst g1
            have ep3 : (p3 : Int).toNat = p3 := rfl
            unfold iReader_next_b172_F
            have fin3 : ¬ (p3 < n ∧ lD (T p3) = true) → wp (iReader_next_b224 N n T s x2 q 1 p3) (fun r => r = ((q : Int), tK T n q e, (tS T n q : Int))) := fun hno3 => by
              have hp3 : lR lD T n q = p3 := by rw [← g5, lR_end hno3]
              unfold iReader_next_b224
              refine b229 p3 2 g3 ?_
              by_cases b : p3 = q
              · have nd : ¬ lD (T q) = true := fun w => hno3 (by rw [b]; exact ⟨by omega, w⟩)
                refine Or.inl ⟨b, ?_, ?_⟩
                · unfold tS
                  rw [if_neg (by omega), if_neg nl, if_neg nd]
                · unfold tK
                  rw [if_neg (by omega), if_neg nl, if_neg nd]
              · have hd : lD (T q) = true := lR_all (f := lD) (T := T) (n := n) (Nat.le_refl q) (by omega)
                refine Or.inr ⟨b, ?_, ?_⟩
                · unfold tS
                  rw [if_neg (by omega), if_neg nl, if_pos hd, hp3]
                · unfold tK
                  rw [if_neg (by omega), if_neg nl, if_pos hd]
            rw [wp_ite]
            refine ⟨fun b => fin3 (by omega), fun b => ?_⟩
            rw [wp_gd, wp_ite, ep3]
            refine ⟨jb_iff.mpr (by omega), fun c => fin3 (fun w => by have := lD_iff.mp w.2; omega), fun c => ?_⟩
            rw [wp_ite]
            refine ⟨fun d => fin3 (fun w => by have := lD_iff.mp w.2; omega), fun d => ?_⟩
            rw [wp_gd]
            exact ⟨jr_iff.mpr (by omega), ih3 (k3 - 1) _ (by omega) ⟨p3 + 1, by omega, by omega, by omega, by omega, by rw [← g5]; exact (lR_step (by omega) (lD_iff.mpr (by omega))).symm⟩⟩
          · have hl : lL (T q) = true := lR_all (f := lL) (T := T) (n := n) (Nat.le_refl q) (by omega)
            refine b229 p 1 f3 (Or.inr ⟨by omega, ?_, ?_⟩)
            · unfold tS
              rw [if_neg (by omega), if_pos hl, hp]
            · unfold tK
              rw [if_neg (by omega), if_pos hl]
        rw [wp_ite]
        refine ⟨fun b => fin (by omega), fun b => ?_⟩
        rw [wp_gd, wp_ite, ep]
        refine ⟨jb_iff.mpr (by omega), fun c => fin (fun w => by have := lL_iff.mp w.2; omega), fun c => ?_⟩
        rw [wp_ite]
        refine ⟨fun d => fin (fun w => by have := lL_iff.mp w.2; omega), fun d => ?_⟩
        rw [wp_gd]
        exact ⟨jr_iff.mpr (by omega), ih2 (k2 - 1) _ (by omega) ⟨p + 1, by omega, by omega, by omega, by omega, by rw [← f5]; exact (lR_step (by omega) (lL_iff.mpr (by omega))).symm⟩⟩
      · rw [wp_some]
        unfold tK tS
        rw [if_pos (by omega), if_pos (by omega)]
    have go : q < n → lB (T q) = true → wp (iReader_next_b66 N n T self (fun e7_ => iReader_next_b79 N n T s x2 at_ kind e7_) s x2 at_ kind q) (fun r => r = ((tSk T n s : Int), tK T n (tSk T n s) e, (tS T n (tSk T n s) : Int))) := fun h1 h2 => by
      unfold iReader_next_b66
      rw [wp_gd]
      exact ⟨jr_iff.mpr (by omega), ih (k - 1) _ (by omega) ⟨q + 1, by omega, by omega, by omega, by rw [← e4]; exact (lR_step h1 h2).symm⟩⟩
    rw [wp_ite]
    refine ⟨fun a => stop (by omega), fun a => ?_⟩
    rw [wp_gd, wp_ite, eq]
    refine ⟨jb_iff.mpr (by omega), fun b => go (by omega) (lB_iff.mpr (Or.inr b)), fun b => ?_⟩
    rw [wp_ite]
    exact ⟨fun c => go (by omega) (lB_iff.mpr (Or.inl c)), fun c => stop (fun w => by have := lB_iff.mp w.2; omega)⟩
  unfold iReader_next
  rw [wp_ite]
  refine ⟨fun a => main 1 (by omega), fun a => ?_⟩
  rw [wp_ite]
  exact ⟨fun b => main 1 (by omega), fun b => main 0 (by omega)⟩
