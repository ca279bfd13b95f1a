set_option maxHeartbeats 4000000
set_option maxRecDepth 100000
/-! the acts as known: writ in force, fire, what is paid -/
abbrev AW : Type := Nat × (Nat → Int) × (Nat → Int) × (Nat → Int) × (Nat → Int) × (Nat → Int) × (Nat → List St) × (Nat → Int)
def AW.c (A : AW) : Nat := A.1
def AW.ki (A : AW) : Nat → Int := A.2.1
def AW.te (A : AW) : Nat → Int := A.2.2.1
def AW.sh (A : AW) : Nat → Int := A.2.2.2.1
def AW.am (A : AW) : Nat → Int := A.2.2.2.2.1
def AW.vb (A : AW) : Nat → Int := A.2.2.2.2.2.1
def AW.Wf (A : AW) : Nat → List St := A.2.2.2.2.2.2.1
def AW.gw (A : AW) : Nat → Int := A.2.2.2.2.2.2.2
def AW.ok (A : AW) : Prop := A.c ≤ 200 ∧ (∀ k, 1 ≤ k → k ≤ A.c → aOk A.c A.am A.ki A.sh A.te A.vb k) ∧ (∀ k, 1 ≤ k → k ≤ A.c → A.ki k = 1 → wsOk (A.Wf k)) ∧ ∀ i, i < 10 → 0 ≤ A.gw i ∧ A.gw i ≤ 3000000
/-- the reference's rows of the acts -/
def AWr (A : AW) (aK aN aS aT aV : Nat → Int) : Prop := ∀ k, 1 ≤ k → k ≤ A.c → aK k = A.ki k ∧ aN k = A.am k ∧ aV k = A.vb k ∧ (A.ki k ≠ 5 → aT k = A.te k) ∧ (A.ki k = 2 ∨ A.ki k = 3 → aS k = A.sh k)
abbrev knw (A : AW) (at_ wo : Int) (k : Nat) : Prop := (k : Int) ≤ at_ ∧ (A.vb k = 0 ∨ at_ < A.vb k) ∧ (k : Int) ≠ wo
def wA (A : AW) (at_ wo : Int) (x : Nat) : Nat → Nat
  | 0 => 0
  | n + 1 => if A.ki (n + 1) = 1 ∧ knw A at_ wo (n + 1) ∧ A.te (n + 1) ≤ x ∧ (wA A at_ wo x n = 0 ∨ A.te (wA A at_ wo x n) ≤ A.te (n + 1)) then n + 1 else wA A at_ wo x n
def fA (A : AW) (at_ wo : Int) (x : Nat) : Nat → Int
  | 0 => 0
  | n + 1 => if A.ki (n + 1) = 4 ∧ knw A at_ wo (n + 1) ∧ A.te (n + 1) = x then A.am (n + 1) else fA A at_ wo x n
def wrt (A : AW) (f bl : Int) (k : Nat) : Int := if A.ki k = 2 then (if bl = 0 then A.am k else A.am k - A.am k * f / 240) else A.gw (A.am k).toNat
abbrev isP (A : AW) (at_ wo mv mt s : Int) (x k : Nat) : Prop := (A.ki k = 2 ∨ A.ki k = 3) ∧ knw A at_ wo k ∧ A.sh k = s ∧ (if (k : Int) = mv then mt else A.te k) = x
def pA (A : AW) (at_ wo mv mt s : Int) (x : Nat) (f bl : Int) : Nat → Int
  | 0 => 0
  | n + 1 => pA A at_ wo mv mt s x f bl n + if isP A at_ wo mv mt s x (n + 1) then wrt A f bl (n + 1) else 0
def wtA (A : AW) (at_ wo : Int) (x : Nat) : List St := if wA A at_ wo x A.c = 0 then [] else A.Wf (wA A at_ wo x A.c)
def wld (A : AW) (at_ wo mv mt s : Int) : RW := (fun x => wtA A at_ wo x, fun x bl => pA A at_ wo mv mt s x (fA A at_ wo x A.c) bl A.c)
theorem wA_s (A : AW) (at_ wo : Int) (x : Nat) : ∀ n, wA A at_ wo x n ≤ n ∧ (wA A at_ wo x n ≠ 0 → A.ki (wA A at_ wo x n) = 1 ∧ knw A at_ wo (wA A at_ wo x n) ∧ A.te (wA A at_ wo x n) ≤ x)
  | 0 => ⟨Nat.le_refl 0, fun h => absurd rfl h⟩
  | n + 1 => by
    have ih := wA_s A at_ wo x n
    show (if _ then _ else _) ≤ n + 1 ∧ ((if _ then _ else _) ≠ 0 → _)
    by_cases c : A.ki (n + 1) = 1 ∧ knw A at_ wo (n + 1) ∧ A.te (n + 1) ≤ x ∧ (wA A at_ wo x n = 0 ∨ A.te (wA A at_ wo x n) ≤ A.te (n + 1))
    · have e : wA A at_ wo x (n + 1) = n + 1 := if_pos c
      rw [e, if_pos c]
      exact ⟨Nat.le_refl _, fun _ => ⟨c.1, c.2.1, c.2.2.1⟩⟩
    · have e : wA A at_ wo x (n + 1) = wA A at_ wo x n := if_neg c
      rw [e, if_neg c]
      exact ⟨by omega, ih.2⟩
theorem fA_b {A : AW} (hA : A.ok) (at_ wo : Int) (x : Nat) : ∀ n, n ≤ A.c → 0 ≤ fA A at_ wo x n ∧ fA A at_ wo x n ≤ 120
  | 0, _ => ⟨Int.le_refl 0, by show (0 : Int) ≤ 120; omega⟩
  | n + 1, h => by
    have ih := fA_b hA at_ wo x n (by omega)
    by_cases c : A.ki (n + 1) = 4 ∧ knw A at_ wo (n + 1) ∧ A.te (n + 1) = x
    · have e : fA A at_ wo x (n + 1) = A.am (n + 1) := if_pos c
      rw [e]
      exact (hA.2.1 (n + 1) (by omega) h).2.2.2.2.2.2.1 c.1
    · have e : fA A at_ wo x (n + 1) = fA A at_ wo x n := if_neg c
      rw [e]
      exact ih
theorem wrt_b {A : AW} (hA : A.ok) {f bl : Int} (hf : 0 ≤ f ∧ f ≤ 120) {k : Nat} (h1 : 1 ≤ k) (h2 : k ≤ A.c) (hk : A.ki k = 2 ∨ A.ki k = 3) : 0 ≤ wrt A f bl k ∧ wrt A f bl k ≤ 3000000 := by
  have o := hA.2.1 k h1 h2
  unfold wrt
  by_cases c : A.ki k = 2
  · rw [if_pos c]
    have b := o.2.2.2.2.1 c
    by_cases z : bl = 0
    · rw [if_pos z]
      omega
    · rw [if_neg z]
      have m0 : 0 ≤ A.am k * f := Int.mul_nonneg (by omega) hf.1
      have m1 : A.am k * f ≤ A.am k * 120 := Int.mul_le_mul_of_nonneg_left hf.2 (by omega)
      omega
  · rw [if_neg c]
    have b := o.2.2.2.2.2.1 (hk.resolve_left c)
    have g := hA.2.2.2 (A.am k).toNat (by omega)
    exact g
theorem pA_b {A : AW} (hA : A.ok) {at_ wo mv mt s f bl : Int} {x : Nat} (hf : 0 ≤ f ∧ f ≤ 120) : ∀ n, n ≤ A.c → 0 ≤ pA A at_ wo mv mt s x f bl n ∧ pA A at_ wo mv mt s x f bl n ≤ 3000000 * n
  | 0, _ => ⟨Int.le_refl 0, by show (0 : Int) ≤ 3000000 * ((0 : Nat) : Int); omega⟩
  | n + 1, h => by
    have ih := pA_b hA (at_ := at_) (wo := wo) (mv := mv) (mt := mt) (s := s) (bl := bl) (x := x) hf n (by omega)
    show 0 ≤ pA A at_ wo mv mt s x f bl n + (if _ then _ else _) ∧ pA A at_ wo mv mt s x f bl n + (if _ then _ else _) ≤ _
    by_cases c : isP A at_ wo mv mt s x (n + 1)
    · rw [if_pos c]
      have := wrt_b hA (bl := bl) hf (show 1 ≤ n + 1 by omega) h c.1
      omega
    · rw [if_neg c]
      omega
theorem wld_ok {A : AW} (hA : A.ok) (at_ wo mv mt s : Int) : (wld A at_ wo mv mt s).ok := by
  refine ⟨fun x => ?_, fun x b hb => ?_⟩
  · show wtOk (wtA A at_ wo x)
    unfold wtA
    have w := wA_s A at_ wo x A.c
    by_cases c : wA A at_ wo x A.c = 0
    · rw [if_pos c]
      exact ⟨Nat.zero_le _, fun z hz => by cases hz⟩
    · rw [if_neg c]
      have o := hA.2.2.1 (wA A at_ wo x A.c) (by omega) w.1 (w.2 c).1
      exact ⟨o.1, o.2.2⟩
  · show bB (pA A at_ wo mv mt s x (fA A at_ wo x A.c) b A.c) _
    have p := pA_b hA (at_ := at_) (wo := wo) (mv := mv) (mt := mt) (s := s) (bl := b) (x := x) (fA_b hA at_ wo x A.c (Nat.le_refl _)) A.c (Nat.le_refl _)
    have := hA.1
    exact ⟨by omega, by omega⟩
/-! the reference's functions -/
theorem w_isKnownM {A : AW} {aK aN aS aT aV : Nat → Int} (hA : A.ok) (hr : AWr A aK aN aS aT aV) (at_ wo : Int) {k : Nat} (h1 : 1 ≤ k) (h2 : k ≤ A.c) : iM_isKnown k at_ wo aV = some (if knw A at_ wo k then 1 else 0) := by
  have e := (hr k h1 h2).2.2.1
  have ek : (k : Int).toNat = k := rfl
  have := hA.1
  unfold iM_isKnown iM_isKnown_b30
  rw [ek, e]
  by_cases c1 : at_ < (k : Int)
  · rw [if_pos c1, if_neg (fun h => by have := h.1; omega)]
  · rw [if_neg c1, gd, if_pos (jb_iff.mpr (by omega))]
    by_cases c2 : A.vb k = 0
    · rw [if_pos c2]
      by_cases c3 : (k : Int) = wo
      · rw [if_pos c3, if_neg (fun h => h.2.2 c3)]
      · rw [if_neg c3, if_pos ⟨by omega, Or.inl c2, c3⟩]
    · rw [if_neg c2]
      by_cases c4 : A.vb k ≤ at_
      · rw [if_pos c4, if_neg (fun h => by rcases h.2.1 with g | g <;> omega)]
      · rw [if_neg c4]
        by_cases c3 : (k : Int) = wo
        · rw [if_pos c3, if_neg (fun h => h.2.2 c3)]
        · rw [if_neg c3, if_pos ⟨by omega, Or.inr (by omega), c3⟩]
theorem w_writOfM {N : Nat} (hN : 5000 ≤ N) {A : AW} {aK aN aS aT aV : Nat → Int} (hA : A.ok) (hr : AWr A aK aN aS aT aV) (at_ wo : Int) {x : Nat} (hx : x ≤ 60) : wp (iM_writOf N x A.c at_ wo aK aT aV) (fun r => r = (wA A at_ wo x A.c : Nat)) := by
  have hc := hA.1
  unfold iM_writOf iM_writOf_b4
  refine wp_zlp2 (fun (m : Nat) (x2 x3 : Int) => ∃ j : Nat, j + m = A.c ∧ x3 = (j : Int) + 1 ∧ x2 = (wA A at_ wo x j : Nat)) ?_ N A.c 0 1 (by omega) ⟨0, by omega, rfl, rfl⟩
  intro self m x2 x3 ⟨j, j1, j2, j3⟩ ih
  subst j2 j3
  unfold iM_writOf_b4_F
  rw [wp_ite]
  refine ⟨fun c => ?_, fun c => ?_⟩
  · have : j = A.c := by omega
    rw [wp_some, this]
  · have hj : j + 1 ≤ A.c := by omega
    have ej : ((j : Int) + 1).toNat = j + 1 := by omega
    obtain ⟨e1, e2, e3, e4, e5⟩ := hr (j + 1) (by omega) hj
    have ws := wA_s A at_ wo x j
    have go : ∀ z : Nat, z = wA A at_ wo x (j + 1) → wp (gd (jr ((j : Int) + 1 + 1)) (self (z : Int) ((j : Int) + 1 + 1))) (fun r => r = (wA A at_ wo x A.c : Nat)) := fun z hz => by
      rw [wp_gd]
      exact ⟨jr_iff.mpr (by omega), ih (m - 1) _ _ (by omega) ⟨j + 1, by omega, by omega, by rw [hz]⟩⟩
    have stay : ¬ (A.ki (j + 1) = 1 ∧ knw A at_ wo (j + 1) ∧ A.te (j + 1) ≤ x ∧ (wA A at_ wo x j = 0 ∨ A.te (wA A at_ wo x j) ≤ A.te (j + 1))) → wp (gd (jr ((j : Int) + 1 + 1)) (self (wA A at_ wo x j : Nat) ((j : Int) + 1 + 1))) (fun r => r = (wA A at_ wo x A.c : Nat)) := fun h => go _ (if_neg h).symm
    have take : (A.ki (j + 1) = 1 ∧ knw A at_ wo (j + 1) ∧ A.te (j + 1) ≤ x ∧ (wA A at_ wo x j = 0 ∨ A.te (wA A at_ wo x j) ≤ A.te (j + 1))) → wp (gd (jr ((j : Int) + 1 + 1)) (self ((j : Int) + 1) ((j : Int) + 1 + 1))) (fun r => r = (wA A at_ wo x A.c : Nat)) := fun h => go (j + 1) (if_pos h).symm
    rw [wp_gd, ej, e1]
    refine ⟨jb_iff.mpr (by omega), ?_⟩
    by_cases k1 : A.ki (j + 1) = 1
    · rw [if_pos k1, wp_bd1]
      show wp (iM_isKnown ((j + 1 : Nat) : Int) at_ wo aV) _
      rw [w_isKnownM hA hr at_ wo (by omega) hj, wp_some]
      by_cases k2 : knw A at_ wo (j + 1)
      · rw [if_pos k2, if_neg (by decide), e4 (by omega)]
        by_cases k3 : (x : Int) < A.te (j + 1)
        · rw [if_pos k3]
          exact stay (fun h => by have := h.2.2.1; omega)
        · rw [if_neg k3]
          by_cases k4 : wA A at_ wo x j = 0
          · rw [if_pos (by rw [k4]; rfl)]
            exact take ⟨k1, k2, by omega, Or.inl k4⟩
          · have w1 := ws.2 k4
            have ew : ((wA A at_ wo x j : Nat) : Int).toNat = wA A at_ wo x j := rfl
            obtain ⟨_, _, _, f4, _⟩ := hr (wA A at_ wo x j) (by omega) (by omega)
            rw [if_neg (by omega), wp_gd, ew, f4 (by omega)]
            refine ⟨jb_iff.mpr (by omega), ?_⟩
            by_cases k5 : A.te (j + 1) < A.te (wA A at_ wo x j)
            · rw [if_pos k5]
              exact stay (fun h => by rcases h.2.2.2 with g | g <;> omega)
            · rw [if_neg k5]
              exact take ⟨k1, k2, by omega, Or.inr (by omega)⟩
      · rw [if_neg k2, if_pos rfl]
        exact stay (fun h => k2 h.2.1)
    · rw [if_neg k1]
      exact stay (fun h => k1 h.1)
theorem w_fireOfM {N : Nat} (hN : 5000 ≤ N) {A : AW} {aK aN aS aT aV : Nat → Int} (hA : A.ok) (hr : AWr A aK aN aS aT aV) (at_ wo : Int) {x : Nat} (hx : x ≤ 60) : wp (iM_fireOf N x A.c at_ wo aK aN aT aV) (fun r => r = fA A at_ wo x A.c) := by
  have hc := hA.1
  unfold iM_fireOf iM_fireOf_b4
  refine wp_zlp2 (fun (m : Nat) (x2 x3 : Int) => ∃ j : Nat, j + m = A.c ∧ x3 = (j : Int) + 1 ∧ x2 = fA A at_ wo x j) ?_ N A.c 0 1 (by omega) ⟨0, by omega, rfl, rfl⟩
  intro self m x2 x3 ⟨j, j1, j2, j3⟩ ih
  subst j2 j3
  unfold iM_fireOf_b4_F
  rw [wp_ite]
  refine ⟨fun c => ?_, fun c => ?_⟩
  · have : j = A.c := by omega
    rw [wp_some, this]
  · have hj : j + 1 ≤ A.c := by omega
    have ej : ((j : Int) + 1).toNat = j + 1 := by omega
    obtain ⟨e1, e2, e3, e4, e5⟩ := hr (j + 1) (by omega) hj
    have go : ∀ z : Int, z = fA A at_ wo x (j + 1) → wp (gd (jr ((j : Int) + 1 + 1)) (self z ((j : Int) + 1 + 1))) (fun r => r = fA A at_ wo x A.c) := fun z hz => by
      rw [wp_gd]
      exact ⟨jr_iff.mpr (by omega), ih (m - 1) _ _ (by omega) ⟨j + 1, by omega, by omega, hz⟩⟩
    rw [wp_gd, ej, e1]
    refine ⟨jb_iff.mpr (by omega), ?_⟩
    by_cases k1 : A.ki (j + 1) = 4
    · rw [if_pos k1, wp_bd1]
      show wp (iM_isKnown ((j + 1 : Nat) : Int) at_ wo aV) _
      rw [w_isKnownM hA hr at_ wo (by omega) hj, wp_some]
      by_cases k2 : knw A at_ wo (j + 1)
      · rw [if_pos k2, if_neg (by decide), e4 (by omega)]
        by_cases k3 : A.te (j + 1) = x
        · rw [if_pos k3, e2]
          exact go _ (if_pos ⟨k1, k2, k3⟩).symm
        · rw [if_neg k3]
          exact go _ (if_neg (fun h => k3 h.2.2)).symm
      · rw [if_neg k2, if_pos rfl]
        exact go _ (if_neg (fun h => k2 h.2.1)).symm
    · rw [if_neg k1]
      exact go _ (if_neg (fun h => k1 h.1)).symm
/-- what the reference makes of tally i -/
def gwM (N : Nat) (A : AW) (cw cu ma pe : Nat → Int) : Prop := ∀ i, i < 10 → (ma i = -1 ∧ A.gw i = 0) ∨ (ma i ≠ -1 ∧ wp (iM_sumOf N i cw cu pe) (fun r => r = A.gw i))
theorem w_paysM {N : Nat} (hN : 5000 ≤ N) {A : AW} {aK aN aS aT aV cw cu ma pe : Nat → Int} (hA : A.ok) (hr : AWr A aK aN aS aT aV) (hg : gwM N A cw cu ma pe) (at_ wo mv mt s : Int) {x : Nat} (hx : x ≤ 60) {bl d p : Int} (hd : bB d 8000000000000) (hp : bB p 1000000000000) : wp (iM_takesPayments N A.c d bl at_ mv mt x p s wo aK aN aS aT cw cu ma pe aV) (fun r => r = (d - pA A at_ wo mv mt s x (fA A at_ wo x A.c) bl A.c, p + pA A at_ wo mv mt s x (fA A at_ wo x A.c) bl A.c)) := by
  have hc := hA.1
  obtain ⟨d1, d2⟩ := hd
  obtain ⟨p1, p2⟩ := hp
  have fb := fA_b hA at_ wo x A.c (Nat.le_refl _)
  generalize hF : fA A at_ wo x A.c = F at *
  unfold iM_takesPayments iM_takesPayments_b2
  refine wp_zlp3 (fun (m : Nat) (x1 dd pp : Int) => ∃ j : Nat, j + m = A.c ∧ x1 = (j : Int) + 1 ∧ dd = d - pA A at_ wo mv mt s x F bl j ∧ pp = p + pA A at_ wo mv mt s x F bl j) ?_ N A.c 1 d p (by omega) ⟨0, by omega, rfl, (Int.sub_zero d).symm, (Int.add_zero p).symm⟩
  intro self m x1 dd pp ⟨j, j1, j2, j3, j4⟩ ih
  subst j2 j3 j4
  unfold iM_takesPayments_b2_F
  rw [wp_ite]
  refine ⟨fun c => ?_, fun c => ?_⟩
  · have : j = A.c := by omega
    rw [wp_some, this]
  · have hj : j + 1 ≤ A.c := by omega
    have ej : ((j : Int) + 1).toNat = j + 1 := by omega
    obtain ⟨e1, e2, e3, e4, e5⟩ := hr (j + 1) (by omega) hj
    have pb := pA_b hA (at_ := at_) (wo := wo) (mv := mv) (mt := mt) (s := s) (bl := bl) (x := x) fb j (by omega)
    have skip : ¬ isP A at_ wo mv mt s x (j + 1) → wp (gd (jr ((j : Int) + 1 + 1)) (self ((j : Int) + 1 + 1) (d - pA A at_ wo mv mt s x F bl j) (p + pA A at_ wo mv mt s x F bl j))) (fun r => r = (d - pA A at_ wo mv mt s x F bl A.c, p + pA A at_ wo mv mt s x F bl A.c)) := fun h => by
      have e : pA A at_ wo mv mt s x F bl (j + 1) = pA A at_ wo mv mt s x F bl j := by
        show _ + (if _ then _ else _) = _
        rw [if_neg h, Int.add_zero]
      rw [wp_gd]
      exact ⟨jr_iff.mpr (by omega), ih (m - 1) _ _ _ (by omega) ⟨j + 1, by omega, by omega, by rw [e], by rw [e]⟩⟩
    have take : isP A at_ wo mv mt s x (j + 1) → ∀ z : Int, z = wrt A F bl (j + 1) → wp (iM_takesPayments_b153 N A.c bl at_ mv mt x s wo aK aN aS aT cw cu ma pe aV self ((j : Int) + 1) z (d - pA A at_ wo mv mt s x F bl j) (p + pA A at_ wo mv mt s x F bl j)) (fun r => r = (d - pA A at_ wo mv mt s x F bl A.c, p + pA A at_ wo mv mt s x F bl A.c)) := fun h z hz => by
      have e : pA A at_ wo mv mt s x F bl (j + 1) = pA A at_ wo mv mt s x F bl j + z := by
        show _ + (if _ then _ else _) = _
        rw [if_pos h, hz]
      have zb := wrt_b hA (bl := bl) fb (show 1 ≤ j + 1 by omega) hj h.1
      rw [← hz] at zb
      unfold iM_takesPayments_b153
      rw [wp_gd, wp_gd, wp_gd]
      exact ⟨jr_iff.mpr (by omega), jR_iff.mpr (by omega), jR_iff.mpr (by omega), ih (m - 1) _ _ _ (by omega) ⟨j + 1, by omega, by omega, by rw [e]; omega, by rw [e]; omega⟩⟩
    have ipay : iM_isPayment ((j : Int) + 1) aK = some (if A.ki (j + 1) = 2 ∨ A.ki (j + 1) = 3 then 1 else 0) := by
      unfold iM_isPayment
      rw [gd, if_pos (jb_iff.mpr (by omega)), ej, e1]
      by_cases k2 : A.ki (j + 1) = 2
      · rw [if_pos k2, if_pos (Or.inl k2)]
      · rw [if_neg k2]
        by_cases k3 : A.ki (j + 1) = 3
        · first
            | rw [if_pos k3, if_pos (Or.inr k3)]
            | (rw [gd, if_pos (jb_iff.mpr (by omega)), if_pos k3, if_pos (Or.inr k3)])
        · first
            | rw [if_neg k3, if_neg (fun h => h.elim k2 k3)]
            | (rw [gd, if_pos (jb_iff.mpr (by omega)), if_neg k3, if_neg (fun h => h.elim k2 k3)])
    rw [wp_bd1, ipay, wp_some]
    by_cases kk : A.ki (j + 1) = 2 ∨ A.ki (j + 1) = 3
    · rw [if_pos kk, if_neg (by decide), wp_bd1]
      show wp (iM_isKnown ((j + 1 : Nat) : Int) at_ wo aV) _
      rw [w_isKnownM hA hr at_ wo (by omega) hj, wp_some]
      by_cases k2 : knw A at_ wo (j + 1)
      · rw [if_pos k2, if_neg (by decide), wp_gd, ej, e5 kk]
        refine ⟨jb_iff.mpr (by omega), ?_⟩
        by_cases k3 : A.sh (j + 1) = s
        · rw [if_pos k3]
          have b60 : ∀ t : Int, t = (if ((j + 1 : Nat) : Int) = mv then mt else A.te (j + 1)) → wp (iM_takesPayments_b60 N A.c bl at_ mv mt x s wo aK aN aS aT cw cu ma pe aV self ((j : Int) + 1) t (d - pA A at_ wo mv mt s x F bl j) (p + pA A at_ wo mv mt s x F bl j)) (fun r => r = (d - pA A at_ wo mv mt s x F bl A.c, p + pA A at_ wo mv mt s x F bl A.c)) := fun t ht => by
            unfold iM_takesPayments_b60
            by_cases k4 : t = x
            · have yes : isP A at_ wo mv mt s x (j + 1) := ⟨kk, k2, k3, by rw [← ht]; exact k4⟩
              rw [if_pos k4, wp_gd, ej, e1, e2]
              refine ⟨jb_iff.mpr (by omega), ?_⟩
              have o := hA.2.1 (j + 1) (by omega) hj
              by_cases k5 : A.ki (j + 1) = 2
              · rw [if_pos k5]
                have ab := o.2.2.2.2.1 k5
                unfold iM_takesPayments_b121
                by_cases k6 : bl = 0
                · rw [if_pos k6, wp_gd, Int.sub_zero]
                  refine ⟨jR_iff.mpr (by omega), take yes _ ?_⟩
                  unfold wrt
                  rw [if_pos k5, if_pos k6]
                · rw [if_neg k6, wp_bd1]
                  refine wp_mono (w_fireOfM hN hA hr at_ wo hx) (fun r hr2 => ?_)
                  rw [hF] at hr2
                  subst hr2
                  have m0 : 0 ≤ A.am (j + 1) * r := Int.mul_nonneg (by omega) fb.1
                  have m1 : A.am (j + 1) * r ≤ A.am (j + 1) * 120 := Int.mul_le_mul_of_nonneg_left fb.2 (by omega)
                  rw [wp_gd, wp_gd, wp_gd, Int.tdiv_eq_ediv_of_nonneg m0]
                  refine ⟨jR_iff.mpr (by omega), jR_iff.mpr (by omega), jR_iff.mpr (by omega), take yes _ ?_⟩
                  unfold wrt
                  rw [if_pos k5, if_neg k6]
              · rw [if_neg k5, wp_gd]
                have k3' := kk.resolve_left k5
                have ab := o.2.2.2.2.2.1 k3'
                have ew : wrt A F bl (j + 1) = A.gw (A.am (j + 1)).toNat := if_neg k5
                refine ⟨jb_iff.mpr (by omega), ?_⟩
                rcases hg (A.am (j + 1)).toNat (by omega) with ⟨g1, g2⟩ | ⟨g1, g2⟩
                · rw [if_pos g1]
                  exact take yes 0 (by rw [ew, g2])
                · rw [if_neg g1, wp_bd1]
                  have e9 : (((A.am (j + 1)).toNat : Nat) : Int) = A.am (j + 1) := by omega
                  rw [e9] at g2
                  exact wp_mono g2 (fun r hr2 => take yes r (by rw [ew, hr2]))
            · rw [if_neg k4]
              exact skip (fun h => k4 (by rw [ht]; exact h.2.2.2))
          by_cases k7 : (j : Int) + 1 = mv
          · rw [if_pos k7]
            exact b60 mt (if_pos k7).symm
          · rw [if_neg k7]
            rw [e4 (by omega)]
            exact b60 _ (if_neg k7).symm
        · rw [if_neg k3]
          exact skip (fun h => k3 h.2.2.1)
      · rw [if_neg k2, if_pos rfl]
        exact skip (fun h => k2 h.2.1)
    · rw [if_neg kk, if_pos rfl]
      exact skip (fun h => kk h.1)
