set_option maxHeartbeats 4000000
set_option maxRecDepth 100000
/-- a mark c at q -/
def tM (T : Nat → Int) (n q : Nat) (c : Int) : Prop := q < n ∧ T q = c
/-- the word with number a at q -/
def tW (T : Nat → Int) (n a q : Nat) (e : Int) : Prop := q < n ∧ lL (T q) = true ∧ (q : Int) ≠ e ∧ tS T n q = q + kS_len a ∧ ∀ i, i < kS_len a → T (q + i) = jch a i
/-- no letter, no digit -/
def cMk (c : Int) : Prop := lL c = false ∧ lD c = false
theorem tK_mark {T : Nat → Int} {n q : Nat} {e c : Int} (h : tM T n q c) (hc : cMk c) : tK T n q e = 3 ∧ tS T n q = q + 1 := by
  have h1 : ¬ n ≤ q := by have := h.1; omega
  have h2 : ¬ lL c = true := by rw [hc.1]; decide
  have h3 : ¬ lD c = true := by rw [hc.2]; decide
  unfold tK tS
  rw [h.2]
  simp only [if_neg h1, if_neg h2, if_neg h3]
  exact ⟨trivial, trivial⟩
theorem tK_3 {T : Nat → Int} {n q : Nat} {e : Int} (h : tK T n q e = 3) : q < n := by
  unfold tK at h
  by_cases a : n ≤ q
  · rw [if_pos a] at h
    omega
  · omega
theorem tK_1 {T : Nat → Int} {n q : Nat} {e : Int} : tK T n q e = 1 ↔ q < n ∧ lL (T q) = true ∧ (q : Int) ≠ e := by
  unfold tK
  by_cases a : n ≤ q
  · rw [if_pos a]
    constructor <;> intro h <;> omega
  · rw [if_neg a]
    by_cases b : lL (T q) = true
    · rw [if_pos b]
      by_cases c : (q : Int) = e
      · rw [if_pos c]
        constructor
        · intro h
          omega
        · intro h
          exact absurd c h.2.2
      · rw [if_neg c]
        exact ⟨fun _ => ⟨by omega, b, c⟩, fun _ => rfl⟩
    · rw [if_neg b]
      constructor
      · intro h
        by_cases c : lD (T q) = true
        · rw [if_pos c] at h
          split at h <;> omega
        · rw [if_neg c] at h
          omega
      · intro h
        exact absurd h.2.1 b
theorem tK_2 {T : Nat → Int} {n q : Nat} {e : Int} : tK T n q e = 2 ↔ q < n ∧ lD (T q) = true ∧ (q : Int) ≠ e := by
  unfold tK
  by_cases a : n ≤ q
  · rw [if_pos a]
    constructor <;> intro h <;> omega
  · rw [if_neg a]
    by_cases b : lL (T q) = true
    · have nd : ¬ lD (T q) = true := fun w => by
        have := lL_iff.mp b
        have := lD_iff.mp w
        omega
      rw [if_pos b]
      constructor
      · intro h
        split at h <;> omega
      · intro h
        exact absurd h.2.1 nd
    · rw [if_neg b]
      by_cases c : lD (T q) = true
      · rw [if_pos c]
        by_cases d : (q : Int) = e
        · rw [if_pos d]
          constructor
          · intro h
            omega
          · intro h
            exact absurd d h.2.2
        · rw [if_neg d]
          exact ⟨fun _ => ⟨by omega, c, d⟩, fun _ => rfl⟩
      · rw [if_neg c]
        constructor
        · intro h
          omega
        · intro h
          exact absurd h.2.1 c
theorem w_takeMark {N : Nat} (hN : 5000 ≤ N) {T : Nat → Int} {n q : Nat} {e c : Int} {Q : R_iReader_takeMark → Prop} (hn : n ≤ 600) (he : e ≤ q) (hc : cMk c) (h1 : tM T n q c → Q (1, (tSk T n (q + 1) : Int), tK T n (tSk T n (q + 1)) e, (tS T n (tSk T n (q + 1)) : Int))) (h2 : ¬ tM T n q c → Q (0, (q : Int), tK T n q e, (tS T n q : Int))) : wp (iReader_takeMark N c q (tK T n q e) n (tS T n q) T) Q := by
  have eq : (q : Int).toNat = q := rfl
  unfold iReader_takeMark
  rw [wp_ite]
  refine ⟨fun a => ?_, fun a => ?_⟩
  · have lt := tK_3 a
    rw [wp_gd, wp_ite, eq]
    refine ⟨jb_iff.mpr (by omega), fun b => ?_, fun b => ?_⟩
    · have k := tK_mark (e := e) (⟨lt, b⟩ : tM T n q c) hc
      rw [k.2, wp_bd3, w_next hN hn (s := q + 1) (e := e) (by omega) (Or.inr ⟨k.1, by omega⟩), wp_some, wp_some]
      exact h1 ⟨lt, b⟩
    · rw [wp_some]
      exact h2 (fun w => b w.2)
  · rw [wp_some]
    exact h2 (fun w => a (tK_mark w hc).1)
theorem w_takeWord {N : Nat} (hN : 5000 ≤ N) {T : Nat → Int} {n q a : Nat} {e : Int} {Q : R_iReader_takeWord → Prop} (hn : n ≤ 600) (hq : q ≤ n) (ha : kS_len a ≤ 100) (h1 : tW T n a q e → Q (1, (tSk T n (tS T n q) : Int), tK T n (tSk T n (tS T n q)) (tS T n q), (tS T n (tSk T n (tS T n q)) : Int))) (h2 : ¬ tW T n a q e → Q (0, (q : Int), tK T n q e, (tS T n q : Int))) : wp (iReader_takeWord N a q (tK T n q e) n (tS T n q) T) Q := by
  have sl := tS_le (T := T) (n := n) hq
  unfold iReader_takeWord
  rw [wp_ite]
  refine ⟨fun k => ?_, fun k => ?_⟩
  · obtain ⟨k1, k2, k3⟩ := tK_1.mp k
    rw [wp_gd, wp_gd, wp_ite]
    refine ⟨jr_iff.mpr (by omega), jr_iff.mpr (by omega), fun hl => ?_, fun hl => ?_⟩
    · unfold iReader_takeWord_b28
      refine wp_zlp1 (fun (m : Nat) (x2 : Int) => ∃ i : Nat, x2 = i ∧ i + m = kS_len a ∧ ∀ j, j < i → T (q + j) = jch a j) ?_ N (kS_len a) 0 (by omega) ⟨0, rfl, by omega, fun j hj => by omega⟩
      intro self m x2 ⟨i, e1, e2, e3⟩ ih
      subst e1
      have ei : ((q : Int) + i).toNat = q + i := by omega
      have ei2 : (i : Int).toNat = i := rfl
      unfold iReader_takeWord_b28_F
      rw [wp_gd, wp_ite]
      refine ⟨jr_iff.mpr (by omega), fun c => ?_, fun c => ?_⟩
      · unfold iReader_takeWord_b63
        rw [wp_bd3, k, w_next hN hn (s := tS T n q) (e := (tS T n q : Int)) sl.2.1 (Or.inl ⟨Or.inl rfl, rfl⟩), wp_some, wp_some]
        exact h1 ⟨k1, k2, k3, by omega, fun j hj => e3 j (by omega)⟩
      · rw [wp_gd, wp_gd, wp_gd, wp_ite, ei, ei2]
        refine ⟨jr_iff.mpr (by omega), jb_iff.mpr (by omega), jb_iff.mpr (by omega), fun d => ?_, fun d => ?_⟩
        · rw [wp_gd]
          refine ⟨jr_iff.mpr (by omega), ih (m - 1) _ (by omega) ⟨i + 1, by omega, by omega, fun j hj => ?_⟩⟩
          by_cases g : j = i
          · rw [g]
            exact d
          · exact e3 j (by omega)
        · rw [wp_some]
          exact h2 (fun w => d (w.2.2.2.2 i (by omega)))
    · rw [wp_some]
      exact h2 (fun w => hl (by have := w.2.2.2.1; omega))
  · rw [wp_some]
    exact h2 (fun w => k (tK_1.mpr ⟨w.1, w.2.1, w.2.2.1⟩))
/-- the value of the digits -/
def dV (T : Nat → Int) (q : Nat) : Nat → Int
  | 0 => 0
  | i + 1 => dV T q i * 10 + T (q + i) - 48
theorem dV_b {T : Nat → Int} {q : Nat} : ∀ i, (∀ j, j < i → lD (T (q + j)) = true) → 0 ≤ dV T q i ∧ dV T q i < 10 ^ i
  | 0, _ => by
    show (0 : Int) ≤ 0 ∧ (0 : Int) < 1
    omega
  | i + 1, h => by
    have ih := dV_b i (fun j hj => h j (by omega))
    have d := lD_iff.mp (h i (by omega))
    show 0 ≤ dV T q i * 10 + T (q + i) - 48 ∧ dV T q i * 10 + T (q + i) - 48 < 10 ^ i * 10
    omega
/-- what a number asked for at q gives: (kind, place) of the fault, or its value -/
def tN (T : Nat → Int) (n q : Nat) (e least most : Int) : Option (Int × Int) :=
  if q < n ∧ lD (T q) = true ∧ (q : Int) ≠ e then if 5 < tS T n q - q then some (1, (q : Int) + 5) else if least ≤ dV T q (tS T n q - q) ∧ dV T q (tS T n q - q) ≤ most then none else some (2, (q : Int)) else some (1, (q : Int))
theorem tS_D {T : Nat → Int} {n q : Nat} (h : q < n) (d : lD (T q) = true) : tS T n q = lR lD T n q := by
  have nl : ¬ lL (T q) = true := fun w => by
    have := lL_iff.mp w
    have := lD_iff.mp d
    omega
  unfold tS
  rw [if_neg (by omega), if_neg nl, if_pos d]
theorem dV_5 {T : Nat → Int} {n q i : Nat} (h : q < n) (d : lD (T q) = true) (hi : i ≤ tS T n q - q) (h5 : i ≤ 5) : 0 ≤ dV T q i ∧ dV T q i ≤ 99999 := by
  have b := dV_b (T := T) (q := q) i (fun j hj => lR_all (f := lD) (T := T) (n := n) (q := q) (by omega) (by rw [← tS_D h d]; omega))
  have p : (10 : Int) ^ i ≤ 100000 := by
    have : ∀ i, i ≤ 5 → (10 : Int) ^ i ≤ 100000 := by decide
    exact this i h5
  omega
theorem w_readNumber {N : Nat} (hN : 5000 ≤ N) {T : Nat → Int} {n q : Nat} {e fa fp least most : Int} {Q : R_iReader_readNumber → Prop} (hT : ∀ k, 0 ≤ T k ∧ T k ≤ 255) (hn : n ≤ 600) (hq : q ≤ n) (h1 : tN T n q e least most = none → q < n → lD (T q) = true → 0 ≤ dV T q (tS T n q - q) → dV T q (tS T n q - q) ≤ 99999 → Q (dV T q (tS T n q - q), (tSk T n (tS T n q) : Int), fa, fp, tK T n (tSk T n (tS T n q)) (tS T n q), (tS T n (tSk T n (tS T n q)) : Int))) (h2 : ∀ k p, tN T n q e least most = some (k, p) → Q (-1, (q : Int), k, p, tK T n q e, (tS T n q : Int))) : wp (iReader_readNumber N least most q fa fp (tK T n q e) n (tS T n q) T) Q := by
  have sl := tS_le (T := T) (n := n) hq
  unfold iReader_readNumber iReader_fail
  rw [wp_ite]
  refine ⟨fun k => ?_, fun k => ?_⟩
  · obtain ⟨k1, k2, k3⟩ := tK_2.mp k
    have ht : tN T n q e least most = if 5 < tS T n q - q then some (1, (q : Int) + 5) else if least ≤ dV T q (tS T n q - q) ∧ dV T q (tS T n q - q) ≤ most then none else some (2, (q : Int)) := by
      unfold tN
      rw [if_pos ⟨k1, k2, k3⟩]
    rw [wp_gd, wp_ite]
    refine ⟨jr_iff.mpr (by omega), fun hl => ?_, fun hl => ?_⟩
    · rw [if_neg (by omega)] at ht
      unfold iReader_readNumber_b55
      refine wp_zlp2 (fun (m : Nat) (x3 x4 : Int) => ∃ i : Nat, x4 = ((q + i : Nat) : Int) ∧ i + m = tS T n q - q ∧ x3 = dV T q i) ?_ N (tS T n q - q) 0 q (by omega) ⟨0, rfl, by omega, rfl⟩
      intro self m x3 x4 ⟨i, e1, e2, e3⟩ ih
      subst e1
      have ei : ((q + i : Nat) : Int).toNat = q + i := rfl
      have b := dV_5 (i := i) k1 k2 (by omega) (by omega)
      unfold iReader_readNumber_b55_F
      rw [wp_ite]
      refine ⟨fun c => ?_, fun c => ?_⟩
      · have ieq : i = tS T n q - q := by omega
        subst ieq
        subst e3
        show wp (iReader_readNumber_b86 N least most n T _ q fa fp (tK T n q e) (tS T n q)) Q
        unfold iReader_readNumber_b86 iReader_readNumber_b96 iReader_fail
        rw [wp_ite]
        refine ⟨fun d => ?_, fun d => ?_⟩
        · rw [if_neg (by omega)] at ht
          rw [wp_bd3, wp_some, wp_some]
          exact h2 _ _ ht
        · rw [wp_ite]
          refine ⟨fun g => ?_, fun g => ?_⟩
          · rw [if_pos (by omega)] at ht
            rw [wp_bd3, k, w_next hN hn (s := tS T n q) (e := (tS T n q : Int)) sl.2.1 (Or.inl ⟨Or.inr rfl, rfl⟩), wp_some, wp_some]
            exact h1 ht k1 k2 b.1 b.2
          · rw [if_neg (by omega)] at ht
            rw [wp_bd3, wp_some, wp_some]
            exact h2 _ _ ht
      · have d := hT (q + i)
        rw [wp_gd, wp_gd, wp_gd, wp_gd, wp_gd, ei]
        exact ⟨jb_iff.mpr (by omega), jr_iff.mpr (by omega), jr_iff.mpr (by omega), jr_iff.mpr (by omega), jr_iff.mpr (by omega), ih (m - 1) _ _ (by omega) ⟨i + 1, by omega, by omega, by rw [e3]; rfl⟩⟩
    · rw [if_pos (by omega)] at ht
      rw [wp_gd, wp_bd3, wp_some, wp_some]
      exact ⟨jr_iff.mpr (by omega), h2 _ _ ht⟩
  · have ht : tN T n q e least most = some (1, (q : Int)) := by
      unfold tN
      rw [if_neg (fun w => k (tK_2.mpr w))]
    rw [wp_bd3, wp_some, wp_some]
    exact h2 _ _ ht
/-! the reference -/
theorem w_lookM {N : Nat} (hN : 5000 ≤ N) {T : Nat → Int} {n x : Nat} (hn : n ≤ 600) (hx : x ≤ n) : iM_look N x n T = some (if tSk T n x < n then T (tSk T n x) else -1, (tSk T n x : Int)) := by
  suffices H : wp (iM_look N x n T) (fun r => r = (if tSk T n x < n then T (tSk T n x) else -1, (tSk T n x : Int))) by
    obtain ⟨r, e1, e2⟩ := H
    rw [e1, e2]
  unfold iM_look iM_look_b0
  refine wp_zlp1 (fun (k : Nat) (st : Int) => ∃ q : Nat, st = q ∧ q ≤ n ∧ n - q = k ∧ lR lB T n q = lR lB T n x) ?_ N (n - x) x (by omega) ⟨x, rfl, hx, rfl, rfl⟩
  intro self k st ⟨q, e1, e2, e3, e4⟩ ih
  subst e1
  have eq : (q : Int).toNat = q := rfl
  unfold iM_look_b0_F
  have stop : ¬ (q < n ∧ lB (T q) = true) → wp (iM_look_b52 N n T q) (fun r => r = (if tSk T n x < n then T (tSk T n x) else -1, (tSk T n x : Int))) := fun hno => by
    have hq : tSk T n x = q := by
      show lR lB T n x = q
      rw [← e4, lR_end hno]
    rw [hq]
    unfold iM_look_b52
    rw [wp_ite]
    refine ⟨fun a => ?_, fun a => ?_⟩
    · rw [wp_some, if_neg (by omega)]
    · rw [wp_gd, wp_some, if_pos (by omega), eq]
      exact ⟨jb_iff.mpr (by omega), rfl⟩
  have go : q < n → lB (T q) = true → wp (iM_look_b39 N n T self (fun e3_ => iM_look_b52 N n T e3_) q) (fun r => r = (if tSk T n x < n then T (tSk T n x) else -1, (tSk T n x : Int))) := fun h1 h2 => by
    unfold iM_look_b39
    rw [wp_gd]
    exact ⟨jr_iff.mpr (by omega), ih (k - 1) _ (by omega) ⟨q + 1, by omega, by omega, by omega, by rw [← e4]; exact (lR_step h1 h2).symm⟩⟩
  rw [wp_ite]
  refine ⟨fun a => stop (by omega), fun a => ?_⟩
  rw [wp_gd, wp_ite, eq]
  refine ⟨jb_iff.mpr (by omega), fun b => go (by omega) (lB_iff.mpr (Or.inl b)), fun b => ?_⟩
  rw [wp_ite]
  exact ⟨fun c => go (by omega) (lB_iff.mpr (Or.inr c)), fun c => stop (fun w => by have := lB_iff.mp w.2; omega)⟩
theorem w_isLetter {c : Int} : iM_isLetter c = some (if lL c = true then 1 else 0) := by
  unfold iM_isLetter
  by_cases a : lL c = true
  · have := lL_iff.mp a
    rw [if_neg (by omega), if_neg (by omega), if_pos a]
  · rw [if_neg a]
    by_cases b : c < 97
    · rw [if_pos b]
    · rw [if_neg b, if_pos (by
        by_cases d : 122 < c
        · exact d
        · exact absurd (lL_iff.mpr (by omega)) a)]
theorem w_isDigit {c : Int} : iM_isDigit c = some (if lD c = true then 1 else 0) := by
  unfold iM_isDigit
  by_cases a : lD c = true
  · have := lD_iff.mp a
    rw [if_neg (by omega), if_neg (by omega), if_pos a]
  · rw [if_neg a]
    by_cases b : c < 48
    · rw [if_pos b]
    · rw [if_neg b, if_pos (by
        by_cases d : 57 < c
        · exact d
        · exact absurd (lD_iff.mpr (by omega)) a)]
/-- the reference's word with number a -/
def wd (a len : Nat) (w : Nat → Int) : Prop := len = kS_len a ∧ kS_len a ≤ 100 ∧ ∀ i, i < kS_len a → w i = jch a i
theorem w_isHere {N : Nat} (hN : 5000 ≤ N) {T w : Nat → Int} {n x a len : Nat} {e : Int} (hn : n ≤ 600) (hx : x ≤ n) (hw : wd a len w) : ∃ b : Int, (b = 0 ∨ b = 1) ∧ (b = 1 ↔ tW T n a (tSk T n x) e) ∧ iM_isHere N len w x 0 n e T = some (b, (tSk T n x : Int)) := by
  obtain ⟨rfl, hl, hw⟩ := hw
  have H : wp (iM_isHere N (kS_len a) w x 0 n e T) (fun r => (r.1 = 0 ∨ r.1 = 1) ∧ (r.1 = 1 ↔ tW T n a (tSk T n x) e) ∧ r.2 = (tSk T n x : Int)) := by
    have qn : tSk T n x ≤ n := lR_le hx
    unfold iM_isHere
    rw [if_pos rfl, wp_bd2, w_lookM hN hn hx, wp_some, wp_bd1, w_isLetter, wp_some]
    generalize tSk T n x = q at *
    have no : ¬ tW T n a q e → wp (some ((0 : Int), (q : Int))) (fun r => (r.1 = 0 ∨ r.1 = 1) ∧ (r.1 = 1 ↔ tW T n a q e) ∧ r.2 = (q : Int)) := fun h => by
      rw [wp_some]
      exact ⟨Or.inl rfl, ⟨fun w => absurd (show (0 : Int) = 1 from w) (by decide), fun w => absurd w h⟩, rfl⟩
    by_cases c : q < n ∧ lL (T q) = true
    · rw [if_pos c.1, if_pos c.2, if_neg (by decide), wp_ite]
      refine ⟨fun d => no (fun t => t.2.2.1 d), fun d => ?_⟩
      unfold iM_isHere_b35
      have sL : tS T n q = lR lL T n q := by
        unfold tS
        rw [if_neg (by omega), if_pos c.2]
      refine wp_zlp1 (fun (k : Nat) (st : Int) => ∃ p : Nat, st = p ∧ q ≤ p ∧ p ≤ n ∧ n - p = k ∧ lR lL T n p = lR lL T n q) ?_ N (n - q) q (by omega) ⟨q, rfl, Nat.le_refl q, qn, rfl, rfl⟩
      intro self k st ⟨p, f1, f2, f3, f4, f5⟩ ih
      subst f1
      have ep : (p : Int).toNat = p := rfl
      unfold iM_isHere_b35_F
      have fin : ¬ (p < n ∧ lL (T p) = true) → wp (iM_isHere_b61 N (kS_len a) w 0 n e T p q) (fun r => (r.1 = 0 ∨ r.1 = 1) ∧ (r.1 = 1 ↔ tW T n a q e) ∧ r.2 = (q : Int)) := fun hno => by
        have hp : tS T n q = p := by rw [sL, ← f5, lR_end hno]
        unfold iM_isHere_b61
        rw [wp_gd, wp_gd, wp_ite]
        refine ⟨jr_iff.mpr (by omega), jr_iff.mpr (by omega), fun g => ?_, fun g => no (fun t => g (by have := t.2.2.2.1; omega))⟩
        unfold iM_isHere_b76
        refine wp_zlp1 (fun (m : Nat) (x2 : Int) => ∃ i : Nat, x2 = i ∧ i + m = kS_len a ∧ ∀ j, j < i → T (q + j) = jch a j) ?_ N (kS_len a) 0 (by omega) ⟨0, rfl, by omega, fun j hj => by omega⟩
        intro self2 m x2 ⟨i, e1, e2, e3⟩ ih2
        subst e1
        have ei : ((q : Int) + i).toNat = q + i := by omega
        have ei2 : (i : Int).toNat = i := rfl
        unfold iM_isHere_b76_F
        rw [wp_gd, wp_ite]
        refine ⟨jr_iff.mpr (by omega), fun c2 => ?_, fun c2 => ?_⟩
        · rw [wp_some]
          exact ⟨Or.inr rfl, ⟨fun _ => ⟨c.1, c.2, d, by omega, fun j hj => e3 j (by omega)⟩, fun _ => rfl⟩, rfl⟩
        · rw [wp_gd, wp_gd, wp_gd, wp_ite, ei, ei2]
          refine ⟨jr_iff.mpr (by omega), jb_iff.mpr (by omega), jb_iff.mpr (by omega), fun d2 => ?_, fun d2 => no (fun t => d2 (by rw [hw i (by omega)]; exact t.2.2.2.2 i (by omega)))⟩
          rw [wp_gd]
          refine ⟨jr_iff.mpr (by omega), ih2 (m - 1) _ (by omega) ⟨i + 1, by omega, by omega, fun j hj => ?_⟩⟩
          by_cases g2 : j = i
          · rw [g2, d2]
            exact hw i (by omega)
          · exact e3 j (by omega)
      rw [wp_ite]
      refine ⟨fun b => fin (by omega), fun b => ?_⟩
      rw [wp_gd, wp_bd1, w_isLetter, wp_some, ep]
      refine ⟨jb_iff.mpr (by omega), ?_⟩
      by_cases g : lL (T p) = true
      · rw [if_pos g, if_neg (by decide), wp_gd]
        exact ⟨jr_iff.mpr (by omega), ih (k - 1) _ (by omega) ⟨p + 1, by omega, by omega, by omega, by omega, by rw [← f5]; exact (lR_step (by omega) g).symm⟩⟩
      · rw [if_neg g, if_pos rfl]
        exact fin (fun w => g w.2)
    · have : ¬ lL (if q < n then T q else -1) = true := fun w => by
        by_cases d : q < n
        · rw [if_pos d] at w
          exact c ⟨d, w⟩
        · rw [if_neg d] at w
          exact absurd w (by decide)
      rw [if_neg this, if_pos rfl]
      exact no (fun t => c ⟨t.1, t.2.1⟩)
  obtain ⟨r, e1, e2, e3, e4⟩ := H
  exact ⟨r.1, e2, e3, by rw [e1, ← e4]⟩
theorem w_takes {N : Nat} (hN : 5000 ≤ N) {T w : Nat → Int} {n x a len : Nat} {e : Int} {Q : R_iM_takes → Prop} (hn : n ≤ 600) (hx : x ≤ n) (hw : wd a len w) (h1 : tW T n a (tSk T n x) e → Q (1, (tS T n (tSk T n x) : Int), (tS T n (tSk T n x) : Int))) (h2 : ¬ tW T n a (tSk T n x) e → Q (0, (tSk T n x : Int), e)) : wp (iM_takes N len w x 0 n e T) Q := by
  obtain ⟨b, b1, b2, b3⟩ := w_isHere hN (e := e) hn hx hw
  have qn : tSk T n x ≤ n := lR_le hx
  have hl := hw.1
  have hl2 := hw.2.1
  unfold iM_takes
  rw [wp_bd2, b3, wp_some, wp_ite]
  refine ⟨fun c => ?_, fun c => ?_⟩
  · rw [wp_some]
    exact h2 (fun t => by have := b2.mpr t; omega)
  · have t := b2.mp (by omega)
    have l := t.2.2.2.1
    have g := h1 t
    rw [l] at g
    rw [wp_gd, wp_gd, wp_some]
    have ee : (tSk T n x : Int) + (len : Int) = ((tSk T n x + kS_len a : Nat) : Int) := by omega
    refine ⟨jr_iff.mpr (by omega), jr_iff.mpr (by omega), ?_⟩
    show Q (1, (tSk T n x : Int) + (len : Int), (tSk T n x : Int) + (len : Int))
    rw [ee]
    exact g
theorem w_takesSign {N : Nat} (hN : 5000 ≤ N) {T : Nat → Int} {n x : Nat} {c : Int} {Q : R_iM_takesSign → Prop} (hn : n ≤ 600) (hx : x ≤ n) (hc : c ≠ -1) (h1 : tM T n (tSk T n x) c → Q (1, ((tSk T n x + 1 : Nat) : Int))) (h2 : ¬ tM T n (tSk T n x) c → Q (0, (tSk T n x : Int))) : wp (iM_takesSign N c x 0 n T) Q := by
  have qn : tSk T n x ≤ n := lR_le hx
  unfold iM_takesSign
  rw [if_pos rfl, wp_bd2, w_lookM hN hn hx, wp_some, wp_ite]
  refine ⟨fun a => ?_, fun a => ?_⟩
  · rw [wp_gd, wp_some]
    have t : tM T n (tSk T n x) c := by
      by_cases d : tSk T n x < n
      · rw [if_pos d] at a
        exact ⟨d, a⟩
      · rw [if_neg d] at a
        exact absurd a.symm hc
    exact ⟨jr_iff.mpr (by omega), h1 t⟩
  · rw [wp_some]
    exact h2 (fun t => a (by rw [if_pos t.1]; exact t.2))
theorem w_number {N : Nat} (hN : 5000 ≤ N) {T : Nat → Int} {n x : Nat} {e bp least most : Int} {Q : R_iM_number → Prop} (hT : ∀ k, 0 ≤ T k ∧ T k ≤ 255) (hn : n ≤ 600) (hx : x ≤ n) (h1 : tN T n (tSk T n x) e least most = none → Q (dV T (tSk T n x) (tS T n (tSk T n x) - tSk T n x), (tS T n (tSk T n x) : Int), 0, bp, (tS T n (tSk T n x) : Int))) (h2 : ∀ k p, tN T n (tSk T n x) e least most = some (k, p) → ∀ v y z : Int, 0 ≤ v → v ≤ 99999 → Q (v, y, k, p, z)) : wp (iM_number N least most x 0 bp n e T) Q := by
  have qn : tSk T n x ≤ n := lR_le hx
  unfold iM_number iM_number_b30 iM_fail
  rw [if_pos rfl, wp_bd2, w_lookM hN hn hx, wp_some, wp_bd1, w_isDigit, wp_some]
  generalize tSk T n x = q at *
  have bad1 : tN T n q e least most = some (1, (q : Int)) → wp (bd2 (if (0 : Int) = 0 then some ((1 : Int), (q : Int)) else some (0, bp)) fun bad_c3 badPlace_c3 => some ((0 : Int), (q : Int), bad_c3, badPlace_c3, e)) Q := fun ht => by
    rw [if_pos rfl, wp_bd2, wp_some, wp_some]
    exact h2 _ _ ht _ _ _ (by omega) (by omega)
  by_cases c : q < n ∧ lD (T q) = true
  · rw [if_pos c.1, if_pos c.2, if_neg (by decide), wp_ite]
    refine ⟨fun d => bad1 (by unfold tN; rw [if_neg (fun w => w.2.2 d)]), fun d => ?_⟩
    have ht : tN T n q e least most = if 5 < tS T n q - q then some (1, (q : Int) + 5) else if least ≤ dV T q (tS T n q - q) ∧ dV T q (tS T n q - q) ≤ most then none else some (2, (q : Int)) := by
      unfold tN
      rw [if_pos ⟨c.1, c.2, d⟩]
    have sD := tS_D c.1 c.2
    have sl := tS_le (T := T) (n := n) qn
    unfold iM_number_b49
    refine wp_zlp2 (fun (m : Nat) (x4 st : Int) => ∃ i : Nat, st = ((q + i : Nat) : Int) ∧ i ≤ 5 ∧ i ≤ tS T n q - q ∧ n - (q + i) = m ∧ x4 = dV T q i) ?_ N (n - q) 0 q (by omega) ⟨0, rfl, by omega, by omega, rfl, rfl⟩
    intro self m x4 st ⟨i, e1, e5, e6, e2, e3⟩ ih
    subst e1
    have ei : ((q + i : Nat) : Int).toNat = q + i := rfl
    have b := dV_5 (i := i) c.1 c.2 e6 e5
    unfold iM_number_b49_F
    have fin : ¬ (q + i < n ∧ lD (T (q + i)) = true) → wp (iM_number_b129 N least most n T q x4 ((q + i : Nat) : Int) 0 bp e) Q := fun hno => by
      have hs : tS T n q = q + i := by
        by_cases g : q + i < tS T n q
        · rw [sD] at g
          have := lR_all (f := lD) (T := T) (n := n) (q := q) (j := q + i) (by omega) g
          have g2 : q + i < n := by
            have := lR_le (f := lD) (T := T) (n := n) qn
            omega
          exact absurd ⟨g2, this⟩ hno
        · omega
      have hsi : tS T n q - q = i := by omega
      rw [if_neg (by omega), hsi] at ht
      rw [hsi, hs] at h1
      unfold iM_number_b129 iM_fail
      rw [wp_bd1, w_isIn]
      refine ⟨fun y => ?_, fun y => ?_⟩
      · rw [if_pos (by omega)] at ht
        rw [if_neg (by decide), wp_some, e3]
        exact h1 ht
      · rw [if_neg (by omega)] at ht
        rw [if_pos rfl, if_pos rfl, wp_bd2, wp_some, wp_some]
        exact h2 _ _ ht _ _ _ (by omega) (by omega)
    rw [wp_ite]
    refine ⟨fun y => fin (by omega), fun y => ?_⟩
    rw [wp_gd, wp_bd1, w_isDigit, wp_some, ei]
    refine ⟨jb_iff.mpr (by omega), ?_⟩
    by_cases g : lD (T (q + i)) = true
    · have lt : q + i < tS T n q := by
        rw [sD]
        by_cases g2 : q + i < lR lD T n q
        · exact g2
        · have e7 : q + i = lR lD T n q := by
            rw [sD] at e6
            omega
          exact absurd ⟨by omega, by rw [← e7]; exact g⟩ (lR_no (f := lD) (T := T) (n := n) (q := q))
      rw [if_pos g, if_neg (by decide), wp_gd, wp_ite]
      refine ⟨jr_iff.mpr (by omega), fun z => ?_, fun z => ?_⟩
      · unfold iM_number_b85 iM_fail
        rw [if_pos (by omega)] at ht
        show wp (bd2 (if (0 : Int) = 0 then some ((1 : Int), ((q + i : Nat) : Int)) else some (0, bp)) fun v_bad_c8 v_badPlace_c8 => some ((0 : Int), ((q + i : Nat) : Int), v_bad_c8, v_badPlace_c8, e)) Q
        rw [if_pos rfl, wp_bd2, wp_some, wp_some]
        have e9 : ((q + i : Nat) : Int) = (q : Int) + 5 := by omega
        rw [e9]
        exact h2 _ _ ht _ _ _ (by omega) (by omega)
      · have d2 := hT (q + i)
        rw [wp_gd, wp_gd, wp_gd, wp_gd]
        refine ⟨jr_iff.mpr (by omega), jr_iff.mpr (by omega), jr_iff.mpr (by omega), jr_iff.mpr (by omega), ih (m - 1) _ _ (by omega) ⟨i + 1, by omega, by omega, by omega, by omega, ?_⟩⟩
        rw [e3]
        show 10 * dV T q i + T (q + i) - 48 = dV T q i * 10 + T (q + i) - 48
        omega
    · rw [if_neg g, if_pos rfl]
      exact fin (fun w => g w.2)
  · have : ¬ lD (if q < n then T q else -1) = true := fun w => by
      by_cases d : q < n
      · rw [if_pos d] at w
        exact c ⟨d, w⟩
      · rw [if_neg d] at w
        exact absurd w (by decide)
    rw [if_neg this, if_pos rfl]
    exact bad1 (by unfold tN; rw [if_neg (fun w => c ⟨w.1, w.2.1⟩)])
