set_option maxHeartbeats 4000000
set_option maxRecDepth 100000
/-! the acts -/
def pCn (ki : Nat → Int) : Nat → Int
  | 0 => 0
  | n + 1 => pCn ki n + (if ki (n + 1) = 2 ∨ ki (n + 1) = 3 then 1 else 0)
theorem pCn_b (ki : Nat → Int) : ∀ n, 0 ≤ pCn ki n ∧ pCn ki n ≤ n
  | 0 => ⟨Int.le_refl 0, Int.le_refl 0⟩
  | n + 1 => by
    have ih := pCn_b ki n
    show 0 ≤ pCn ki n + _ ∧ pCn ki n + _ ≤ _
    split <;> omega
theorem pCn_cg {ki k2 : Nat → Int} : ∀ n, (∀ j, 1 ≤ j → j ≤ n → ki j = k2 j) → pCn ki n = pCn k2 n
  | 0, _ => rfl
  | n + 1, h => by
    show pCn ki n + _ = pCn k2 n + _
    rw [pCn_cg n (fun j a b => h j a (by omega)), h (n + 1) (by omega) (by omega)]
/-- what an act is, in the class -/
def aOk (c : Nat) (am ki sh te vb : Nat → Int) (k : Nat) : Prop :=
  (1 ≤ ki k ∧ ki k ≤ 5) ∧ (0 ≤ te k ∧ te k ≤ 39) ∧ (ki k = 1 ∨ ki k = 4 → sh k = -1) ∧ (ki k = 2 ∨ ki k = 3 → 0 ≤ sh k ∧ sh k ≤ 7) ∧
  (ki k = 2 → 1 ≤ am k ∧ am k ≤ 1000000) ∧ (ki k = 3 → 0 ≤ am k ∧ am k ≤ 9) ∧ (ki k = 4 → 0 ≤ am k ∧ am k ≤ 120) ∧
  (ki k = 5 → ∃ j : Nat, am k = j ∧ 1 ≤ j ∧ j < k ∧ ki j ≠ 5 ∧ vb j = k ∧ sh k = sh j ∧ te k = te j ∧ vb k = 0) ∧
  (vb k = 0 ∨ ∃ j : Nat, vb k = j ∧ k < j ∧ j ≤ c ∧ ki k ≠ 5 ∧ ki j = 5 ∧ am j = k)
/-- the acts of both sides -/
def IA (c : Nat) (pay : Int) (am ki sh te vb aK aN aS aT aV : Nat → Int) : Prop :=
  c ≤ 200 ∧
  (∀ k, 1 ≤ k → k ≤ c → (aK k = ki k ∧ aN k = am k ∧ aV k = vb k ∧ (ki k ≠ 5 → aT k = te k) ∧ (ki k = 2 ∨ ki k = 3 → aS k = sh k)) ∧ aOk c am ki sh te vb k) ∧
  (∀ k, c < k → vb k = 0) ∧ pay = pCn ki c ∧ pay ≤ 60
theorem IA_add {c : Nat} {pay : Int} {am ki sh te vb aK aN aS aT aV : Nat → Int} (h : IA c pay am ki sh te vb aK aN aS aT aV) (hc : c < 200) {K s s2 t a : Int} (hK : 1 ≤ K ∧ K ≤ 4) (ht : 0 ≤ t ∧ t ≤ 39) (h14 : K = 1 ∨ K = 4 → s = -1) (h23 : K = 2 ∨ K = 3 → (0 ≤ s ∧ s ≤ 7) ∧ s2 = s) (h2 : K = 2 → 1 ≤ a ∧ a ≤ 1000000) (h3 : K = 3 → 0 ≤ a ∧ a ≤ 9) (h4 : K = 4 → 0 ≤ a ∧ a ≤ 120) (hp : K = 2 ∨ K = 3 → pay < 60) : IA (c + 1) (pay + (if K = 2 ∨ K = 3 then 1 else 0)) (va_up am (c + 1) a) (va_up ki (c + 1) K) (va_up sh (c + 1) s) (va_up te (c + 1) t) vb (va_up aK (c + 1) K) (va_up aN (c + 1) a) (va_up aS (c + 1) s2) (va_up aT (c + 1) t) (va_up aV (c + 1) 0) := by
  obtain ⟨g1, g2, g3, g4, g5⟩ := h
  refine ⟨by omega, fun k k1 k2 => ?_, fun k hk => g3 k (by omega), ?_, ?_⟩
  · by_cases e : k = c + 1
    · subst e
      simp only [aOk, va_up_self]
      have v0 := g3 (c + 1) (by omega)
      refine ⟨⟨trivial, trivial, v0.symm, fun _ => trivial, fun x => (h23 x).2⟩, ⟨by omega, by omega⟩, ht, h14, fun x => (h23 x).1, h2, h3, h4, fun x => by omega, Or.inl v0⟩
    · obtain ⟨⟨a1, a2, a3, a4, a5⟩, b1, b2, b3, b4, b5, b6, b7, b8, b9⟩ := g2 k k1 (by omega)
      simp only [aOk, va_up_ne _ _ e]
      refine ⟨⟨a1, a2, a3, a4, a5⟩, b1, b2, b3, b4, b5, b6, b7, fun x => ?_, ?_⟩
      · obtain ⟨j, j1, j2, j3, j4, j5, j6, j7, j8⟩ := b8 x
        refine ⟨j, j1, j2, j3, ?_, j5, ?_, ?_, j8⟩
        · rw [va_up_ne _ _ (by omega)]
          exact j4
        · rw [va_up_ne _ _ (by omega)]
          exact j6
        · rw [va_up_ne _ _ (by omega)]
          exact j7
      · rcases b9 with x | ⟨j, j1, j2, j3, j4, j5, j6⟩
        · exact Or.inl x
        · refine Or.inr ⟨j, j1, j2, by omega, j4, ?_, ?_⟩
          · rw [va_up_ne _ _ (by omega)]
            exact j5
          · rw [va_up_ne _ _ (by omega)]
            exact j6
  · show _ = pCn (va_up ki (c + 1) K) c + (if va_up ki (c + 1) K (c + 1) = 2 ∨ va_up ki (c + 1) K (c + 1) = 3 then 1 else 0)
    rw [va_up_self, pCn_cg (k2 := ki) c (fun j a b => va_up_ne _ _ (by omega)), g4]
  · by_cases x : K = 2 ∨ K = 3
    · have := hp x
      rw [if_pos x]
      omega
    · rw [if_neg x]
      omega
theorem IA_void {c k : Nat} {pay : Int} {am ki sh te vb aK aN aS aT aV : Nat → Int} (h : IA c pay am ki sh te vb aK aN aS aT aV) (hc : c < 200) (k1 : 1 ≤ k) (k2 : k ≤ c) (hk : ki k ≠ 5) (hv : vb k = 0) : IA (c + 1) pay (va_up am (c + 1) k) (va_up ki (c + 1) 5) (va_up sh (c + 1) (sh k)) (va_up te (c + 1) (te k)) (va_up vb k ((c + 1 : Nat) : Int)) (va_up aK (c + 1) 5) (va_up aN (c + 1) k) (va_up aS (c + 1) 0) (va_up aT (c + 1) 0) (va_up (va_up aV k ((c + 1 : Nat) : Int)) (c + 1) 0) := by
  obtain ⟨g1, g2, g3, g4, g5⟩ := h
  have hkk := g2 k k1 k2
  refine ⟨by omega, fun q q1 q2 => ?_, fun q hq => ?_, ?_, g5⟩
  · by_cases e : q = c + 1
    · subst e
      have v0 := g3 (c + 1) (by omega)
      have ne : ¬ c + 1 = k := by omega
      simp only [aOk, va_up_self, va_up_ne _ _ ne]
      refine ⟨⟨trivial, trivial, v0.symm, fun x => absurd rfl x, fun x => by omega⟩, ⟨by omega, by omega⟩, hkk.2.2.1, fun x => by omega, fun x => by omega, fun x => by omega, fun x => by omega, fun x => by omega, fun _ => ⟨k, rfl, k1, by omega, ?_, ?_, ?_, ?_, v0⟩, Or.inl v0⟩
      · rw [va_up_ne _ _ (by omega)]
        exact hk
      · rw [va_up_self]
      · rw [va_up_ne _ _ (by omega)]
      · rw [va_up_ne _ _ (by omega)]
    · obtain ⟨⟨a1, a2, a3, a4, a5⟩, b1, b2, b3, b4, b5, b6, b7, b8, b9⟩ := g2 q q1 (by omega)
      simp only [aOk, va_up_ne _ _ e]
      refine ⟨⟨a1, a2, ?_, a4, a5⟩, b1, b2, b3, b4, b5, b6, b7, fun x => ?_, ?_⟩
      · by_cases e2 : q = k
        · rw [e2, va_up_self, va_up_self]
        · rw [va_up_ne _ _ e2, va_up_ne _ _ e2]
          exact a3
      · obtain ⟨j, j1, j2, j3, j4, j5, j6, j7, j8⟩ := b8 x
        have jk : j ≠ k := fun e2 => by
          subst e2
          rw [hv] at j5
          omega
        refine ⟨j, j1, j2, j3, ?_, ?_, ?_, ?_, ?_⟩
        · rw [va_up_ne _ _ (by omega)]
          exact j4
        · rw [va_up_ne _ _ jk]
          exact j5
        · rw [va_up_ne _ _ (by omega)]
          exact j6
        · rw [va_up_ne _ _ (by omega)]
          exact j7
        · rw [va_up_ne _ _ (fun e2 => hk (by rw [← e2]; exact x))]
          exact j8
      · by_cases e2 : q = k
        · subst e2
          rw [va_up_self]
          refine Or.inr ⟨c + 1, rfl, by omega, by omega, hk, va_up_self _ _ _, va_up_self _ _ _⟩
        · rw [va_up_ne _ _ e2]
          rcases b9 with x | ⟨j, j1, j2, j3, j4, j5, j6⟩
          · exact Or.inl x
          · refine Or.inr ⟨j, j1, j2, by omega, j4, ?_, ?_⟩
            · rw [va_up_ne _ _ (by omega)]
              exact j5
            · rw [va_up_ne _ _ (by omega)]
              exact j6
  · rw [va_up_ne _ _ (by omega)]
    exact g3 q (by omega)
  · show _ = pCn (va_up ki (c + 1) 5) c + (if va_up ki (c + 1) 5 (c + 1) = 2 ∨ va_up ki (c + 1) 5 (c + 1) = 3 then 1 else 0)
    rw [va_up_self, pCn_cg (k2 := ki) c (fun j a b => va_up_ne _ _ (by omega)), if_neg (by omega), g4]
    omega
theorem w_isTerm {a : Int} {Q : Int → Prop} : wp (iK_isTerm a) Q ↔ ((0 ≤ a ∧ a < 40) → Q 1) ∧ (¬ (0 ≤ a ∧ a < 40) → Q 0) := by
  unfold iK_isTerm
  simp only [wp_ite, wp_some]
  constructor
  · intro h
    refine ⟨fun k => (h.2 (by omega)).2 (by omega), fun k => ?_⟩
    by_cases h1 : a < 0
    · exact h.1 h1
    · exact (h.2 h1).1 (by omega)
  · intro h
    exact ⟨fun k => h.2 (by omega), fun k => ⟨fun k2 => h.2 (by omega), fun k2 => h.1 (by omega)⟩⟩
theorem w_isShire {a : Int} {Q : Int → Prop} : wp (iK_isShire a) Q ↔ ((0 ≤ a ∧ a < 8) → Q 1) ∧ (¬ (0 ≤ a ∧ a < 8) → Q 0) := by
  unfold iK_isShire
  simp only [wp_ite, wp_some]
  constructor
  · intro h
    refine ⟨fun k => (h.2 (by omega)).2 (by omega), fun k => ?_⟩
    by_cases h1 : a < 0
    · exact h.1 h1
    · exact (h.2 h1).1 (by omega)
  · intro h
    exact ⟨fun k => h.2 (by omega), fun k => ⟨fun k2 => h.2 (by omega), fun k2 => h.1 (by omega)⟩⟩
theorem w_M_isTerm {a : Int} {Q : Int → Prop} : wp (iM_isTerm a) Q ↔ ((0 ≤ a ∧ a < 40) → Q 1) ∧ (¬ (0 ≤ a ∧ a < 40) → Q 0) := by
  unfold iM_isTerm
  rw [wp_bd1, w_isIn]
  simp only [wp_gd, wp_some, jB_iff]
  constructor
  · intro h
    exact ⟨fun k => (h.1 (by omega)).2, fun k => (h.2 (by omega)).2⟩
  · intro h
    exact ⟨fun k => ⟨Or.inr trivial, h.1 (by omega)⟩, fun k => ⟨Or.inl trivial, h.2 (by omega)⟩⟩
theorem w_M_isShire {a : Int} {Q : Int → Prop} : wp (iM_isShire a) Q ↔ ((0 ≤ a ∧ a < 8) → Q 1) ∧ (¬ (0 ≤ a ∧ a < 8) → Q 0) := by
  unfold iM_isShire
  rw [wp_bd1, w_isIn]
  simp only [wp_gd, wp_some, jB_iff]
  constructor
  · intro h
    exact ⟨fun k => (h.1 (by omega)).2, fun k => (h.2 (by omega)).2⟩
  · intro h
    exact ⟨fun k => ⟨Or.inr trivial, h.1 (by omega)⟩, fun k => ⟨Or.inl trivial, h.2 (by omega)⟩⟩
theorem bd1_e {A R : Type} {a : A} {f : A → Option R} : bd1 (some a) f = f a := rfl
theorem w_add_acts {c : Nat} {K s t a : Int} {am ki sh te : Nat → Int} (hc : c ≤ 200) : iActs_add K s t a c am ki sh te = some (if c < 200 then (((c + 1 : Nat) : Int), ((c + 1 : Nat) : Int), va_up am (c + 1) a, va_up ki (c + 1) K, va_up sh (c + 1) s, va_up te (c + 1) t) else (-1, (c : Int), am, ki, sh, te)) := by
  unfold iActs_add iActs_isFull
  by_cases h : c < 200
  · have e : ((c : Int) + 1).toNat = c + 1 := by omega
    have e2 : (c : Int) + 1 = ((c + 1 : Nat) : Int) := by omega
    rw [if_pos (show (c : Int) < 200 by omega), if_pos h, bd1_e, if_pos rfl, gd, if_pos (jr_iff.mpr (by omega)), gd, if_pos (jb_iff.mpr (by omega)), e, e2]
  · rw [if_neg (show ¬ (c : Int) < 200 by omega), if_neg h, bd1_e, if_neg (by decide)]
theorem w_act {c : Nat} {K s t a : Int} {aK aN aS aT aV : Nat → Int} (hc : c ≤ 200) : iM_act K s t a c aK aN aS aT aV = some (if c < 200 then (((c + 1 : Nat) : Int), ((c + 1 : Nat) : Int), va_up aK (c + 1) K, va_up aN (c + 1) a, va_up aS (c + 1) s, va_up aT (c + 1) t, va_up aV (c + 1) 0) else (-1, (c : Int), aK, aN, aS, aT, aV)) := by
  unfold iM_act
  by_cases h : c < 200
  · have e : ((c : Int) + 1).toNat = c + 1 := by omega
    have e2 : (c : Int) + 1 = ((c + 1 : Nat) : Int) := by omega
    rw [if_neg (by omega), if_pos h, gd, if_pos (jr_iff.mpr (by omega)), gd, if_pos (jb_iff.mpr (by omega)), e, e2]
  · rw [if_pos (by omega), if_neg h]
theorem w_mayPay {N : Nat} (hN : 5000 ≤ N) {c : Nat} {s t : Int} {ki aK : Nat → Int} (hc : c ≤ 200) (h : ∀ k, 1 ≤ k → k ≤ c → aK k = ki k) : wp (iM_mayPay N s t c aK) (fun r => r = if (0 ≤ s ∧ s < 8) ∧ (0 ≤ t ∧ t < 40) ∧ pCn ki c < 60 then 1 else 0) := by
  unfold iM_mayPay iM_mayPay_b5
  refine wp_zlp2 (fun (k : Nat) (x3 x4 : Int) => ∃ q : Nat, q + k = c ∧ x4 = ((q + 1 : Nat) : Int) ∧ x3 = pCn ki q) ?_ N c 0 1 (by omega) ⟨0, by omega, rfl, rfl⟩
  intro self k x3 x4 ⟨q, e1, e2, e3⟩ ih
  subst e2
  have b := pCn_b ki q
  unfold iM_mayPay_b5_F
  cases k with
  | zero =>
    have qc : q = c := by omega
    subst qc
    rw [if_pos (by omega)]
    show wp (iM_mayPay_b32 N s t q aK x3) _
    unfold iM_mayPay_b32
    rw [wp_bd1, w_M_isShire]
    refine ⟨fun x => ?_, fun x => ?_⟩
    · rw [if_neg (by decide), wp_bd1, w_M_isTerm]
      refine ⟨fun y => ?_, fun y => ?_⟩
      · rw [if_neg (by decide), wp_ite, wp_some, wp_some]
        exact ⟨fun z => by rw [if_neg (by omega)], fun z => by rw [if_pos ⟨x, y, by omega⟩]⟩
      · rw [if_pos rfl, wp_some, if_neg (fun w => y w.2.1)]
    · rw [if_pos rfl, wp_some, if_neg (fun w => x w.1)]
  | succ k =>
    have eq : ((q + 1 : Nat) : Int).toNat = q + 1 := rfl
    have hk := h (q + 1) (by omega) (by omega)
    have c1 : pCn ki (q + 1) = pCn ki q + (if ki (q + 1) = 2 ∨ ki (q + 1) = 3 then 1 else 0) := rfl
    have yes : ki (q + 1) = 2 ∨ ki (q + 1) = 3 → wp (if (1 : Int) = 0 then gd (jr (((q + 1 : Nat) : Int) + 1)) <| self x3 (((q + 1 : Nat) : Int) + 1) else gd (jr (x3 + 1)) <| gd (jr (((q + 1 : Nat) : Int) + 1)) <| self (x3 + 1) (((q + 1 : Nat) : Int) + 1)) (fun r => r = if (0 ≤ s ∧ s < 8) ∧ (0 ≤ t ∧ t < 40) ∧ pCn ki c < 60 then 1 else 0) := fun x => by
      rw [if_pos x] at c1
      rw [if_neg (by decide), wp_gd, wp_gd]
      exact ⟨jr_iff.mpr (by omega), jr_iff.mpr (by omega), ih k _ _ (Nat.lt_succ_self k) ⟨q + 1, by omega, by omega, by omega⟩⟩
    rw [if_neg (by omega), wp_bd1]
    unfold iM_isPayment
    rw [wp_gd, wp_ite, eq, hk]
    refine ⟨jb_iff.mpr (by omega), fun x => ?_, fun x => ?_⟩
    · rw [wp_some]
      exact yes (Or.inl x)
    · rw [wp_ite]
      refine ⟨fun y => ?_, fun y => ?_⟩
      · rw [wp_some]
        exact yes (Or.inr y)
      · rw [if_neg (by omega)] at c1
        rw [wp_some, if_pos rfl, wp_gd]
        exact ⟨jr_iff.mpr (by omega), ih k _ _ (Nat.lt_succ_self k) ⟨q + 1, by omega, by omega, by omega⟩⟩
/-- what an adding call leaves -/
def aRes (c : Nat) (pay : Int) (am ki sh te vb aK aN aS aT aV : Nat → Int) (r1 r2 : Int) (c2 c3 pay2 : Int) (am2 ki2 sh2 te2 vb2 aK2 aN2 aS2 aT2 aV2 : Nat → Int) : Prop := r1 = r2 ∧ c3 = c2 ∧ ((r1 = -1 ∧ c2 = c ∧ pay2 = pay ∧ am2 = am ∧ ki2 = ki ∧ sh2 = sh ∧ te2 = te ∧ vb2 = vb ∧ aK2 = aK ∧ aN2 = aN ∧ aS2 = aS ∧ aT2 = aT ∧ aV2 = aV) ∨ (c2 = ((c + 1 : Nat) : Int) ∧ IA (c + 1) pay2 am2 ki2 sh2 te2 vb2 aK2 aN2 aS2 aT2 aV2 ∧ (∀ k, k ≠ c + 1 → am2 k = am k ∧ ki2 k = ki k ∧ sh2 k = sh k ∧ te2 k = te k) ∧ (∀ k, vb2 k = vb k ∨ vb2 k = ((c + 1 : Nat) : Int)) ∧ ki2 (c + 1) ≠ 1))
theorem ag_pays {N : Nat} (hN : 5000 ≤ N) {c : Nat} {pay s t a : Int} {am ki sh te vb aK aN aS aT aV : Nat → Int} (h : IA c pay am ki sh te vb aK aN aS aT aV) : wp (iK_pays s t a c pay am ki sh te) (fun r => wp (iM_pays N s t a c aK aN aS aT aV) (fun q => aRes c pay am ki sh te vb aK aN aS aT aV r.1 q.1 r.2.1 q.2.1 r.2.2.1 r.2.2.2.1 r.2.2.2.2.1 r.2.2.2.2.2.1 r.2.2.2.2.2.2 vb q.2.2.1 q.2.2.2.1 q.2.2.2.2.1 q.2.2.2.2.2.1 q.2.2.2.2.2.2)) := by
  have hh := h
  obtain ⟨g1, g2, g3, g4, g5⟩ := h
  have hm : ∀ Q : R_iM_pays → Prop, ((0 ≤ s ∧ s < 8) ∧ (0 ≤ t ∧ t < 40) ∧ pay < 60 ∧ (1 ≤ a ∧ a ≤ 1000000) ∧ c < 200 → Q (((c + 1 : Nat) : Int), ((c + 1 : Nat) : Int), va_up aK (c + 1) 2, va_up aN (c + 1) a, va_up aS (c + 1) s, va_up aT (c + 1) t, va_up aV (c + 1) 0)) → (¬ ((0 ≤ s ∧ s < 8) ∧ (0 ≤ t ∧ t < 40) ∧ pay < 60 ∧ (1 ≤ a ∧ a ≤ 1000000) ∧ c < 200) → Q (-1, (c : Int), aK, aN, aS, aT, aV)) → wp (iM_pays N s t a c aK aN aS aT aV) Q := fun Q q1 q2 => by
    unfold iM_pays
    rw [wp_bd1]
    refine wp_mono (w_mayPay hN g1 (fun k a b => (g2 k a b).1.1)) (fun r hr => ?_)
    rw [← g4] at hr
    by_cases x : (0 ≤ s ∧ s < 8) ∧ (0 ≤ t ∧ t < 40) ∧ pay < 60
    · rw [if_pos x] at hr
      rw [if_neg (by omega), wp_bd1, w_isIn]
      refine ⟨fun y => ?_, fun y => ?_⟩
      · rw [if_neg (by decide), wp_bd7, w_act g1, wp_some, wp_some]
        by_cases z : c < 200
        · rw [if_pos z]
          exact q1 ⟨x.1, x.2.1, x.2.2, y, z⟩
        · rw [if_neg z]
          exact q2 (fun w => z w.2.2.2.2)
      · rw [if_pos rfl, wp_some]
        exact q2 (fun w => y w.2.2.2.1)
    · rw [if_neg x] at hr
      rw [if_pos hr, wp_some]
      exact q2 (fun w => x ⟨w.1, w.2.1, w.2.2.1⟩)
  have no : ¬ ((0 ≤ s ∧ s < 8) ∧ (0 ≤ t ∧ t < 40) ∧ pay < 60 ∧ (1 ≤ a ∧ a ≤ 1000000) ∧ c < 200) → wp (some ((-1 : Int), (c : Int), pay, am, ki, sh, te)) (fun r => wp (iM_pays N s t a c aK aN aS aT aV) (fun q => aRes c pay am ki sh te vb aK aN aS aT aV r.1 q.1 r.2.1 q.2.1 r.2.2.1 r.2.2.2.1 r.2.2.2.2.1 r.2.2.2.2.2.1 r.2.2.2.2.2.2 vb q.2.2.1 q.2.2.2.1 q.2.2.2.2.1 q.2.2.2.2.2.1 q.2.2.2.2.2.2)) := fun hn => by
    rw [wp_some]
    exact hm _ (fun w => absurd w hn) (fun _ => ⟨rfl, rfl, Or.inl ⟨rfl, rfl, rfl, rfl, rfl, rfl, rfl, rfl, rfl, rfl, rfl, rfl, rfl⟩⟩)
  have b0 : ∀ s0 : Int, s0 = 0 → ¬ ((0 ≤ s ∧ s < 8) ∧ (0 ≤ t ∧ t < 40) ∧ pay < 60 ∧ (1 ≤ a ∧ a ≤ 1000000) ∧ c < 200) → wp (iK_pays_b30 s t a s0 c pay am ki sh te) (fun r => wp (iM_pays N s t a c aK aN aS aT aV) (fun q => aRes c pay am ki sh te vb aK aN aS aT aV r.1 q.1 r.2.1 q.2.1 r.2.2.1 r.2.2.2.1 r.2.2.2.2.1 r.2.2.2.2.2.1 r.2.2.2.2.2.2 vb q.2.2.1 q.2.2.2.1 q.2.2.2.2.1 q.2.2.2.2.2.1 q.2.2.2.2.2.2)) := fun s0 hs hn => by
    unfold iK_pays_b30
    rw [if_pos hs]
    exact no hn
  unfold iK_pays
  rw [wp_bd1, w_isShire]
  refine ⟨fun x => ?_, fun x => ?_⟩
  · rw [if_neg (by decide), wp_bd1, w_isTerm]
    refine ⟨fun y => ?_, fun y => ?_⟩
    · rw [if_neg (by decide), wp_ite]
      refine ⟨fun z => b0 0 rfl (by omega), fun z => ?_⟩
      rw [wp_ite]
      refine ⟨fun z2 => b0 0 rfl (by omega), fun z2 => ?_⟩
      unfold iK_pays_b30
      rw [if_neg (by decide), wp_bd7]
      unfold iActs_addPayment
      rw [wp_ite]
      refine ⟨fun w => ?_, fun w => ?_⟩
      · rw [wp_some]
        exact no (by omega)
      · unfold iActs_isFull
        rw [wp_bd1, wp_ite]
        refine ⟨fun v => ?_, fun v => ?_⟩
        · have v2 : c < 200 := by omega
          have pb := pCn_b ki c
          rw [wp_some, if_pos rfl, wp_bd6, w_add_acts g1, wp_some, wp_gd, wp_some, wp_some, if_pos v2]
          refine ⟨jr_iff.mpr (by omega), hm _ (fun _ => ⟨rfl, rfl, Or.inr ⟨rfl, ?_, fun k hk => ⟨va_up_ne _ _ hk, va_up_ne _ _ hk, va_up_ne _ _ hk, va_up_ne _ _ hk⟩, fun k => Or.inl rfl, ?_⟩⟩) (fun n => by omega)⟩
          · have ad := IA_add hh v2 (K := 2) (s := s) (s2 := s) (t := t) (a := a) (by omega) (by omega) (fun q => by omega) (fun _ => ⟨by omega, rfl⟩) (fun _ => by omega) (fun q => by omega) (fun q => by omega) (fun _ => by omega)
            rw [if_pos (Or.inl rfl)] at ad
            exact ad
          · show va_up ki (c + 1) 2 (c + 1) ≠ 1
            rw [va_up_self]
            decide
        · rw [wp_some, if_neg (by decide), wp_some]
          exact no (by omega)
    · rw [if_pos rfl]
      exact b0 0 rfl (fun w => y w.2.1)
  · rw [if_pos rfl]
    exact b0 0 rfl (fun w => x w.1)
theorem ag_tally {N : Nat} (hN : 5000 ≤ N) {c : Nat} {pay s t a : Int} {am ki sh te vb aK aN aS aT aV : Nat → Int} (h : IA c pay am ki sh te vb aK aN aS aT aV) : wp (iK_tally s t a c pay am ki sh te) (fun r => wp (iM_tally N s t a c aK aN aS aT aV) (fun q => aRes c pay am ki sh te vb aK aN aS aT aV r.1 q.1 r.2.1 q.2.1 r.2.2.1 r.2.2.2.1 r.2.2.2.2.1 r.2.2.2.2.2.1 r.2.2.2.2.2.2 vb q.2.2.1 q.2.2.2.1 q.2.2.2.2.1 q.2.2.2.2.2.1 q.2.2.2.2.2.2)) := by
  have hh := h
  obtain ⟨g1, g2, g3, g4, g5⟩ := h
  have hm : ∀ Q : R_iM_tally → Prop, ((0 ≤ s ∧ s < 8) ∧ (0 ≤ t ∧ t < 40) ∧ pay < 60 ∧ (0 ≤ a ∧ a ≤ 9) ∧ c < 200 → Q (((c + 1 : Nat) : Int), ((c + 1 : Nat) : Int), va_up aK (c + 1) 3, va_up aN (c + 1) a, va_up aS (c + 1) s, va_up aT (c + 1) t, va_up aV (c + 1) 0)) → (¬ ((0 ≤ s ∧ s < 8) ∧ (0 ≤ t ∧ t < 40) ∧ pay < 60 ∧ (0 ≤ a ∧ a ≤ 9) ∧ c < 200) → Q (-1, (c : Int), aK, aN, aS, aT, aV)) → wp (iM_tally N s t a c aK aN aS aT aV) Q := fun Q q1 q2 => by
    unfold iM_tally
    rw [wp_bd1]
    refine wp_mono (w_mayPay hN g1 (fun k a b => (g2 k a b).1.1)) (fun r hr => ?_)
    rw [← g4] at hr
    by_cases x : (0 ≤ s ∧ s < 8) ∧ (0 ≤ t ∧ t < 40) ∧ pay < 60
    · rw [if_pos x] at hr
      rw [if_neg (by omega), wp_bd1, w_isIn]
      refine ⟨fun y => ?_, fun y => ?_⟩
      · rw [if_neg (by decide), wp_bd7, w_act g1, wp_some, wp_some]
        by_cases z : c < 200
        · rw [if_pos z]
          exact q1 ⟨x.1, x.2.1, x.2.2, y, z⟩
        · rw [if_neg z]
          exact q2 (fun w => z w.2.2.2.2)
      · rw [if_pos rfl, wp_some]
        exact q2 (fun w => y w.2.2.2.1)
    · rw [if_neg x] at hr
      rw [if_pos hr, wp_some]
      exact q2 (fun w => x ⟨w.1, w.2.1, w.2.2.1⟩)
  have no : ¬ ((0 ≤ s ∧ s < 8) ∧ (0 ≤ t ∧ t < 40) ∧ pay < 60 ∧ (0 ≤ a ∧ a ≤ 9) ∧ c < 200) → wp (some ((-1 : Int), (c : Int), pay, am, ki, sh, te)) (fun r => wp (iM_tally N s t a c aK aN aS aT aV) (fun q => aRes c pay am ki sh te vb aK aN aS aT aV r.1 q.1 r.2.1 q.2.1 r.2.2.1 r.2.2.2.1 r.2.2.2.2.1 r.2.2.2.2.2.1 r.2.2.2.2.2.2 vb q.2.2.1 q.2.2.2.1 q.2.2.2.2.1 q.2.2.2.2.2.1 q.2.2.2.2.2.2)) := fun hn => by
    rw [wp_some]
    exact hm _ (fun w => absurd w hn) (fun _ => ⟨rfl, rfl, Or.inl ⟨rfl, rfl, rfl, rfl, rfl, rfl, rfl, rfl, rfl, rfl, rfl, rfl, rfl⟩⟩)
  have b0 : ∀ s0 : Int, s0 = 0 → ¬ ((0 ≤ s ∧ s < 8) ∧ (0 ≤ t ∧ t < 40) ∧ pay < 60 ∧ (0 ≤ a ∧ a ≤ 9) ∧ c < 200) → wp (iK_tally_b26 s t a s0 c pay am ki sh te) (fun r => wp (iM_tally N s t a c aK aN aS aT aV) (fun q => aRes c pay am ki sh te vb aK aN aS aT aV r.1 q.1 r.2.1 q.2.1 r.2.2.1 r.2.2.2.1 r.2.2.2.2.1 r.2.2.2.2.2.1 r.2.2.2.2.2.2 vb q.2.2.1 q.2.2.2.1 q.2.2.2.2.1 q.2.2.2.2.2.1 q.2.2.2.2.2.2)) := fun s0 hs hn => by
    unfold iK_tally_b26
    rw [if_pos hs]
    exact no hn
  unfold iK_tally
  rw [wp_bd1, w_isShire]
  refine ⟨fun x => ?_, fun x => ?_⟩
  · rw [if_neg (by decide), wp_bd1, w_isTerm]
    refine ⟨fun y => ?_, fun y => ?_⟩
    · rw [if_neg (by decide), wp_bd1, w_isStick]
      refine ⟨fun z => ?_, fun z => ?_⟩
      · rw [if_neg (by decide)]
        unfold iK_tally_b26
        rw [if_neg (by decide), wp_bd7]
        unfold iActs_addPayment
        rw [wp_ite]
        refine ⟨fun w => ?_, fun w => ?_⟩
        · rw [wp_some]
          exact no (by omega)
        · unfold iActs_isFull
          rw [wp_bd1, wp_ite]
          refine ⟨fun v => ?_, fun v => ?_⟩
          · have v2 : c < 200 := by omega
            have pb := pCn_b ki c
            rw [wp_some, if_pos rfl, wp_bd6, w_add_acts g1, wp_some, wp_gd, wp_some, wp_some, if_pos v2]
            refine ⟨jr_iff.mpr (by omega), hm _ (fun _ => ⟨rfl, rfl, Or.inr ⟨rfl, ?_, fun k hk => ⟨va_up_ne _ _ hk, va_up_ne _ _ hk, va_up_ne _ _ hk, va_up_ne _ _ hk⟩, fun k => Or.inl rfl, ?_⟩⟩) (fun n => by omega)⟩
            · have ad := IA_add hh v2 (K := 3) (s := s) (s2 := s) (t := t) (a := a) (by omega) (by omega) (fun q => by omega) (fun _ => ⟨by omega, rfl⟩) (fun q => by omega) (fun _ => by omega) (fun q => by omega) (fun _ => by omega)
              rw [if_pos (Or.inr rfl)] at ad
              exact ad
            · show va_up ki (c + 1) 3 (c + 1) ≠ 1
              rw [va_up_self]
              decide
          · rw [wp_some, if_neg (by decide), wp_some]
            exact no (by omega)
      · rw [if_pos rfl]
        exact b0 0 rfl (by omega)
    · rw [if_pos rfl]
      exact b0 0 rfl (fun w => y w.2.1)
  · rw [if_pos rfl]
    exact b0 0 rfl (fun w => x w.1)
