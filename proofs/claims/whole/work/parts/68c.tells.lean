set_option maxHeartbeats 4000000
set_option maxRecDepth 100000
theorem w_puts {x : Int} {st : List Int} {k : Nat → Int} {Q : R_iM_puts → Prop} (hs : st.length < 700) (hk : stk k st) (h : ∀ k2, stk k2 (x :: st) → Q ((st.length : Int) + 1, k2)) : wp (iM_puts x st.length k) Q := by
  unfold iM_puts
  rw [wp_gd, wp_gd, wp_some]
  exact ⟨jb_iff.mpr (by omega), jr_iff.mpr (by omega), h _ (stk_push hk)⟩
theorem w_joins {c a b : Int} {s : List Int} {k : Nat → Int} {Q : R_iM_joins → Prop} (ia : inB a) (ib : inB b) (hs : s.length + 2 ≤ 700) (hk : stk k (b :: a :: s)) (h : ∀ k2, stk k2 (rOp c a b :: s) → Q ((s.length : Int) + 1, k2)) : wp (iM_joins c ((s.length : Int) + 1 + 1) k) Q := by
  have hm := mul_b ia ib
  have e2 : (s.length : Int) + 1 + 1 - 2 = s.length := by omega
  have e1 : (s.length : Int) + 1 + 1 - 1 = (s.length : Int) + 1 := by omega
  have f2 : (s.length : Int).toNat = s.length := rfl
  have f1 : ((s.length : Int) + 1).toNat = s.length + 1 := by omega
  have ka : k s.length = a := hk.2.1
  have kb : k (s.length + 1) = b := hk.1
  have fin : ∀ x, x = rOp c a b → wp (bd2 (iM_puts x s.length k) fun p l => some (p, l)) Q := fun x hx => by
    subst hx
    rw [wp_bd2]
    exact w_puts (by omega) hk.2.2 (fun k2 h2 => by rw [wp_some]; exact h k2 h2)
  obtain ⟨a1, a2⟩ := ia
  obtain ⟨b1, b2⟩ := ib
  unfold iM_joins
  rw [e2, e1, f2, f1, ka, kb, wp_gd, wp_gd, wp_gd, wp_gd]
  refine ⟨jr_iff.mpr (by omega), jb_iff.mpr (by omega), jr_iff.mpr (by omega), jb_iff.mpr (by omega), ?_⟩
  by_cases c1 : c = 1
  · rw [if_pos c1, wp_gd, wp_bd1, w_clip, wp_some]
    exact ⟨jR_iff.mpr (by omega), fin _ (by rw [c1, rOp_1])⟩
  rw [if_neg c1]
  by_cases c2 : c = 2
  · rw [if_pos c2, wp_gd, wp_bd1, w_clip, wp_some]
    exact ⟨jR_iff.mpr (by omega), fin _ (by rw [c2, rOp_2])⟩
  rw [if_neg c2]
  by_cases c3 : c = 3
  · rw [if_pos c3, wp_gd, wp_bd1, w_clip, wp_some]
    exact ⟨jR_iff.mpr (by omega), fin _ (by rw [c3, rOp_3])⟩
  rw [if_neg c3]
  by_cases c4 : c = 4
  · rw [if_pos c4, wp_bd1, w_flR ⟨a1, a2⟩, wp_some]
    exact fin _ (by rw [c4, rOp_4])
  rw [if_neg c4]
  by_cases c5 : c = 5
  · rw [if_pos c5]
    have e : rOp c a b = if a < b then a else b := by rw [c5, rOp_5]
    by_cases z : b ≤ a
    · rw [if_pos z]
      exact fin b (by rw [e, if_neg (by omega)])
    · rw [if_neg z]
      exact fin a (by rw [e, if_pos (by omega)])
  rw [if_neg c5]
  by_cases c6 : c = 6
  · rw [if_pos c6]
    have e : rOp c a b = if b < a then a else b := by rw [c6, rOp_6]
    by_cases z : a ≤ b
    · rw [if_pos z]
      exact fin b (by rw [e, if_neg (by omega)])
    · rw [if_neg z]
      exact fin a (by rw [e, if_pos (by omega)])
  rw [if_neg c6]
  have e0 : rOp c a b = if c = 11 then (if a < b then 1 else 0) else if c = 12 then (if b < a then 1 else 0) else if c = 13 then (if a = b then 1 else 0) else if c = 14 then a * b else (if 0 < a + b then 1 else 0) := by
    unfold rOp
    rw [if_neg c1, if_neg c2, if_neg c3, if_neg c4, if_neg c5, if_neg c6]
  by_cases c11 : c = 11
  · rw [if_pos c11] at e0 ⊢
    by_cases z : b ≤ a
    · rw [if_pos z]
      exact fin 0 (by rw [e0, if_neg (by omega)])
    · rw [if_neg z]
      exact fin 1 (by rw [e0, if_pos (by omega)])
  rw [if_neg c11] at e0 ⊢
  by_cases c12 : c = 12
  · rw [if_pos c12] at e0 ⊢
    by_cases z : a ≤ b
    · rw [if_pos z]
      exact fin 0 (by rw [e0, if_neg (by omega)])
    · rw [if_neg z]
      exact fin 1 (by rw [e0, if_pos (by omega)])
  rw [if_neg c12] at e0 ⊢
  by_cases c13 : c = 13
  · rw [if_pos c13] at e0 ⊢
    by_cases z : a = b
    · rw [if_pos z]
      exact fin 1 (by rw [e0, if_pos z])
    · rw [if_neg z]
      exact fin 0 (by rw [e0, if_neg z])
  rw [if_neg c13] at e0 ⊢
  by_cases c14 : c = 14
  · rw [if_pos c14] at e0 ⊢
    rw [wp_gd]
    exact ⟨jR_iff.mpr (by omega), fin _ e0.symm⟩
  rw [if_neg c14] at e0 ⊢
  rw [wp_gd]
  refine ⟨jR_iff.mpr (by omega), ?_⟩
  by_cases z : a + b ≤ 0
  · rw [if_pos z]
    exact fin 0 (by rw [e0, if_neg (by omega)])
  · rw [if_neg z]
    exact fin 1 (by rw [e0, if_pos (by omega)])
theorem w_tl {N a : Nat} {a2 shire now debt paid : Int} {v : Nat → Int} {Q : R_iM_tells → Prop} (ha : a ≤ 200) (hn : 0 ≤ now ∧ now ≤ 39) : ∀ (l st : List Int) (m p : Nat) (a3 : Int) (k : Nat → Int), l.length < m → cAt v (640 * a + p) l → a3 = p + l.length → p + l.length ≤ 640 → stk k st → st.length + l.length ≤ 690 → (∀ x, x ∈ st → inB x) → ∀ st2, rRun (shire, now, clp debt, clp paid) l st = some st2 → (∀ k2, stk k2 st2 → Q (k2 0, st2.length, k2)) → wp (iM_tells_b8 N a a2 a3 debt now paid shire v m p st.length k) Q := by
  intro l
  induction l with
  | nil =>
    intro st m p a3 k hm hc ha3 hp hk hs hb st2 hr hQ
    obtain ⟨m2, rfl⟩ : ∃ m2, m = m2 + 1 := ⟨m - 1, by have : 0 < m := hm; omega⟩
    cases hr
    show wp (iM_tells_b8_F N a a2 a3 debt now paid shire v _ p st.length k) Q
    unfold iM_tells_b8_F
    have ha2 : a3 = (p : Int) + 0 := ha3
    rw [if_pos (by omega), wp_some]
    exact hQ k hk
  | cons c l ih =>
    intro st m p a3 k hm hc ha3 hp hk hs hb st2 hr hQ
    have hm1 : l.length + 1 < m := hm
    obtain ⟨m2, rfl⟩ : ∃ m2, m = m2 + 1 := ⟨m - 1, by omega⟩
    obtain ⟨c1, c2⟩ := hc
    have ha2 : a3 = (p : Int) + ((l.length : Int) + 1) := ha3
    have hp2 : p + (l.length + 1) ≤ 640 := hp
    have hs2 : st.length + (l.length + 1) ≤ 690 := hs
    have hr2 : (match chk (rSt (shire, now, clp debt, clp paid) c st) with | some s => rRun (shire, now, clp debt, clp paid) l s | none => none) = some st2 := hr
    cases hch : chk (rSt (shire, now, clp debt, clp paid) c st) with
    | none =>
      rw [hch] at hr2
      cases hr2
    | some s2 =>
      rw [hch] at hr2
      have hr3 : rRun (shire, now, clp debt, clp paid) l s2 = some st2 := hr2
      obtain ⟨x, s, k1, k2, k3⟩ := chk_s hch
      subst k3
      have next : ∀ (k' : Nat → Int) (w : Int), w = ((x :: s).length : Int) → stk k' (x :: s) → (x :: s).length + l.length ≤ 690 → (∀ z, z ∈ s → inB z) → wp (iM_tells_b8 N a a2 a3 debt now paid shire v m2 ((p : Int) + 1) w k') Q := fun k' w hw h1 h2 h3 => by
        rw [hw]
        exact ih (x :: s) m2 (p + 1) a3 k' (by omega) (by rw [show 640 * a + (p + 1) = 640 * a + p + 1 by omega]; exact c2) (by omega) (by omega) h1 h2 (fun z hz => by
          rcases List.mem_cons.mp hz with g | g
          · rw [g]
            exact k2
          · exact h3 z g) st2 hr3 hQ
      have ep : (640 * (a : Int) + (p : Int)).toNat = 640 * a + p := by omega
      have put : ∀ z : Int, rSt (shire, now, clp debt, clp paid) c st = some (z :: st) → wp (iM_puts z st.length k) (fun r => wp (gd (jr ((p : Int) + 1)) (iM_tells_b8 N a a2 a3 debt now paid shire v m2 ((p : Int) + 1) r.1 r.2)) Q) := fun z hz => by
        rw [hz] at k1
        obtain ⟨e5, e6⟩ := List.cons.inj (Option.some.inj k1)
        subst e5
        subst e6
        refine w_puts (by omega) hk (fun k3 h3 => ?_)
        rw [wp_gd]
        exact ⟨jr_iff.mpr (by omega), next k3 _ rfl h3 (by show st.length + 1 + l.length ≤ 690; omega) hb⟩
      show wp (iM_tells_b8_F N a a2 a3 debt now paid shire v (iM_tells_b8 N a a2 a3 debt now paid shire v m2) p st.length k) Q
      unfold iM_tells_b8_F
      rw [if_neg (by omega), wp_gd, wp_gd, wp_gd, ep, c1]
      refine ⟨jr_iff.mpr (by omega), jr_iff.mpr (by omega), jb_iff.mpr (by omega), ?_⟩
      by_cases h1000 : 1000 ≤ c
      · have hx : -1000000000 ≤ c - 1000 ∧ c - 1000 ≤ 1000000000 := by
          have e := k1
          unfold rSt at e
          rw [if_pos h1000] at e
          obtain ⟨e5, e6⟩ := List.cons.inj (Option.some.inj e)
          rw [e5]
          exact k2
        rw [if_neg (by omega), wp_gd, wp_bd2]
        exact ⟨jr_iff.mpr (by omega), put _ (by unfold rSt; rw [if_pos h1000])⟩
      rw [if_pos (show c < 1000 by omega)]
      by_cases h100 : 100 ≤ c
      · rw [if_neg (show ¬ c < 100 by omega), wp_gd]
        refine ⟨jr_iff.mpr (by omega), ?_⟩
        by_cases z : c - 100 = shire
        · rw [if_pos z]
          unfold iM_tells_b76
          rw [wp_bd2]
          exact put 1 (by
            unfold rSt
            rw [if_neg h1000, if_pos h100]
            show some ((if c - 100 = shire then (1 : Int) else 0) :: st) = _
            rw [if_pos z])
        · rw [if_neg z]
          unfold iM_tells_b76
          rw [wp_bd2]
          exact put 0 (by
            unfold rSt
            rw [if_neg h1000, if_pos h100]
            show some ((if c - 100 = shire then (1 : Int) else 0) :: st) = _
            rw [if_neg z])
      rw [if_pos (show c < 100 by omega)]
      by_cases h7 : c = 7
      · rw [if_pos h7, wp_bd2]
        exact put now (by unfold rSt; rw [if_neg h1000, if_neg h100, if_pos h7])
      rw [if_neg h7]
      by_cases h8 : c = 8
      · rw [if_pos h8, wp_gd, wp_bd2, Int.tdiv_eq_ediv_of_nonneg hn.1]
        exact ⟨jr_iff.mpr (by omega), put (now / 2) (by unfold rSt; rw [if_neg h1000, if_neg h100, if_neg h7, if_pos h8])⟩
      rw [if_neg h8]
      by_cases h9 : c = 9
      · rw [if_pos h9, wp_bd1, w_clip, wp_some, wp_bd2]
        exact put (clp debt) (by unfold rSt; rw [if_neg h1000, if_neg h100, if_neg h7, if_neg h8, if_pos h9])
      rw [if_neg h9]
      by_cases h10 : c = 10
      · rw [if_pos h10, wp_bd1, w_clip, wp_some, wp_bd2]
        exact put (clp paid) (by unfold rSt; rw [if_neg h1000, if_neg h100, if_neg h7, if_neg h8, if_neg h9, if_pos h10])
      rw [if_neg h10]
      by_cases h17 : c = 17
      · rw [if_pos h17, wp_bd2]
        exact put 1 (by unfold rSt; rw [if_neg h1000, if_neg h100, if_neg h7, if_neg h8, if_neg h9, if_neg h10, if_pos h17])
      rw [if_neg h17]
      have k1b := k1
      unfold rSt at k1b
      rw [if_neg h1000, if_neg h100, if_neg h7, if_neg h8, if_neg h9, if_neg h10, if_neg h17] at k1b
      by_cases h16 : c = 16
      · rw [if_pos h16] at k1b ⊢
        cases st with
        | nil => cases k1b
        | cons x0 s0 =>
          obtain ⟨e5, e6⟩ := List.cons.inj (Option.some.inj k1b)
          subst e5
          subst e6
          have hs0 : s0.length + 1 + (l.length + 1) ≤ 690 := hs2
          have el : ((x0 :: s0).length : Int) = (s0.length : Int) + 1 := rfl
          have et : ((s0.length : Int) + 1 - 1).toNat = s0.length := by omega
          have b0 := hb x0 (List.mem_cons_self ..)
          obtain ⟨b1, b2⟩ := b0
          rw [el, wp_gd, wp_gd, wp_gd, wp_gd, et, hk.1]
          exact ⟨jr_iff.mpr (by omega), jb_iff.mpr (by omega), jr_iff.mpr (by omega), jR_iff.mpr (by omega), next _ _ rfl ⟨va_up_self _ _ _, stk_up hk.2 (Nat.le_refl _)⟩ (by show s0.length + 1 + l.length ≤ 690; omega) (fun z hz => hb z (List.mem_cons_of_mem _ hz))⟩
      · rw [if_neg h16] at k1b ⊢
        cases st with
        | nil => cases k1b
        | cons b s0 =>
          cases s0 with
          | nil => cases k1b
          | cons a0 s1 =>
            obtain ⟨e5, e6⟩ := List.cons.inj (Option.some.inj k1b)
            subst e5
            subst e6
            have hs0 : s1.length + 1 + 1 + (l.length + 1) ≤ 690 := hs2
            have ia : inB a0 := hb a0 (List.mem_cons_of_mem _ (List.mem_cons_self ..))
            have ib : inB b := hb b (List.mem_cons_self ..)
            rw [wp_bd2]
            refine w_joins ia ib (by omega) hk (fun k3 h3 => ?_)
            rw [wp_gd]
            exact ⟨jr_iff.mpr (by omega), next k3 _ rfl h3 (by show s1.length + 1 + l.length ≤ 690; omega) (fun z hz => hb z (List.mem_cons_of_mem _ (List.mem_cons_of_mem _ hz)))⟩
/-- a value of the reference -/
theorem w_valM {N a p : Nat} {l : List Int} {a3 shire now debt paid x pl : Int} {v pile : Nat → Int} {Q : R_iM_tells → Prop} (hN : 5000 ≤ N) (ha : a ≤ 200) (hn : 0 ≤ now ∧ now ≤ 39) (hc : cAt v (640 * a + p) l) (ha3 : a3 = p + l.length) (hp : p + l.length ≤ 640) (hr : rRun (shire, now, clp debt, clp paid) l [] = some [x]) (hQ : ∀ k2, Q (x, 1, k2)) : wp (iM_tells N a p a3 debt now paid pl shire v pile) Q := by
  unfold iM_tells
  refine w_tl ha hn l [] N p a3 pile (by omega) hc ha3 hp trivial (by show 0 + l.length ≤ 690; omega) (fun x hx => by cases hx) [x] hr (fun k2 h2 => ?_)
  have := hQ k2
  rw [← h2.1] at this
  exact this
