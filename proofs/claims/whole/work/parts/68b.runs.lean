set_option maxHeartbeats 4000000
set_option maxRecDepth 100000
/-- the list l stands in f from p on -/
def cAt (f : Nat → Int) : Nat → List Int → Prop
  | _, [] => True
  | p, c :: l => f p = c ∧ cAt f (p + 1) l
theorem cAt_of {f : Nat → Int} : ∀ (l : List Int) (p : Nat), (∀ j, j < l.length → f (p + j) = l.getD j 0) → cAt f p l
  | [], _, _ => trivial
  | c :: l, p, h => by
    refine ⟨h 0 (Nat.succ_pos _), cAt_of l (p + 1) (fun j hj => ?_)⟩
    have := h (j + 1) (Nat.succ_lt_succ hj)
    rw [show p + 1 + j = p + (j + 1) by omega, this]
    rfl
theorem cAt_seg {f : Nat → Int} {a l b : List Int} {p : Nat} (h : ∀ j, j < (a ++ (l ++ b)).length → f (p + j) = (a ++ (l ++ b)).getD j 0) : cAt f (p + a.length) l := by
  refine cAt_of l _ (fun j hj => ?_)
  have e := h (a.length + j) (by rw [List.length_append, List.length_append]; omega)
  rw [show p + a.length + j = p + (a.length + j) by omega, e]
  simp only [List.getD]
  rw [List.getElem?_append_right (by omega), show a.length + j - a.length = j by omega, List.getElem?_append_left hj]
theorem chk_s {o : Option (List Int)} {s2 : List Int} (h : chk o = some s2) : ∃ x s, o = some (x :: s) ∧ inB x ∧ s2 = x :: s := by
  cases o with
  | none => cases h
  | some l =>
    cases l with
    | nil => cases h
    | cons x s =>
      by_cases c : inB x
      · rw [chk_ok c] at h
        cases h
        exact ⟨x, s, rfl, c, rfl⟩
      · have e : chk (some (x :: s)) = none := if_neg c
        rw [e] at h
        cases h
theorem w_present {c term debt paid shire : Int} (h : -4 ≤ c ∧ c < 0) (ht : 0 ≤ term ∧ term ≤ 39) : iJudge_present c debt paid term = some (kPv (shire, term, debt, paid) c) := by
  unfold iJudge_present kPv
  rw [if_neg (show ¬ 0 ≤ c by omega)]
  by_cases e3 : c = -3
  · rw [if_pos e3, if_neg (by omega), if_neg (by omega), if_pos e3]
  rw [if_neg e3]
  by_cases e2 : c = -2
  · rw [if_pos e2, if_neg (by omega), if_pos e2, gd, Int.tdiv_eq_ediv_of_nonneg ht.1]
    rw [if_pos (jr_iff.mpr (by omega))]
  rw [if_neg e2]
  by_cases e1 : c = -1
  · rw [if_pos e1, if_pos e1]
  · rw [if_neg e1, if_neg e1, if_neg e2, if_neg e3]
theorem w_vl {N L y : Nat} {D : DynI} {a2 shire term debt paid : Int} {K : Int → (Nat → Int) → Option R_iJudge_valueOf} {Q : R_iJudge_valueOf → Prop} (hy : jOk D y 3) (hL : D.2.2.1 y = L) (hL6 : L ≤ 600) (ht : 0 ≤ term ∧ term ≤ 39) : ∀ (l st : List Int) (m p : Nat) (a3 : Int) (k : Nat → Int), l.length < m → cAt (D.2.2.2.1 y) p l → a3 = p + l.length → p + l.length ≤ L → stk k st → st.length ≤ 64 → (∀ x, x ∈ st → inB x) → ∀ st2, kRun (shire, term, debt, paid) l st = some st2 → (∀ k2, stk k2 st2 → wp (K st2.length k2) Q) → wp (iJudge_valueOf_b10 N (some y) a2 a3 D debt paid shire term K m st.length p k) Q := by
  intro l
  induction l with
  | nil =>
    intro st m p a3 k hm hc ha hp hk hs hb st2 hr hQ
    obtain ⟨m2, rfl⟩ : ∃ m2, m = m2 + 1 := ⟨m - 1, by have : 0 < m := hm; omega⟩
    cases hr
    show wp (iJudge_valueOf_b10_F N (some y) a2 a3 D debt paid shire term K _ st.length p k) Q
    unfold iJudge_valueOf_b10_F
    have ha2 : a3 = (p : Int) + 0 := ha
    rw [if_pos (by omega)]
    exact hQ k hk
  | cons c l ih =>
    intro st m p a3 k hm hc ha hp hk hs hb st2 hr hQ
    have hm1 : l.length + 1 < m := hm
    obtain ⟨m2, rfl⟩ : ∃ m2, m = m2 + 1 := ⟨m - 1, by omega⟩
    obtain ⟨c1, c2⟩ := hc
    have ha2 : a3 = (p : Int) + ((l.length : Int) + 1) := ha
    have hp2 : p + (l.length + 1) ≤ L := hp
    have hr2 : (match chk (kSt (shire, term, debt, paid) c st) with | some s => kRun (shire, term, debt, paid) l s | none => none) = some st2 := hr
    cases hch : chk (kSt (shire, term, debt, paid) c st) with
    | none =>
      rw [hch] at hr2
      cases hr2
    | some s2 =>
      rw [hch] at hr2
      have hr3 : kRun (shire, term, debt, paid) l s2 = some st2 := hr2
      obtain ⟨x, s, k1, k2, k3⟩ := chk_s hch
      subst k3
      have next : ∀ (k' : Nat → Int) (w : Int), w = ((x :: s).length : Int) → stk k' (x :: s) → (x :: s).length ≤ 64 → (∀ z, z ∈ s → inB z) → wp (iJudge_valueOf_b10 N (some y) a2 a3 D debt paid shire term K m2 w ((p : Int) + 1) k') Q := fun k' w hw h1 h2 h3 => by
        rw [hw]
        exact ih (x :: s) m2 (p + 1) a3 k' (by omega) c2 (by omega) (by omega) h1 h2 (fun z hz => by
          rcases List.mem_cons.mp hz with g | g
          · rw [g]
            exact k2
          · exact h3 z g) st2 hr3 hQ
      have ep : (p : Int).toNat = p := rfl
      show wp (iJudge_valueOf_b10_F N (some y) a2 a3 D debt paid shire term K (iJudge_valueOf_b10 N (some y) a2 a3 D debt paid shire term K m2) st.length p k) Q
      unfold iJudge_valueOf_b10_F
      have e1 : jLen D y 3 = some L := by
        unfold jLen
        rw [if_pos hy, hL]
      have e2 : jAI D y p = some c := by
        unfold jAI
        rw [if_pos ⟨hy, jb_iff.mpr (by rw [hL]; omega)⟩, ep, c1]
      rw [if_neg (by omega), wp_bd1, wp_some, wp_bd1, e1, wp_some, wp_gd, if_neg (by omega), wp_bd1, e2, wp_some]
      refine ⟨jr_iff.mpr (by omega), ?_⟩
      by_cases h4 : -4 ≤ c
      · unfold kSt at k1
        rw [if_pos h4] at k1
        by_cases h64 : st.length < 64
        · rw [if_pos h64] at k1
          cases k1
          have es : ((st.length : Nat) : Int).toNat = st.length := rfl
          have pu := stk_push (x := kPv (shire, term, debt, paid) c) hk
          rw [if_neg (by omega), if_neg (by omega)]
          by_cases hc0 : c < 0
          · rw [if_pos hc0, wp_bd1, w_present (shire := shire) ⟨h4, hc0⟩ ht, wp_some]
            unfold iJudge_valueOf_b66
            rw [wp_gd, wp_gd, wp_gd, es]
            exact ⟨jb_iff.mpr (by omega), jr_iff.mpr (by omega), jr_iff.mpr (by omega), next _ _ rfl pu (by show st.length + 1 ≤ 64; omega) hb⟩
          · have e3 : kPv (shire, term, debt, paid) c = c := if_pos (by omega)
            rw [if_neg hc0]
            unfold iJudge_valueOf_b66
            rw [wp_gd, wp_gd, wp_gd, es]
            rw [e3] at pu
            exact ⟨jb_iff.mpr (by omega), jr_iff.mpr (by omega), jr_iff.mpr (by omega), next _ _ rfl (by rw [e3]; exact pu) (by show st.length + 1 ≤ 64; omega) hb⟩
        · rw [if_neg h64] at k1
          cases k1
      · rw [if_pos (by omega)]
        by_cases h6 : -6 ≤ c
        · rw [if_neg (by omega)]
          unfold kSt at k1
          rw [if_neg h4, if_pos h6] at k1
          cases st with
          | nil => cases k1
          | cons x0 s0 =>
            have hs0 : s0.length + 1 ≤ 64 := hs
            have el : ((x0 :: s0).length : Int) = (s0.length : Int) + 1 := rfl
            have et : ((s0.length : Int) + 1 - 1).toNat = s0.length := by omega
            have hb0 : ∀ z, z ∈ s0 → inB z := fun z hz => hb z (List.mem_cons_of_mem _ hz)
            have fin : ∀ w : Int, w = x → wp (iJudge_valueOf_b127 N (some y) a2 a3 D debt paid shire term (iJudge_valueOf_b10 N (some y) a2 a3 D debt paid shire term K m2) K ((s0.length : Int) + 1) p ((s0.length : Int) + 1 - 1) w k) Q := fun w hw => by
              subst hw
              cases k1
              unfold iJudge_valueOf_b127
              rw [wp_gd, wp_gd, et]
              exact ⟨jb_iff.mpr (by omega), jr_iff.mpr (by omega), next _ _ rfl ⟨va_up_self _ _ _, stk_up hk.2 (Nat.le_refl _)⟩ hs0 hb0⟩
            rw [el, if_neg (by omega), wp_gd, wp_gd, et, hk.1]
            refine ⟨jr_iff.mpr (by omega), jb_iff.mpr (by omega), ?_⟩
            have k1b : some ((if x0 = (if c = -6 then shire else 0) then (1 : Int) else 0) :: s0) = some (x :: s) := k1
            by_cases hc6 : c = -6
            · rw [if_pos hc6] at k1b ⊢
              unfold iJudge_valueOf_b117
              by_cases hx : x0 = shire
              · rw [if_pos hx] at k1b ⊢
                exact fin 1 (by cases k1b; rfl)
              · rw [if_neg hx] at k1b ⊢
                exact fin 0 (by cases k1b; rfl)
            · rw [if_neg hc6] at k1b ⊢
              unfold iJudge_valueOf_b117
              by_cases hx : x0 = 0
              · rw [if_pos hx] at k1b ⊢
                exact fin 1 (by cases k1b; rfl)
              · rw [if_neg hx] at k1b ⊢
                exact fin 0 (by cases k1b; rfl)
        · rw [if_pos (by omega)]
          unfold kSt at k1
          rw [if_neg h4, if_neg h6] at k1
          cases st with
          | nil => cases k1
          | cons b s0 =>
            cases s0 with
            | nil => cases k1
            | cons a s1 =>
              have hs0 : s1.length + 1 + 1 ≤ 64 := hs
              have el : ((b :: a :: s1).length : Int) = (s1.length : Int) + 1 + 1 := rfl
              have e3 : ((s1.length : Int) + 1 + 1 + (-1) - 1).toNat = s1.length := by omega
              have e4 : ((s1.length : Int) + 1 + 1 + (-1)).toNat = s1.length + 1 := by omega
              have ha1 : k s1.length = a := hk.2.1
              have hb1 : k (s1.length + 1) = b := hk.1
              have ia : inB a := hb a (List.mem_cons_of_mem _ (List.mem_cons_self ..))
              have ib : inB b := hb b (List.mem_cons_self ..)
              obtain ⟨e5, e6⟩ := List.cons.inj (Option.some.inj k1)
              subst e5
              subst e6
              rw [el, if_neg (by omega), wp_gd, wp_gd, wp_gd, wp_gd, e3, e4, ha1, hb1, wp_bd1, w_tog (by omega) ia ib, wp_some, wp_gd]
              refine ⟨jr_iff.mpr (by omega), jr_iff.mpr (by omega), jb_iff.mpr (by omega), jb_iff.mpr (by omega), jr_iff.mpr (by omega), next _ _ ?_ ⟨va_up_self _ _ _, stk_up hk.2.2 (Nat.le_refl _)⟩ (by show s1.length + 1 ≤ 64; omega) (fun z hz => hb z (List.mem_cons_of_mem _ (List.mem_cons_of_mem _ hz)))⟩
              show (s1.length : Int) + 1 + 1 + (-1) = (s1.length : Int) + 1
              omega
/-- a value of the class -/
theorem w_valK {N L y p : Nat} {D : DynI} {l : List Int} {a3 shire term debt paid v : Int} {stack : Nat → Int} {Q : R_iJudge_valueOf → Prop} (hN : 5000 ≤ N) (hy : jOk D y 3) (hL : D.2.2.1 y = L) (hL6 : L ≤ 600) (ht : 0 ≤ term ∧ term ≤ 39) (hc : cAt (D.2.2.2.1 y) p l) (ha : a3 = p + l.length) (hp : p + l.length ≤ L) (hr : kRun (shire, term, debt, paid) l [] = some [v]) (hQ : ∀ k2, Q (v, k2)) : wp (iJudge_valueOf N (some y) p a3 D debt paid shire term stack) Q := by
  unfold iJudge_valueOf
  have e : jmax (p : Int) 0 = p := by
    unfold jmax
    split <;> omega
  rw [e]
  refine w_vl hy hL hL6 ht l [] N p a3 stack (by omega) hc ha hp trivial (Nat.zero_le _) (fun x hx => by cases hx) [v] hr (fun k2 h2 => ?_)
  unfold iJudge_valueOf_b176
  rw [if_neg (by show ¬ ((1 : Nat) : Int) ≤ 0; decide), wp_some]
  have := hQ k2
  rw [← h2.1] at this
  exact this
