set_option maxHeartbeats 4000000
set_option maxRecDepth 100000
def g2 (N n : Nat) (T : Nat → Int) : Nat → Nat → RF := iG_readBoth_readFact_readTest N n T
def fitT (C : Tx) (T : Nat → Int) (n q : Nat) (L S : List Int) : Prop := okT C ∧ C.n = n ∧ C.T = T ∧ S.length ≤ q ∧ L.length + S.length ≤ q
def TBt [Inhabited Frm] (C : Tx) (L S : List Int) (q : Nat) (e o : Int) : Prop := ∀ L1 P, L = L1 ++ P → P.length ≤ 2 → (∀ x, x ∈ P → x = 14 ∨ x = 15) → TB C L1 (P ++ S) q e o
/-- a test starts behind nothing or a bracket -/
def sT (S : List Int) : Prop := S = [] ∨ ∃ V, S = 25 :: V
def SimF [Inhabited Frm] (T : Nat → Int) (n : Nat) (f : RF) (q : Nat) (e o : Int) (D : Nat) : Prop := (∃ q2 e2 l, CLok T n f q e o q2 e2 l ∧ plc T n q q2 e2 l ∧ q < q2 ∧ EvT l D ∧ ∀ C L S, fitT C T n q L S → nt asB S → TB C (L ++ l) S q2 e2 o → TA C L S q e o) ∨ ∃ kd p, CLbad T n f q e o kd p ∧ ∀ C L S, fitT C T n q L S → nt asB S → TF C kd p → TA C L S q e o
def SimV [Inhabited Frm] (T : Nat → Int) (n : Nat) (f : RF) (q : Nat) (e o : Int) (D : Nat) : Prop := (∃ q2 e2 l, CLok T n f q e o q2 e2 l ∧ plc T n q q2 e2 l ∧ q < q2 ∧ EvT l D ∧ (¬ tW T n 19 q2 e2 ∧ ¬ tW T n 20 q2 e2) ∧ ∀ C L S, fitT C T n q L S → sT S → TBt C (L ++ l) S q2 e2 o → TA C L S q e o) ∨ ∃ kd p, CLbad T n f q e o kd p ∧ ∀ C L S, fitT C T n q L S → sT S → TF C kd p → TA C L S q e o
/-- a fact in words: all, a shire, two sums -/
theorem F_end [Inhabited Frm] {T : Nat → Int} {n : Nat} {f : RF} {q : Nat} {e o : Int} {D : Nat} (ho : 0 ≤ o ∧ o ≤ 6) (n91 : ¬ tM T n q 91) (n16w : ¬ tW T n 16 q e) (h : (∃ q2 e2 l, CLok T n f q e o q2 e2 l ∧ plc T n q q2 e2 l ∧ q < q2 ∧ EvT l D ∧ FOK T n q e o q2 e2 l) ∨ ∃ kd p, CLbad T n f q e o kd p ∧ FBD T n q e o kd p) : SimF T n f q e o D := by
  rcases h with ⟨q2, e2, l, r1, r2, r3, r4, r5⟩ | ⟨kd, p, r1, r5⟩
  · refine Or.inl ⟨q2, e2, l, r1, r2, r3, r4, fun C L S hf hnt g => ?_⟩
    obtain ⟨f1, f2, f3, f4, f5⟩ := hf
    have hn := f1.hn
    have ll : l.length ≤ (trl l).length := trl_len l
    have p4 := r2.2.2.2
    have p1 := r2.1
    subst f2
    subst f3
    exact ta_ok f1 r5 n91 n16w ho f5 f4 (by rw [List.length_append]; omega) r3 hnt g
  · refine Or.inr ⟨kd, p, r1, fun C L S hf hnt g => ?_⟩
    obtain ⟨f1, f2, f3, f4, f5⟩ := hf
    subst f2
    subst f3
    exact ta_bd f1 r5 n91 n16w f5 f4 hnt g
theorem sim_not [Inhabited Frm] {N n d D : Nat} {T : Nat → Int} {o : Int} (hN : 5000 ≤ N) (hn : n ≤ 600) (ho : 0 ≤ o ∧ o ≤ 6) (hF : o ≠ 6 → ∀ q e, q ≤ n → tSk T n q = q → e ≤ (q : Int) → SimF T n (g2 N n T d 1) q e (o + 1) D) {q : Nat} {e : Int} (hq : q ≤ n) (hqq : tSk T n q = q) (he : e ≤ (q : Int)) (t16 : tW T n 16 q e) : SimF T n (iReader_readFact_G N (g2 N n T d) n T) q e o D := by
  have z0 := tS_le (T := T) (n := n) (q := q) hq
  have z1 : tS T n q ≤ tSk T n (tS T n q) := lR_ge
  have z2 : tSk T n (tS T n q) ≤ n := lR_le z0.2.1
  have z3 : tSk T n (tSk T n (tS T n q)) = tSk T n (tS T n q) := lR_id
  have z4 := z0.2.2 t16.1
  by_cases h6 : o = 6
  · refine Or.inr ⟨3, q, ?_, fun C L S hf hnt g => ?_⟩
    · intro L fa fp s v Q hs hv hQ
      unfold iReader_readFact_G
      rw [wp_bd4]
      refine w_takeWord hN hn hq (by decide) (fun _ => ?_) (fun t => absurd t16 t)
      show wp (if (1 : Int) = 0 then _ else _) _
      rw [if_neg (by decide), wp_bd4]
      refine w_kop ho (fun _ => ?_) (fun w => absurd h6 w)
      show wp (if (0 : Int) = 0 then _ else _) _
      rw [if_pos rfl, wp_some]
      exact hQ _ _ _ _ _ _
    · obtain ⟨f1, f2, f3, f4, f5⟩ := hf
      subst f2
      subst f3
      exact ta_not f1 (by omega) (by omega) ho t16 (fun _ => g) (fun w => absurd h6 w)
  · have c1 : ∀ (fa fp s : Int) (v : Nat → Int) (Q : R_iReader_readPart → Prop), wp (g2 N n T d 1 (tSk T n (tS T n q) : Nat) fa fp (tK T n (tSk T n (tS T n q)) (tS T n q : Nat)) (o + 1) s (tS T n (tSk T n (tS T n q)) : Nat) v) (fun r => wp (if r.1 = 0 then some (0, r.2.1, r.2.2.1, r.2.2.2.1, r.2.2.2.2.1, r.2.2.2.2.2.1, r.2.2.2.2.2.2.1, r.2.2.2.2.2.2.2.1, r.2.2.2.2.2.2.2.2) else bd5 (iReader_emit (-5) r.2.1 r.2.2.1 r.2.2.2.1 r.2.2.2.2.2.2.1 r.2.2.2.2.2.2.2.2) fun rc9 fa9 fp9 s9 v9 => if rc9 = 0 then some (0, r.2.1, fa9, fp9, r.2.2.2.2.1, r.2.2.2.2.2.1, s9, r.2.2.2.2.2.2.2.1, v9) else bd2 (iReader_closes r.2.2.2.2.2.1) fun rc7 o7 => if rc7 = 0 then some (0, r.2.1, fa9, fp9, r.2.2.2.2.1, o7, s9, r.2.2.2.2.2.2.2.1, v9) else some (1, r.2.1, fa9, fp9, r.2.2.2.2.1, o7, s9, r.2.2.2.2.2.2.2.1, v9)) Q) → wp (iReader_readFact_G N (g2 N n T d) n T q fa fp (tK T n q e) o s (tS T n q) v) Q := by
      intro fa fp s v Q hb
      unfold iReader_readFact_G
      rw [wp_bd4]
      refine w_takeWord hN hn hq (by decide) (fun _ => ?_) (fun t => absurd t16 t)
      show wp (if (1 : Int) = 0 then _ else _) _
      rw [if_neg (by decide), wp_bd4]
      refine w_kop ho (fun w => absurd w h6) (fun _ => ?_)
      show wp (if (1 : Int) = 0 then _ else _) _
      rw [if_neg (by decide), wp_bd9]
      exact hb
    have b1 : ∀ C L S, fitT C T n q L S → TA C L (16 :: S) (tSk T n (tS T n q)) (tS T n q : Nat) (o + 1) → TA C L S q e o := by
      intro C L S hf g
      obtain ⟨f1, f2, f3, f4, f5⟩ := hf
      subst f2
      subst f3
      exact ta_not f1 (by omega) (by omega) ho t16 (fun w => absurd w h6) (fun _ => g)
    have fit1 : ∀ C L S, fitT C T n q L S → fitT C T n (tSk T n (tS T n q)) L (16 :: S) := by
      intro C L S hf
      obtain ⟨f1, f2, f3, f4, f5⟩ := hf
      exact ⟨f1, f2, f3, (show S.length + 1 ≤ _ by omega), (show L.length + (S.length + 1) ≤ _ by omega)⟩
    have nt16 : ∀ S, nt asB (16 :: S) := fun S x V hxV hx => by
      have e1 := (List.cons.inj hxV).1
      have e2 := asB_iff.mp hx
      omega
    rcases hF h6 (tSk T n (tS T n q)) (tS T n q : Nat) z2 z3 (show ((tS T n q : Nat) : Int) ≤ _ by omega) with ⟨q2, e2, a, r1, r2, r3, r4, r6⟩ | ⟨kd, p, r1, r6⟩
    · obtain ⟨p1, p2, p3, p4⟩ := r2
      have lt : (trl (a ++ [16])).length = (trl a).length + 1 := by
        rw [trl_app, List.length_append]
        rfl
      refine Or.inl ⟨q2, e2, a ++ [16], ?_, ⟨p1, p2, p3, by rw [lt]; omega⟩, by omega, Ev_not r4, ?_⟩
      · intro L fa fp s v Q hs hv hQ
        refine c1 fa fp s v Q (r1 L fa fp s v _ (by omega) hv (fun s2 v2 h2 => ?_))
        have i1 := h2.1
        have i2 := hv.1
        rw [trl_app, List.length_append] at i1
        show wp (if (1 : Int) = 0 then _ else _) _
        rw [if_neg (by decide), wp_bd5]
        refine w_emit h2 (show s2 < 600 by omega) (fun v3 h3 => ?_)
        show wp (if (1 : Int) = 0 then _ else _) _
        rw [if_neg (by decide), wp_bd2]
        refine w_kcl (show 0 ≤ o + 1 ∧ o + 1 ≤ 6 by omega) ?_
        show wp (if (1 : Int) = 0 then _ else _) _
        rw [if_neg (by decide), wp_some]
        have := hQ (s2 + 1) v3 (by rw [← List.append_assoc, trl_app (L ++ a)]; exact h3)
        show Q (1, _, _, _, _, o + 1 - 1, _, _, _)
        rw [show o + 1 - 1 = o by omega]
        exact this
      · intro C L S hf hnt g
        refine b1 C L S hf (r6 C L (16 :: S) (fit1 C L S hf) (nt16 S) ?_)
        unfold TB at g ⊢
        rw [tkw_p (n16_iff.mpr rfl), drw_p (n16_iff.mpr rfl), len_c]
        rw [show o + 1 - (((tkw n16 S).length : Int) + 1) = o - ((tkw n16 S).length : Int) by omega]
        have e1 : L ++ (a ++ [16]) ++ tkw n16 S = L ++ a ++ 16 :: tkw n16 S := by
          rw [← List.append_assoc, List.append_assoc (L ++ a)]
          rfl
        rw [← e1]
        exact g
    · refine Or.inr ⟨kd, p, ?_, fun C L S hf hnt g => b1 C L S hf (r6 C L (16 :: S) (fit1 C L S hf) (nt16 S) g)⟩
      intro L fa fp s v Q hs hv hQ
      refine c1 fa fp s v Q (r1 L fa fp s v _ (by omega) hv (fun a7 k7 o7 s7 t7 v7 => ?_))
      show wp (if (0 : Int) = 0 then _ else _) _
      rw [if_pos rfl, wp_some]
      exact hQ _ _ _ _ _ _
