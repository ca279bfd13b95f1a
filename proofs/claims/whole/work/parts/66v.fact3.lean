set_option maxHeartbeats 4000000
set_option maxRecDepth 100000
theorem sgn_tr {T : Nat → Int} {n q : Nat} {c d : Int} (h : sgn T n q c d) : trc c = [d] ∧ (c = 11 ∨ c = 12 ∨ c = 13) ∧ d ≠ 0 := by
  rcases h with g | g | g
  · rw [g.2.1, g.2.2]
    exact ⟨rfl, Or.inl rfl, by decide⟩
  · rw [g.2.1, g.2.2]
    exact ⟨rfl, Or.inr (Or.inl rfl), by decide⟩
  · rw [g.2.1, g.2.2]
    exact ⟨rfl, Or.inr (Or.inr rfl), by decide⟩
theorem sim_wd [Inhabited Frm] {N n d : Nat} {T : Nat → Int} {o : Int} (hN : 5000 ≤ N) (hn : n ≤ 600) (hTT : ∀ k, 0 ≤ T k ∧ T k ≤ 255) (ho : 0 ≤ o ∧ o ≤ 6) {q : Nat} {e : Int} (hq : q ≤ n) (hqq : tSk T n q = q) (he : e ≤ (q : Int)) (n91 : ¬ tM T n q 91) (n16w : ¬ tW T n 16 q e) : SimF T n (iReader_readFact_G N (g2 N n T d) n T) q e o 22 := by
  refine F_end ho n91 n16w ?_
  have z0 := tS_le (T := T) (n := n) (q := q) hq
  have z1 : tS T n q ≤ tSk T n (tS T n q) := lR_ge
  have z2 : tSk T n (tS T n q) ≤ n := lR_le z0.2.1
  have z3 : tSk T n (tSk T n (tS T n q)) = tSk T n (tS T n q) := lR_id
  by_cases w17 : tW T n 17 q e
  · have z4 := z0.2.2 w17.1
    refine Or.inl ⟨tSk T n (tS T n q), (tS T n q : Nat), [17], ?_, ⟨z2, z3, (show ((tS T n q : Nat) : Int) ≤ _ by omega), (show 1 + q ≤ _ by omega)⟩, by omega, Ev_up Ev_all (by decide), f_all hn hqq w17⟩
    intro L fa fp s v Q hs hv hQ
    unfold iReader_readFact_G
    rw [wp_bd4]
    refine w_takeWord hN hn hq (by decide) (fun t => absurd t n16w) (fun _ => ?_)
    show wp (if (0 : Int) = 0 then _ else _) _
    rw [if_pos rfl, wp_bd4]
    refine w_takeMark hN hn he cM91 (fun t => absurd t n91) (fun _ => ?_)
    show wp (if (0 : Int) = 0 then _ else _) _
    rw [if_pos rfl, wp_bd4]
    refine w_takeWord hN hn hq (by decide) (fun _ => ?_) (fun t => absurd w17 t)
    show wp (if (1 : Int) = 0 then _ else _) _
    rw [if_neg (by decide), wp_bd5]
    refine w_emit hv (by omega) (fun v2 h2 => ?_)
    rw [wp_gd, wp_some]
    refine ⟨(show jB 1 = true by decide), hQ (s + 1) v2 ?_⟩
    rw [trl_app]
    exact h2
  · by_cases w18 : tW T n 18 q e
    · have z4 := z0.2.2 w18.1
      have y0 := tS_le (T := T) (n := n) (q := tSk T n (tS T n q)) z2
      have y1 : tS T n (tSk T n (tS T n q)) ≤ tSk T n (tS T n (tSk T n (tS T n q))) := lR_ge
      have y2 : tSk T n (tS T n (tSk T n (tS T n q))) ≤ n := lR_le y0.2.1
      have y3 : tSk T n (tSk T n (tS T n (tSk T n (tS T n q)))) = tSk T n (tS T n (tSk T n (tS T n q))) := lR_id
      cases htn : tN T n (tSk T n (tS T n q)) (tS T n q : Nat) 0 7 with
      | some kp =>
        obtain ⟨kd, p⟩ := kp
        refine Or.inr ⟨kd, p, ?_, f_sh_bad hn hTT hqq w17 w18 htn⟩
        intro L fa fp s v Q hs hv hQ
        unfold iReader_readFact_G
        rw [wp_bd4]
        refine w_takeWord hN hn hq (by decide) (fun t => absurd t n16w) (fun _ => ?_)
        show wp (if (0 : Int) = 0 then _ else _) _
        rw [if_pos rfl, wp_bd4]
        refine w_takeMark hN hn he cM91 (fun t => absurd t n91) (fun _ => ?_)
        show wp (if (0 : Int) = 0 then _ else _) _
        rw [if_pos rfl, wp_bd4]
        refine w_takeWord hN hn hq (by decide) (fun t => absurd t w17) (fun _ => ?_)
        show wp (if (0 : Int) = 0 then _ else _) _
        rw [if_pos rfl, wp_bd4]
        refine w_takeWord hN hn hq (by decide) (fun _ => ?_) (fun t => absurd w18 t)
        show wp (if (1 : Int) = 0 then _ else _) _
        rw [if_neg (by decide), wp_bd6]
        refine w_readNumber hN hTT hn z2 (fun w => by rw [htn] at w; cases w) (fun k3 p3 w => ?_)
        rw [htn] at w
        cases w
        show wp (if (-1 : Int) = -1 then _ else _) _
        rw [if_pos rfl, wp_some]
        exact hQ _ _ _ _ _ _
      | none =>
        obtain ⟨a1, a2, a3, a4⟩ := tN_ok htn
        have y4 := y0.2.2 a1.1
        have fo := f_sh_ok (o := o) hn hTT hqq w17 w18 htn
        generalize hV : dV T (tSk T n (tS T n q)) (tS T n (tSk T n (tS T n q)) - tSk T n (tS T n q)) = V at *
        have tr : trl [100 + V] = [V, -6] := by
          rw [trl_one]
          unfold trc
          rw [if_neg (by omega), if_pos (by omega), show 100 + V - 100 = V by omega]
        have l18 : tS T n q = q + 5 := w18.2.2.2.1
        refine Or.inl ⟨tSk T n (tS T n (tSk T n (tS T n q))), (tS T n (tSk T n (tS T n q)) : Nat), [100 + V], ?_, ⟨y2, y3, (show ((tS T n (tSk T n (tS T n q)) : Nat) : Int) ≤ _ by omega), by rw [tr]; show 2 + q ≤ _; omega⟩, by omega, Ev_up (Ev_shire ⟨a3, a4⟩) (by decide), fo⟩
        intro L fa fp s v Q hs hv hQ
        unfold iReader_readFact_G
        rw [wp_bd4]
        refine w_takeWord hN hn hq (by decide) (fun t => absurd t n16w) (fun _ => ?_)
        show wp (if (0 : Int) = 0 then _ else _) _
        rw [if_pos rfl, wp_bd4]
        refine w_takeMark hN hn he cM91 (fun t => absurd t n91) (fun _ => ?_)
        show wp (if (0 : Int) = 0 then _ else _) _
        rw [if_pos rfl, wp_bd4]
        refine w_takeWord hN hn hq (by decide) (fun t => absurd t w17) (fun _ => ?_)
        show wp (if (0 : Int) = 0 then _ else _) _
        rw [if_pos rfl, wp_bd4]
        refine w_takeWord hN hn hq (by decide) (fun _ => ?_) (fun t => absurd w18 t)
        show wp (if (1 : Int) = 0 then _ else _) _
        rw [if_neg (by decide), wp_bd6]
        refine w_readNumber hN hTT hn z2 (fun _ _ _ _ _ => ?_) (fun k3 p3 w => by rw [htn] at w; cases w)
        rw [hV]
        show wp (if V = -1 then _ else _) _
        rw [if_neg (by omega), wp_bd5]
        refine w_emit hv (by omega) (fun v2 h2 => ?_)
        show wp (if (1 : Int) = 0 then _ else _) _
        rw [if_neg (by decide), wp_bd5]
        refine w_emit h2 (show s + 1 < 600 by omega) (fun v3 h3 => ?_)
        show wp (if (1 : Int) = 0 then _ else _) _
        rw [if_neg (by decide), wp_some]
        refine hQ (s + 1 + 1) v3 ?_
        rw [trl_app, tr, show trl L ++ [V, -6] = trl L ++ [V] ++ [-6] by rw [List.append_assoc]; rfl]
        exact h3
    · have pre : ∀ (fa fp s : Int) (v : Nat → Int) (Q : R_iReader_readPart → Prop), wp (g1 N n T 40 2 q fa fp (tK T n q e) o s (tS T n q) v) (fun r => wp (if r.1 = 0 then some (0, r.2.1, r.2.2.1, r.2.2.2.1, r.2.2.2.2.1, r.2.2.2.2.2.1, r.2.2.2.2.2.2.1, r.2.2.2.2.2.2.2.1, r.2.2.2.2.2.2.2.2) else bd4 (iReader_takeMark N 60 r.2.1 r.2.2.2.2.1 n r.2.2.2.2.2.2.2.1 T) fun rc6 a6 k6 t6 => if rc6 = 0 then bd4 (iReader_takeMark N 62 a6 k6 n t6 T) fun rc7 a7 k7 t7 => if rc7 = 0 then bd4 (iReader_takeMark N 61 a7 k7 n t7 T) fun rc8 a8 k8 t8 => if rc8 = 0 then iReader_readFact_b209 N (g2 N n T d) n T 0 a8 r.2.2.1 r.2.2.2.1 k8 r.2.2.2.2.2.1 r.2.2.2.2.2.2.1 t8 r.2.2.2.2.2.2.2.2 else iReader_readFact_b209 N (g2 N n T d) n T (-15) a8 r.2.2.1 r.2.2.2.1 k8 r.2.2.2.2.2.1 r.2.2.2.2.2.2.1 t8 r.2.2.2.2.2.2.2.2 else iReader_readFact_b209 N (g2 N n T d) n T (-14) a7 r.2.2.1 r.2.2.2.1 k7 r.2.2.2.2.2.1 r.2.2.2.2.2.2.1 t7 r.2.2.2.2.2.2.2.2 else iReader_readFact_b209 N (g2 N n T d) n T (-13) a6 r.2.2.1 r.2.2.2.1 k6 r.2.2.2.2.2.1 r.2.2.2.2.2.2.1 t6 r.2.2.2.2.2.2.2.2) Q) → wp (iReader_readFact_G N (g2 N n T d) n T q fa fp (tK T n q e) o s (tS T n q) v) Q := by
        intro fa fp s v Q hb
        unfold iReader_readFact_G
        rw [wp_bd4]
        refine w_takeWord hN hn hq (by decide) (fun t => absurd t n16w) (fun _ => ?_)
        show wp (if (0 : Int) = 0 then _ else _) _
        rw [if_pos rfl, wp_bd4]
        refine w_takeMark hN hn he cM91 (fun t => absurd t n91) (fun _ => ?_)
        show wp (if (0 : Int) = 0 then _ else _) _
        rw [if_pos rfl, wp_bd4]
        refine w_takeWord hN hn hq (by decide) (fun t => absurd t w17) (fun _ => ?_)
        show wp (if (0 : Int) = 0 then _ else _) _
        rw [if_pos rfl, wp_bd4]
        refine w_takeWord hN hn hq (by decide) (fun t => absurd t w18) (fun _ => ?_)
        show wp (if (0 : Int) = 0 then _ else _) _
        rw [if_pos rfl, wp_bd9]
        exact hb
      rcases sum_both hn hTT (sum_at hN hn hTT ho hq hqq he) with ⟨q2, e2, a, r1, r2, r3, r4, r5⟩ | ⟨kd, p, r1, r5⟩
      · have cM60 : cMk 60 := cM_.2.2.2.2.2.2.2.2.1
        have cM62 : cMk 62 := cM_.2.2.2.2.2.2.2.2.2.1
        have cM61 : cMk 61 := cM_.2.2.2.2.2.2.2.2.2.2.1
        by_cases hs : ∃ c dd, sgn T n q2 c dd
        · obtain ⟨c, dd, hs⟩ := hs
          obtain ⟨htr, hc, hd0⟩ := sgn_tr hs
          have hq2 : q2 < n := by
            rcases hs with g | g | g
            · exact g.1.1
            · exact g.1.1
            · exact g.1.1
          have x1 : q2 + 1 ≤ tSk T n (q2 + 1) := lR_ge
          have x2 : tSk T n (q2 + 1) ≤ n := lR_le hq2
          have x3 : tSk T n (tSk T n (q2 + 1)) = tSk T n (q2 + 1) := lR_id
          have p3 := r2.2.2.1
          have p4 := r2.2.2.2
          have mid : ∀ (L : List Int) (fa fp s : Int) (v : Nat → Int) (Q : R_iReader_readPart → Prop), s ≤ q → cdk v s (trl L) → (∀ s2 v2, cdk v2 s2 (trl (L ++ a)) → wp (iReader_readFact_b209 N (g2 N n T d) n T dd (tSk T n (q2 + 1) : Nat) fa fp (tK T n (tSk T n (q2 + 1)) e2) o s2 (tS T n (tSk T n (q2 + 1)) : Nat) v2) Q) → wp (iReader_readFact_G N (g2 N n T d) n T q fa fp (tK T n q e) o s (tS T n q) v) Q := by
            intro L fa fp s v Q h1 hv hQ
            refine pre fa fp s v Q (r1 L fa fp s v _ h1 hv (fun s2 v2 h2 => ?_))
            have fin := hQ s2 v2 h2
            show wp (if (1 : Int) = 0 then _ else _) _
            rw [if_neg (by decide), wp_bd4]
            refine w_takeMark hN hn p3 cM60 (fun t => ?_) (fun t => ?_)
            · show wp (if (1 : Int) = 0 then _ else _) _
              rw [if_neg (by decide)]
              have : dd = -13 := by
                rcases hs with g | g | g
                · exact g.2.2
                · exact absurd g.1 (tM_u t (by decide))
                · exact absurd g.1 (tM_u t (by decide))
              rw [this] at fin
              exact fin
            · have hs := hs.resolve_left (fun g => t g.1)
              show wp (if (0 : Int) = 0 then _ else _) _
              rw [if_pos rfl, wp_bd4]
              refine w_takeMark hN hn p3 cM62 (fun t => ?_) (fun t => ?_)
              · show wp (if (1 : Int) = 0 then _ else _) _
                rw [if_neg (by decide)]
                have : dd = -14 := by
                  rcases hs with g | g
                  · exact g.2.2
                  · exact absurd g.1 (tM_u t (by decide))
                rw [this] at fin
                exact fin
              · have hs := hs.resolve_left (fun g => t g.1)
                show wp (if (0 : Int) = 0 then _ else _) _
                rw [if_pos rfl, wp_bd4]
                refine w_takeMark hN hn p3 cM61 (fun t => ?_) (fun t => absurd hs.1 t)
                show wp (if (1 : Int) = 0 then _ else _) _
                rw [if_neg (by decide)]
                rw [hs.2.2] at fin
                exact fin
          rcases sum_both hn hTT (sum_at hN hn hTT ho x2 x3 (show e2 ≤ ((tSk T n (q2 + 1) : Nat) : Int) by omega)) with ⟨q4, e4, b, u1, u2, u3, u4, u5⟩ | ⟨kd, p, u1, u5⟩
          · refine Or.inl ⟨q4, e4, a ++ b ++ [c], ?_, ⟨u2.1, u2.2.1, u2.2.2.1, ?_⟩, by omega, Ev_up (Ev_cmp r4 u4 hc) (by decide), f_c4 hn hq hqq w17 w18 r5 r2 hs u5 u2⟩
            · intro L fa fp s v Q h1 hv hQ
              refine mid L fa fp s v Q h1 hv (fun s2 v2 h2 => ?_)
              have i1 := h2.1
              have i2 := hv.1
              rw [trl_app, List.length_append] at i1
              unfold iReader_readFact_b209
              rw [if_neg hd0, wp_bd9]
              refine u1 (L ++ a) fa fp s2 v2 _ (by omega) h2 (fun s3 v3 h3 => ?_)
              have i3 := h3.1
              rw [trl_app, List.length_append] at i3
              have i4 := u2.2.2.2
              have i5 := u2.1
              have i6 := h2.1
              show wp (if (1 : Int) = 0 then _ else _) _
              rw [if_neg (by decide), wp_bd5]
              refine w_emit h3 (show s3 < 600 by omega) (fun v4 h4 => ?_)
              show wp (if (1 : Int) = 0 then _ else _) _
              rw [if_neg (by decide), wp_some]
              refine hQ (s3 + 1) v4 ?_
              rw [← List.append_assoc, ← List.append_assoc L a b, trl_app (L ++ a ++ b), trl_one, htr]
              exact h4
            · have i4 := u2.2.2.2
              rw [trl_app, trl_app, trl_one, htr, List.length_append, List.length_append]
              show (trl a).length + (trl b).length + 1 + q ≤ q4
              omega
          · refine Or.inr ⟨kd, p, ?_, f_c3 hn hq hqq w17 w18 r5 r2 hs u5⟩
            intro L fa fp s v Q h1 hv hQ
            refine mid L fa fp s v Q h1 hv (fun s2 v2 h2 => ?_)
            have i1 := h2.1
            have i2 := hv.1
            rw [trl_app, List.length_append] at i1
            unfold iReader_readFact_b209
            rw [if_neg hd0, wp_bd9]
            refine u1 (L ++ a) fa fp s2 v2 _ (by omega) h2 (fun a7 k7 o7 s7 t7 v7 => ?_)
            show wp (if (0 : Int) = 0 then _ else _) _
            rw [if_pos rfl, wp_some]
            exact hQ _ _ _ _ _ _
        · have ns : ∀ c dd, ¬ sgn T n q2 c dd := fun c dd g => hs ⟨c, dd, g⟩
          refine Or.inr ⟨1, q2, ?_, f_c2 hn hq hqq w17 w18 r5 r2 ns⟩
          intro L fa fp s v Q h1 hv hQ
          refine pre fa fp s v Q (r1 L fa fp s v _ h1 hv (fun s2 v2 h2 => ?_))
          have p3 := r2.2.2.1
          show wp (if (1 : Int) = 0 then _ else _) _
          rw [if_neg (by decide), wp_bd4]
          refine w_takeMark hN hn p3 cM60 (fun t => absurd (Or.inl ⟨t, rfl, rfl⟩) (ns 11 (-13))) (fun _ => ?_)
          show wp (if (0 : Int) = 0 then _ else _) _
          rw [if_pos rfl, wp_bd4]
          refine w_takeMark hN hn p3 cM62 (fun t => absurd (Or.inr (Or.inl ⟨t, rfl, rfl⟩)) (ns 12 (-14))) (fun _ => ?_)
          show wp (if (0 : Int) = 0 then _ else _) _
          rw [if_pos rfl, wp_bd4]
          refine w_takeMark hN hn p3 cM61 (fun t => absurd (Or.inr (Or.inr ⟨t, rfl, rfl⟩)) (ns 13 (-15))) (fun _ => ?_)
          show wp (if (0 : Int) = 0 then _ else _) _
          rw [if_pos rfl]
          unfold iReader_readFact_b209 iReader_fail
          rw [if_pos rfl, wp_bd3, wp_some, wp_gd, wp_some]
          exact ⟨(show jB 0 = true by decide), hQ _ _ _ _ _ _⟩
      · refine Or.inr ⟨kd, p, ?_, f_c1 hn hq hqq w17 w18 r5⟩
        intro L fa fp s v Q h1 hv hQ
        refine pre fa fp s v Q (r1 L fa fp s v _ h1 hv (fun a7 k7 o7 s7 t7 v7 => ?_))
        show wp (if (0 : Int) = 0 then _ else _) _
        rw [if_pos rfl, wp_some]
        exact hQ _ _ _ _ _ _
