set_option maxHeartbeats 4000000
set_option maxRecDepth 100000
theorem tW_2 {T : Nat → Int} {n a q : Nat} {e : Int} (h : tW T n a q e) : ¬ tK T n q e = 2 := fun g => by
  have h1 := tK_2.mp g
  have h2 := lD_iff.mp h1.2.1
  have h3 := lL_iff.mp h.2.1
  omega
theorem tN_2 {T : Nat → Int} {n q : Nat} {e least most : Int} (h : ¬ tK T n q e = 2) : tN T n q e least most = some (1, (q : Int)) := by
  unfold tN
  exact if_neg (fun g => h (tK_2.mpr g))
theorem sim_P [Inhabited Frm] {N n d D Ds : Nat} {T : Nat → Int} {o : Int} (hN : 5000 ≤ N) (hn : n ≤ 600) (hTT : ∀ k, 0 ≤ T k ∧ T k ≤ 255) (ho : 0 ≤ o ∧ o ≤ 6) (hD : 1 ≤ D ∧ (o ≠ 6 → Ds + 1 ≤ D)) (hS : o ≠ 6 → ∀ q e, q ≤ n → tSk T n q = q → e ≤ (q : Int) → SimS T n (g1 N n T d 2) q e (o + 1) Ds) (hW : ∀ q e, q ≤ n → tSk T n q = q → e ≤ (q : Int) → SimT T n (g1 N n T d 3) q e o D) : ∀ q e, q ≤ n → tSk T n q = q → e ≤ (q : Int) → SimP T n (g1 N n T (d + 1) 0) q e o D := by
  intro q e hq hqq he
  have unf : g1 N n T (d + 1) 0 = iReader_readPart_G N (g1 N n T d) n T := rfl
  rw [unf]
  have z0 := tS_le (T := T) (n := n) (q := q) hq
  have z1 : tS T n q ≤ tSk T n (tS T n q) := lR_ge
  have z2 : tSk T n (tS T n q) ≤ n := lR_le z0.2.1
  have z3 : tSk T n (tSk T n (tS T n q)) = tSk T n (tS T n q) := lR_id
  by_cases k2 : tK T n q e = 2
  · obtain ⟨d1, d2, d3⟩ := tK_2.mp k2
    have t40 : ¬ tM T n q 40 := fun g => by
      have := lD_iff.mp d2
      rw [g.2] at this
      omega
    have nw : ∀ a, 4 ≤ a → a ≤ 9 → ¬ tW T n a q e := fun a _ _ g => tW_2 g k2
    cases htn : tN T n q e 0 99999 with
    | some kp =>
      obtain ⟨kd, p⟩ := kp
      refine Or.inr ⟨kd, p, ?_, ?_⟩
      · intro L fa fp s v Q hs hv hQ
        unfold iReader_readPart_G
        rw [if_pos k2, wp_bd6]
        refine w_readNumber hN hTT hn hq (fun w => by rw [htn] at w; cases w) (fun k3 p3 w => ?_)
        rw [htn] at w
        cases w
        show wp (if (-1 : Int) = -1 then _ else _) _
        rw [if_pos rfl, wp_some]
        exact hQ _ _ _ _ _ _
      · intro C L S hf g
        obtain ⟨f1, f2, f3, f4, f5⟩ := hf
        subst f2
        subst f3
        refine ra_num f1 (by omega) t40 nw (fun k3 p3 w => ?_) (fun w => by rw [htn] at w; cases w)
        rw [htn] at w
        cases w
        exact g
    | none =>
      obtain ⟨_, a2, a3, a4⟩ := tN_ok htn
      obtain ⟨r, hr, u, q2, e2, hun, hu, u1, u2, u3, u4, hre⟩ := w_unit (Q := fun r => ∃ u q2 e2, un T n (tSk T n (tS T n q)) (tS T n q : Nat) u q2 e2 ∧ (u = 240 ∨ u = 12 ∨ u = 1) ∧ tSk T n (tS T n q) ≤ q2 ∧ q2 ≤ n ∧ tSk T n q2 = q2 ∧ e2 ≤ q2 ∧ r = (u, (q2 : Int), tK T n q2 e2, (tS T n q2 : Int))) hN hn z2 z3 (show ((tS T n q : Nat) : Int) ≤ _ by omega) (fun u q2 e2 x1 x2 x3 x4 x5 x6 => ⟨u, q2, e2, x1, x2, x3, x4, x5, x6, rfl⟩)
      have z4 := z0.2.2 d1
      generalize hV : dV T q (tS T n q - q) = V at *
      have hx : 0 ≤ V * u ∧ V * u ≤ 24000000 := by
        rcases hu with g | g | g
        · rw [g]
          omega
        · rw [g]
          omega
        · rw [g]
          omega
      have tr : trl [1000 + V * u] = [V * u] := by rw [trl_one, trc_num hx.1]
      refine Or.inl ⟨q2, e2, [1000 + V * u], ?_, ⟨u2, u3, u4, by rw [tr]; show 1 + q ≤ q2; omega⟩, by omega, Ev_up (Ev_num hx) hD.1, ?_⟩
      · intro L fa fp s v Q hs hv hQ
        unfold iReader_readPart_G
        rw [if_pos k2, wp_bd6]
        refine w_readNumber hN hTT hn hq (fun _ _ _ _ _ => ?_) (fun k3 p3 w => by rw [htn] at w; cases w)
        rw [hV]
        show wp (if V = -1 then _ else _) _
        rw [if_neg (by omega), wp_bd4]
        show wp (iReader_takeUnit N (tSk T n (tS T n q) : Nat) (tK T n (tSk T n (tS T n q)) (tS T n q : Nat)) n (tS T n (tSk T n (tS T n q)) : Nat) T) _
        rw [hr, hre, wp_some]
        show wp (gd (jr (V * u)) _) _
        rw [wp_gd, wp_bd5]
        refine ⟨jr_iff.mpr (by omega), w_emit hv (by omega) (fun v2 h2 => ?_)⟩
        show wp (if (1 : Int) = 0 then _ else _) _
        rw [if_neg (by decide), wp_some]
        exact hQ (s + 1) v2 (by rw [trl_app, tr]; exact h2)
      · intro C L S hf g
        obtain ⟨f1, f2, f3, f4, f5⟩ := hf
        subst f2
        subst f3
        refine ra_num f1 (by omega) t40 nw (fun k3 p3 w => by rw [htn] at w; cases w) (fun _ u5 q5 e5 h5 => ?_)
        obtain ⟨i1, i2, i3⟩ := un_u hun h5
        subst i1
        subst i2
        subst i3
        rw [hV]
        exact g
  · by_cases t40 : tM T n q 40
    · have y1 : q + 1 ≤ tSk T n (q + 1) := lR_ge
      have y2 : tSk T n (q + 1) ≤ n := lR_le t40.1
      have y3 : tSk T n (tSk T n (q + 1)) = tSk T n (q + 1) := lR_id
      by_cases h6 : o = 6
      · refine Or.inr ⟨3, q, ?_, ?_⟩
        · intro L fa fp s v Q hs hv hQ
          unfold iReader_readPart_G
          rw [if_neg k2, wp_bd4]
          refine w_takeMark hN hn he cM40 (fun _ => ?_) (fun t => absurd t40 t)
          show wp (if (1 : Int) = 0 then _ else _) _
          rw [if_neg (by decide), wp_bd4]
          refine w_kop ho (fun _ => ?_) (fun w => absurd h6 w)
          show wp (if (0 : Int) = 0 then _ else _) _
          rw [if_pos rfl, wp_some]
          exact hQ _ _ _ _ _ _
        · intro C L S hf g
          obtain ⟨f1, f2, f3, f4, f5⟩ := hf
          subst f2
          subst f3
          exact ra_open f1 (by omega) (by omega) ho t40 (fun _ => g) (fun w => absurd h6 w)
      · have c1 : ∀ (fa fp s : Int) (v : Nat → Int) (Q : R_iReader_readPart → Prop), wp (g1 N n T d 2 (tSk T n (q + 1) : Nat) fa fp (tK T n (tSk T n (q + 1)) e) (o + 1) s (tS T n (tSk T n (q + 1)) : Nat) v) (fun r => wp (if r.1 = 0 then some (0, r.2.1, r.2.2.1, r.2.2.2.1, r.2.2.2.2.1, r.2.2.2.2.2.1, r.2.2.2.2.2.2.1, r.2.2.2.2.2.2.2.1, r.2.2.2.2.2.2.2.2) else bd6 (iReader_needMark N 41 r.2.1 r.2.2.1 r.2.2.2.1 r.2.2.2.2.1 n r.2.2.2.2.2.2.2.1 T) fun rc6 a6 fa6 fp6 kd6 st6 => if rc6 = 0 then some (0, a6, fa6, fp6, kd6, r.2.2.2.2.2.1, r.2.2.2.2.2.2.1, st6, r.2.2.2.2.2.2.2.2) else bd2 (iReader_closes r.2.2.2.2.2.1) fun rc7 o7 => if rc7 = 0 then some (0, a6, fa6, fp6, kd6, o7, r.2.2.2.2.2.2.1, st6, r.2.2.2.2.2.2.2.2) else some (1, a6, fa6, fp6, kd6, o7, r.2.2.2.2.2.2.1, st6, r.2.2.2.2.2.2.2.2)) Q) → wp (iReader_readPart_G N (g1 N n T d) n T q fa fp (tK T n q e) o s (tS T n q) v) Q := by
          intro fa fp s v Q hb
          unfold iReader_readPart_G
          rw [if_neg k2, wp_bd4]
          refine w_takeMark hN hn he cM40 (fun _ => ?_) (fun t => absurd t40 t)
          show wp (if (1 : Int) = 0 then _ else _) _
          rw [if_neg (by decide), wp_bd4]
          refine w_kop ho (fun w => absurd w h6) (fun _ => ?_)
          show wp (if (1 : Int) = 0 then _ else _) _
          rw [if_neg (by decide), wp_bd9]
          exact hb
        have b1 : ∀ C L S, fit C T n q L S → RA C L (20 :: S) (tSk T n (q + 1)) e (o + 1) → RA C L S q e o := by
          intro C L S hf g
          obtain ⟨f1, f2, f3, f4, f5⟩ := hf
          subst f2
          subst f3
          exact ra_open f1 (by omega) (by omega) ho t40 (fun w => absurd w h6) (fun _ => g)
        have fit1 : ∀ C L S, fit C T n q L S → fit C T n (tSk T n (q + 1)) L (20 :: S) := by
          intro C L S hf
          obtain ⟨f1, f2, f3, f4, f5⟩ := hf
          exact ⟨f1, f2, f3, (show (S ++ C.B).length + 1 ≤ _ by omega), (show L.length + ((S ++ C.B).length + 1) ≤ _ by omega)⟩
        rcases hS h6 (tSk T n (q + 1)) e y2 y3 (by omega) with ⟨q2, e2, a, r1, r2, r3, r4, r5, r6⟩ | ⟨kd, p, r1, r6⟩
        · obtain ⟨p1, p2, p3, p4⟩ := r2
          have la : a.length ≤ (trl a).length := trl_len a
          have D2 := hD.2 h6
          by_cases t41 : tM T n q2 41
          · have v1 : q2 + 1 ≤ tSk T n (q2 + 1) := lR_ge
            have v2 : tSk T n (q2 + 1) ≤ n := lR_le t41.1
            have v3 : tSk T n (tSk T n (q2 + 1)) = tSk T n (q2 + 1) := lR_id
            refine Or.inl ⟨tSk T n (q2 + 1), e2, a, ?_, ⟨v2, v3, by omega, by omega⟩, by omega, Ev_up r4 (by omega), ?_⟩
            · intro L fa fp s v Q hs hv hQ
              refine c1 fa fp s v Q (r1 L fa fp s v _ (by omega) hv (fun s2 v2 h2 => ?_))
              show wp (if (1 : Int) = 0 then _ else _) _
              rw [if_neg (by decide), wp_bd6]
              refine w_needM hN hn p3 cM_.1 (fun _ => ?_) (fun t => absurd t41 t)
              show wp (if (1 : Int) = 0 then _ else _) _
              rw [if_neg (by decide), wp_bd2]
              refine w_kcl (show 0 ≤ o + 1 ∧ o + 1 ≤ 6 by omega) ?_
              show wp (if (1 : Int) = 0 then _ else _) _
              rw [if_neg (by decide), wp_some]
              have := hQ s2 v2 h2
              show Q (1, _, _, _, _, o + 1 - 1, _, _, _)
              rw [show o + 1 - 1 = o by omega]
              exact this
            · intro C L S hf g
              refine b1 C L S hf (r6 C L (20 :: S) (fit1 C L S hf) (nt_c (by decide)) ?_)
              intro L1 P hLP hP1 hP2
              obtain ⟨m1, m2, m3⟩ := mk_s (S := S) (L1 := L1) (c := 20) (by decide) hP2 hP1
              have e1 : (L ++ a).length = (L1 ++ P).length := by rw [hLP]
              rw [List.length_append, List.length_append] at e1
              obtain ⟨f1, f2, f3, f4, f5⟩ := hf
              subst f2
              subst f3
              refine rb_close f1 (S2 := S) (c := 20) (by rw [List.append_assoc, List.length_append]; show P.length + ((S ++ C.B).length + 1) ≤ 700; omega) (by omega) (by omega) t41 (Or.inl rfl) m1 m2 ?_
              rw [m3, ← hLP, show clo 20 = [] from rfl, List.append_nil, show o + 1 - 1 = o by omega]
              exact g
          · refine Or.inr ⟨1, q2, ?_, ?_⟩
            · intro L fa fp s v Q hs hv hQ
              refine c1 fa fp s v Q (r1 L fa fp s v _ (by omega) hv (fun s2 v2 h2 => ?_))
              show wp (if (1 : Int) = 0 then _ else _) _
              rw [if_neg (by decide), wp_bd6]
              refine w_needM hN hn p3 cM_.1 (fun t => absurd t t41) (fun _ => ?_)
              show wp (if (0 : Int) = 0 then _ else _) _
              rw [if_pos rfl, wp_some]
              exact hQ _ _ _ _ _ _
            · intro C L S hf g
              refine b1 C L S hf (r6 C L (20 :: S) (fit1 C L S hf) (nt_c (by decide)) ?_)
              intro L1 P hLP hP1 hP2
              obtain ⟨m1, m2, m3⟩ := mk_s (S := S) (L1 := L1) (c := 20) (by decide) hP2 hP1
              obtain ⟨f1, f2, f3, f4, f5⟩ := hf
              subst f2
              subst f3
              exact rb_fail f1 (by rw [List.append_assoc, List.length_append]; show P.length + ((S ++ C.B).length + 1) ≤ 700; omega) (len_l hLP (by rw [List.length_append]; omega)) r5 (by rw [m1]; decide) (fun _ => t41) (fun w => by rw [m1] at w; omega) g
        · refine Or.inr ⟨kd, p, ?_, fun C L S hf g => b1 C L S hf (r6 C L (20 :: S) (fit1 C L S hf) (nt_c (by decide)) g)⟩
          intro L fa fp s v Q hs hv hQ
          refine c1 fa fp s v Q (r1 L fa fp s v _ (by omega) hv (fun a7 k7 o7 s7 t7 v7 => ?_))
          show wp (if (0 : Int) = 0 then _ else _) _
          rw [if_pos rfl, wp_some]
          exact hQ _ _ _ _ _ _
    · by_cases w4 : tW T n 4 q e
      · have y4 := z0.2.2 w4.1
        rcases hW (tSk T n (tS T n q)) (tS T n q : Nat) z2 z3 (show ((tS T n q : Nat) : Int) ≤ _ by omega) with ⟨q2, e2, l, r1, r2, r4, r6⟩ | ⟨kd, p, r1, r6⟩
        · obtain ⟨p1, p2, p3, p4⟩ := r2
          have lt : (trl (l ++ [5])).length = (trl l).length + 1 := by
            rw [trl_app, List.length_append]
            rfl
          refine Or.inl ⟨q2, e2, l ++ [5], ?_, ⟨p1, p2, p3, by rw [lt]; omega⟩, by omega, r4.1, ?_⟩
          · intro L fa fp s v Q hs hv hQ
            unfold iReader_readPart_G
            rw [if_neg k2]
            rw [wp_bd4]
            refine w_takeMark hN hn he cM40 (fun t => absurd t t40) (fun _ => ?_)
            show wp (if (0 : Int) = 0 then _ else _) _
            rw [if_pos rfl]
            rw [wp_bd4]
            refine w_takeWord hN hn hq (by decide) (fun _ => ?_) (fun t => absurd w4 t)
            show wp (if (1 : Int) = 0 then _ else _) _
            rw [if_neg (by decide)]
            rw [wp_bd9]
            refine r1 L fa fp s v _ (by omega) hv (fun s2 v2 h2 => ?_)
            have i1 := h2.1
            have i2 := hv.1
            rw [trl_app, List.length_append] at i1
            show wp (if (1 : Int) = 0 then _ else _) _
            rw [if_neg (by decide), wp_bd5]
            refine w_emit h2 (show s2 < 600 by omega) (fun v3 h3 => ?_)
            show wp (if (1 : Int) = 0 then _ else _) _
            rw [if_neg (by decide), wp_some]
            refine hQ (s2 + 1) v3 ?_
            rw [← List.append_assoc, trl_app (L ++ l)]
            exact h3
          · intro C L S hf g
            obtain ⟨f1, f2, f3, f4, f5⟩ := hf
            have tw := r6 C L S 21 ⟨f1, f2, f3, by omega, by omega⟩ (by omega) (Or.inl rfl) g
            subst f2
            subst f3
            exact ra_two f1 (by omega) (by omega) ho (Or.inl ⟨w4, rfl⟩) rfl rfl tw.1 tw.2.1 tw.2.2
        · refine Or.inr ⟨kd, p, ?_, ?_⟩
          · intro L fa fp s v Q hs hv hQ
            unfold iReader_readPart_G
            rw [if_neg k2]
            rw [wp_bd4]
            refine w_takeMark hN hn he cM40 (fun t => absurd t t40) (fun _ => ?_)
            show wp (if (0 : Int) = 0 then _ else _) _
            rw [if_pos rfl]
            rw [wp_bd4]
            refine w_takeWord hN hn hq (by decide) (fun _ => ?_) (fun t => absurd w4 t)
            show wp (if (1 : Int) = 0 then _ else _) _
            rw [if_neg (by decide)]
            rw [wp_bd9]
            refine r1 L fa fp s v _ (by omega) hv (fun a7 k7 o7 s7 t7 v7 => ?_)
            show wp (if (0 : Int) = 0 then _ else _) _
            rw [if_pos rfl, wp_some]
            exact hQ _ _ _ _ _ _
          · intro C L S hf g
            obtain ⟨f1, f2, f3, f4, f5⟩ := hf
            have tw := r6 C L S 21 ⟨f1, f2, f3, by omega, by omega⟩ (by omega) (Or.inl rfl) g
            subst f2
            subst f3
            exact ra_two f1 (by omega) (by omega) ho (Or.inl ⟨w4, rfl⟩) rfl rfl tw.1 tw.2.1 tw.2.2
      · by_cases w5 : tW T n 5 q e
        · have y4 := z0.2.2 w5.1
          rcases hW (tSk T n (tS T n q)) (tS T n q : Nat) z2 z3 (show ((tS T n q : Nat) : Int) ≤ _ by omega) with ⟨q2, e2, l, r1, r2, r4, r6⟩ | ⟨kd, p, r1, r6⟩
          · obtain ⟨p1, p2, p3, p4⟩ := r2
            have lt : (trl (l ++ [6])).length = (trl l).length + 1 := by
              rw [trl_app, List.length_append]
              rfl
            refine Or.inl ⟨q2, e2, l ++ [6], ?_, ⟨p1, p2, p3, by rw [lt]; omega⟩, by omega, r4.2, ?_⟩
            · intro L fa fp s v Q hs hv hQ
              unfold iReader_readPart_G
              rw [if_neg k2]
              rw [wp_bd4]
              refine w_takeMark hN hn he cM40 (fun t => absurd t t40) (fun _ => ?_)
              show wp (if (0 : Int) = 0 then _ else _) _
              rw [if_pos rfl]
              rw [wp_bd4]
              refine w_takeWord hN hn hq (by decide) (fun t => absurd t w4) (fun _ => ?_)
              show wp (if (0 : Int) = 0 then _ else _) _
              rw [if_pos rfl]
              rw [wp_bd4]
              refine w_takeWord hN hn hq (by decide) (fun _ => ?_) (fun t => absurd w5 t)
              show wp (if (1 : Int) = 0 then _ else _) _
              rw [if_neg (by decide)]
              rw [wp_bd9]
              refine r1 L fa fp s v _ (by omega) hv (fun s2 v2 h2 => ?_)
              have i1 := h2.1
              have i2 := hv.1
              rw [trl_app, List.length_append] at i1
              show wp (if (1 : Int) = 0 then _ else _) _
              rw [if_neg (by decide), wp_bd5]
              refine w_emit h2 (show s2 < 600 by omega) (fun v3 h3 => ?_)
              show wp (if (1 : Int) = 0 then _ else _) _
              rw [if_neg (by decide), wp_some]
              refine hQ (s2 + 1) v3 ?_
              rw [← List.append_assoc, trl_app (L ++ l)]
              exact h3
            · intro C L S hf g
              obtain ⟨f1, f2, f3, f4, f5⟩ := hf
              have tw := r6 C L S 22 ⟨f1, f2, f3, by omega, by omega⟩ (by omega) (Or.inr rfl) g
              subst f2
              subst f3
              exact ra_two f1 (by omega) (by omega) ho (Or.inr ⟨w4, w5, rfl⟩) rfl rfl tw.1 tw.2.1 tw.2.2
          · refine Or.inr ⟨kd, p, ?_, ?_⟩
            · intro L fa fp s v Q hs hv hQ
              unfold iReader_readPart_G
              rw [if_neg k2]
              rw [wp_bd4]
              refine w_takeMark hN hn he cM40 (fun t => absurd t t40) (fun _ => ?_)
              show wp (if (0 : Int) = 0 then _ else _) _
              rw [if_pos rfl]
              rw [wp_bd4]
              refine w_takeWord hN hn hq (by decide) (fun t => absurd t w4) (fun _ => ?_)
              show wp (if (0 : Int) = 0 then _ else _) _
              rw [if_pos rfl]
              rw [wp_bd4]
              refine w_takeWord hN hn hq (by decide) (fun _ => ?_) (fun t => absurd w5 t)
              show wp (if (1 : Int) = 0 then _ else _) _
              rw [if_neg (by decide)]
              rw [wp_bd9]
              refine r1 L fa fp s v _ (by omega) hv (fun a7 k7 o7 s7 t7 v7 => ?_)
              show wp (if (0 : Int) = 0 then _ else _) _
              rw [if_pos rfl, wp_some]
              exact hQ _ _ _ _ _ _
            · intro C L S hf g
              obtain ⟨f1, f2, f3, f4, f5⟩ := hf
              have tw := r6 C L S 22 ⟨f1, f2, f3, by omega, by omega⟩ (by omega) (Or.inr rfl) g
              subst f2
              subst f3
              exact ra_two f1 (by omega) (by omega) ho (Or.inr ⟨w4, w5, rfl⟩) rfl rfl tw.1 tw.2.1 tw.2.2
        · by_cases w6 : tW T n 6 q e
          · have y4 := z0.2.2 w6.1
            refine Or.inl ⟨tSk T n (tS T n q), (tS T n q : Nat), [7], ?_, ⟨z2, z3, (show ((tS T n q : Nat) : Int) ≤ _ by omega), (show 1 + q ≤ _ by omega)⟩, by omega, Ev_up (Ev_env (Or.inl rfl)) hD.1, ?_⟩
            · intro L fa fp s v Q hs hv hQ
              unfold iReader_readPart_G
              rw [if_neg k2]
              rw [wp_bd4]
              refine w_takeMark hN hn he cM40 (fun t => absurd t t40) (fun _ => ?_)
              show wp (if (0 : Int) = 0 then _ else _) _
              rw [if_pos rfl]
              rw [wp_bd4]
              refine w_takeWord hN hn hq (by decide) (fun t => absurd t w4) (fun _ => ?_)
              show wp (if (0 : Int) = 0 then _ else _) _
              rw [if_pos rfl]
              rw [wp_bd4]
              refine w_takeWord hN hn hq (by decide) (fun t => absurd t w5) (fun _ => ?_)
              show wp (if (0 : Int) = 0 then _ else _) _
              rw [if_pos rfl]
              rw [wp_bd4]
              refine w_takeWord hN hn hq (by decide) (fun _ => ?_) (fun t => absurd w6 t)
              show wp (if (1 : Int) = 0 then _ else _) _
              rw [if_neg (by decide)]
              unfold iReader_readPart_b209
              rw [if_neg (by decide), wp_bd5]
              refine w_emit hv (by omega) (fun v2 h2 => ?_)
              rw [wp_gd, wp_some]
              refine ⟨(show jB 1 = true by decide), hQ (s + 1) v2 ?_⟩
              rw [trl_app]
              exact h2
            · intro C L S hf g
              obtain ⟨f1, f2, f3, f4, f5⟩ := hf
              subst f2
              subst f3
              exact ra_atom f1 (by omega) t40 w4 w5 (Or.inl ⟨w6, rfl⟩) g
          · by_cases w7 : tW T n 7 q e
            · have y4 := z0.2.2 w7.1
              refine Or.inl ⟨tSk T n (tS T n q), (tS T n q : Nat), [8], ?_, ⟨z2, z3, (show ((tS T n q : Nat) : Int) ≤ _ by omega), (show 1 + q ≤ _ by omega)⟩, by omega, Ev_up (Ev_env (Or.inr (Or.inl rfl))) hD.1, ?_⟩
              · intro L fa fp s v Q hs hv hQ
                unfold iReader_readPart_G
                rw [if_neg k2]
                rw [wp_bd4]
                refine w_takeMark hN hn he cM40 (fun t => absurd t t40) (fun _ => ?_)
                show wp (if (0 : Int) = 0 then _ else _) _
                rw [if_pos rfl]
                rw [wp_bd4]
                refine w_takeWord hN hn hq (by decide) (fun t => absurd t w4) (fun _ => ?_)
                show wp (if (0 : Int) = 0 then _ else _) _
                rw [if_pos rfl]
                rw [wp_bd4]
                refine w_takeWord hN hn hq (by decide) (fun t => absurd t w5) (fun _ => ?_)
                show wp (if (0 : Int) = 0 then _ else _) _
                rw [if_pos rfl]
                rw [wp_bd4]
                refine w_takeWord hN hn hq (by decide) (fun t => absurd t w6) (fun _ => ?_)
                show wp (if (0 : Int) = 0 then _ else _) _
                rw [if_pos rfl]
                rw [wp_bd4]
                refine w_takeWord hN hn hq (by decide) (fun _ => ?_) (fun t => absurd w7 t)
                show wp (if (1 : Int) = 0 then _ else _) _
                rw [if_neg (by decide)]
                unfold iReader_readPart_b209
                rw [if_neg (by decide), wp_bd5]
                refine w_emit hv (by omega) (fun v2 h2 => ?_)
                rw [wp_gd, wp_some]
                refine ⟨(show jB 1 = true by decide), hQ (s + 1) v2 ?_⟩
                rw [trl_app]
                exact h2
              · intro C L S hf g
                obtain ⟨f1, f2, f3, f4, f5⟩ := hf
                subst f2
                subst f3
                exact ra_atom f1 (by omega) t40 w4 w5 (Or.inr ⟨w6, Or.inl ⟨w7, rfl⟩⟩) g
            · by_cases w8 : tW T n 8 q e
              · have y4 := z0.2.2 w8.1
                refine Or.inl ⟨tSk T n (tS T n q), (tS T n q : Nat), [9], ?_, ⟨z2, z3, (show ((tS T n q : Nat) : Int) ≤ _ by omega), (show 1 + q ≤ _ by omega)⟩, by omega, Ev_up (Ev_env (Or.inr (Or.inr (Or.inl rfl)))) hD.1, ?_⟩
                · intro L fa fp s v Q hs hv hQ
                  unfold iReader_readPart_G
                  rw [if_neg k2]
                  rw [wp_bd4]
                  refine w_takeMark hN hn he cM40 (fun t => absurd t t40) (fun _ => ?_)
                  show wp (if (0 : Int) = 0 then _ else _) _
                  rw [if_pos rfl]
                  rw [wp_bd4]
                  refine w_takeWord hN hn hq (by decide) (fun t => absurd t w4) (fun _ => ?_)
                  show wp (if (0 : Int) = 0 then _ else _) _
                  rw [if_pos rfl]
                  rw [wp_bd4]
                  refine w_takeWord hN hn hq (by decide) (fun t => absurd t w5) (fun _ => ?_)
                  show wp (if (0 : Int) = 0 then _ else _) _
                  rw [if_pos rfl]
                  rw [wp_bd4]
                  refine w_takeWord hN hn hq (by decide) (fun t => absurd t w6) (fun _ => ?_)
                  show wp (if (0 : Int) = 0 then _ else _) _
                  rw [if_pos rfl]
                  rw [wp_bd4]
                  refine w_takeWord hN hn hq (by decide) (fun t => absurd t w7) (fun _ => ?_)
                  show wp (if (0 : Int) = 0 then _ else _) _
                  rw [if_pos rfl]
                  rw [wp_bd4]
                  refine w_takeWord hN hn hq (by decide) (fun _ => ?_) (fun t => absurd w8 t)
                  show wp (if (1 : Int) = 0 then _ else _) _
                  rw [if_neg (by decide)]
                  unfold iReader_readPart_b209
                  rw [if_neg (by decide), wp_bd5]
                  refine w_emit hv (by omega) (fun v2 h2 => ?_)
                  rw [wp_gd, wp_some]
                  refine ⟨(show jB 1 = true by decide), hQ (s + 1) v2 ?_⟩
                  rw [trl_app]
                  exact h2
                · intro C L S hf g
                  obtain ⟨f1, f2, f3, f4, f5⟩ := hf
                  subst f2
                  subst f3
                  exact ra_atom f1 (by omega) t40 w4 w5 (Or.inr ⟨w6, Or.inr ⟨w7, Or.inl ⟨w8, rfl⟩⟩⟩) g
              · by_cases w9 : tW T n 9 q e
                · have y4 := z0.2.2 w9.1
                  refine Or.inl ⟨tSk T n (tS T n q), (tS T n q : Nat), [10], ?_, ⟨z2, z3, (show ((tS T n q : Nat) : Int) ≤ _ by omega), (show 1 + q ≤ _ by omega)⟩, by omega, Ev_up (Ev_env (Or.inr (Or.inr (Or.inr rfl)))) hD.1, ?_⟩
                  · intro L fa fp s v Q hs hv hQ
                    unfold iReader_readPart_G
                    rw [if_neg k2]
                    rw [wp_bd4]
                    refine w_takeMark hN hn he cM40 (fun t => absurd t t40) (fun _ => ?_)
                    show wp (if (0 : Int) = 0 then _ else _) _
                    rw [if_pos rfl]
                    rw [wp_bd4]
                    refine w_takeWord hN hn hq (by decide) (fun t => absurd t w4) (fun _ => ?_)
                    show wp (if (0 : Int) = 0 then _ else _) _
                    rw [if_pos rfl]
                    rw [wp_bd4]
                    refine w_takeWord hN hn hq (by decide) (fun t => absurd t w5) (fun _ => ?_)
                    show wp (if (0 : Int) = 0 then _ else _) _
                    rw [if_pos rfl]
                    rw [wp_bd4]
                    refine w_takeWord hN hn hq (by decide) (fun t => absurd t w6) (fun _ => ?_)
                    show wp (if (0 : Int) = 0 then _ else _) _
                    rw [if_pos rfl]
                    rw [wp_bd4]
                    refine w_takeWord hN hn hq (by decide) (fun t => absurd t w7) (fun _ => ?_)
                    show wp (if (0 : Int) = 0 then _ else _) _
                    rw [if_pos rfl]
                    rw [wp_bd4]
                    refine w_takeWord hN hn hq (by decide) (fun t => absurd t w8) (fun _ => ?_)
                    show wp (if (0 : Int) = 0 then _ else _) _
                    rw [if_pos rfl]
                    rw [wp_bd4]
                    refine w_takeWord hN hn hq (by decide) (fun _ => ?_) (fun t => absurd w9 t)
                    show wp (if (1 : Int) = 0 then _ else _) _
                    rw [if_neg (by decide)]
                    unfold iReader_readPart_b209
                    rw [if_neg (by decide), wp_bd5]
                    refine w_emit hv (by omega) (fun v2 h2 => ?_)
                    rw [wp_gd, wp_some]
                    refine ⟨(show jB 1 = true by decide), hQ (s + 1) v2 ?_⟩
                    rw [trl_app]
                    exact h2
                  · intro C L S hf g
                    obtain ⟨f1, f2, f3, f4, f5⟩ := hf
                    subst f2
                    subst f3
                    exact ra_atom f1 (by omega) t40 w4 w5 (Or.inr ⟨w6, Or.inr ⟨w7, Or.inr ⟨w8, w9, rfl⟩⟩⟩) g
                · refine Or.inr ⟨1, q, ?_, ?_⟩
                  · intro L fa fp s v Q hs hv hQ
                    unfold iReader_readPart_G
                    rw [if_neg k2]
                    rw [wp_bd4]
                    refine w_takeMark hN hn he cM40 (fun t => absurd t t40) (fun _ => ?_)
                    show wp (if (0 : Int) = 0 then _ else _) _
                    rw [if_pos rfl]
                    rw [wp_bd4]
                    refine w_takeWord hN hn hq (by decide) (fun t => absurd t w4) (fun _ => ?_)
                    show wp (if (0 : Int) = 0 then _ else _) _
                    rw [if_pos rfl]
                    rw [wp_bd4]
                    refine w_takeWord hN hn hq (by decide) (fun t => absurd t w5) (fun _ => ?_)
                    show wp (if (0 : Int) = 0 then _ else _) _
                    rw [if_pos rfl]
                    rw [wp_bd4]
                    refine w_takeWord hN hn hq (by decide) (fun t => absurd t w6) (fun _ => ?_)
                    show wp (if (0 : Int) = 0 then _ else _) _
                    rw [if_pos rfl]
                    rw [wp_bd4]
                    refine w_takeWord hN hn hq (by decide) (fun t => absurd t w7) (fun _ => ?_)
                    show wp (if (0 : Int) = 0 then _ else _) _
                    rw [if_pos rfl]
                    rw [wp_bd4]
                    refine w_takeWord hN hn hq (by decide) (fun t => absurd t w8) (fun _ => ?_)
                    show wp (if (0 : Int) = 0 then _ else _) _
                    rw [if_pos rfl]
                    rw [wp_bd4]
                    refine w_takeWord hN hn hq (by decide) (fun t => absurd t w9) (fun _ => ?_)
                    show wp (if (0 : Int) = 0 then _ else _) _
                    rw [if_pos rfl]
                    unfold iReader_readPart_b209 iReader_fail
                    rw [if_pos rfl, wp_bd3, wp_some, wp_gd, wp_some]
                    exact ⟨(show jB 0 = true by decide), hQ _ _ _ _ _ _⟩
                  · intro C L S hf g
                    obtain ⟨f1, f2, f3, f4, f5⟩ := hf
                    subst f2
                    subst f3
                    have tn := tN_2 (least := 0) (most := 99999) k2
                    refine ra_num f1 (by omega) t40 (fun a h4 h9 => ?_) (fun k3 p3 w => ?_) (fun w => by rw [tn] at w; cases w)
                    · have ha : a = 4 ∨ a = 5 ∨ a = 6 ∨ a = 7 ∨ a = 8 ∨ a = 9 := by omega
                      rcases ha with x | x | x | x | x | x
                      · subst x
                        exact w4
                      · subst x
                        exact w5
                      · subst x
                        exact w6
                      · subst x
                        exact w7
                      · subst x
                        exact w8
                      · subst x
                        exact w9
                    · rw [tn] at w
                      cases w
                      exact g
