set_option maxHeartbeats 4000000
set_option maxRecDepth 100000
theorem cM91 : cMk 91 := by unfold cMk; decide
theorem cM93 : cMk 93 := by unfold cMk; decide
theorem n25_t {L1 P S : List Int} (h : ∀ x, x ∈ P → x = 14 ∨ x = 15) : tkw n25 (P ++ 25 :: S) = P ∧ drw n25 (P ++ 25 :: S) = 25 :: S ∧ tkw n16 (P ++ 25 :: S) = [] ∧ drw n16 (P ++ 25 :: S) = P ++ 25 :: S ∧ 25 ∈ P ++ 25 :: S := by
  have t := tkw_t (f := n25) (W := 25 :: S) (P := P) (fun x V hxV hx => by
    have e1 := (List.cons.inj hxV).1
    exact (n25_iff.mp hx) e1.symm) (fun x hx => n25_iff.mpr (by have := h x hx; omega))
  refine ⟨t.1, t.2, ?_, ?_, List.mem_append.mpr (Or.inr (List.mem_cons_self ..))⟩
  · cases P with
    | nil => exact tkw_n (by decide)
    | cons x P => exact tkw_n (fun g => by have := n16_iff.mp g; have := h x (List.mem_cons_self ..); omega)
  · cases P with
    | nil => exact drw_n (by decide)
    | cons x P => exact drw_n (fun g => by have := n16_iff.mp g; have := h x (List.mem_cons_self ..); omega)
theorem sim_sq [Inhabited Frm] {N n d D : Nat} {T : Nat → Int} {o : Int} (hN : 5000 ≤ N) (hn : n ≤ 600) (ho : 0 ≤ o ∧ o ≤ 6) (hV : o ≠ 6 → ∀ q e, q ≤ n → tSk T n q = q → e ≤ (q : Int) → SimV T n (g2 N n T d 2) q e (o + 1) D) {q : Nat} {e : Int} (hq : q ≤ n) (hqq : tSk T n q = q) (he : e ≤ (q : Int)) (t91 : tM T n q 91) : SimF T n (iReader_readFact_G N (g2 N n T d) n T) q e o D := by
  have n16w : ¬ tW T n 16 q e := fun g => tW_m g cM91 t91
  have y1 : q + 1 ≤ tSk T n (q + 1) := lR_ge
  have y2 : tSk T n (q + 1) ≤ n := lR_le t91.1
  have y3 : tSk T n (tSk T n (q + 1)) = tSk T n (q + 1) := lR_id
  by_cases h6 : o = 6
  · refine Or.inr ⟨3, q, ?_, fun C L S hf hnt g => ?_⟩
    · intro L fa fp s v Q hs hv hQ
      unfold iReader_readFact_G
      rw [wp_bd4]
      refine w_takeWord hN hn hq (by decide) (fun t => absurd t n16w) (fun _ => ?_)
      show wp (if (0 : Int) = 0 then _ else _) _
      rw [if_pos rfl, wp_bd4]
      refine w_takeMark hN hn he cM91 (fun _ => ?_) (fun t => absurd t91 t)
      show wp (if (1 : Int) = 0 then _ else _) _
      rw [if_neg (by decide), wp_bd4]
      refine w_kop ho (fun _ => ?_) (fun w => absurd h6 w)
      show wp (if (0 : Int) = 0 then _ else _) _
      rw [if_pos rfl, wp_some]
      exact hQ _ _ _ _ _ _
    · obtain ⟨f1, f2, f3, f4, f5⟩ := hf
      subst f2
      subst f3
      exact ta_sq f1 (by omega) (by omega) ho t91 (fun _ => g) (fun w => absurd h6 w)
  · have c1 : ∀ (fa fp s : Int) (v : Nat → Int) (Q : R_iReader_readPart → Prop), wp (g2 N n T d 2 (tSk T n (q + 1) : Nat) fa fp (tK T n (tSk T n (q + 1)) e) (o + 1) s (tS T n (tSk T n (q + 1)) : Nat) v) (fun r => wp (if r.1 = 0 then some (0, r.2.1, r.2.2.1, r.2.2.2.1, r.2.2.2.2.1, r.2.2.2.2.2.1, r.2.2.2.2.2.2.1, r.2.2.2.2.2.2.2.1, r.2.2.2.2.2.2.2.2) else bd6 (iReader_needMark N 93 r.2.1 r.2.2.1 r.2.2.2.1 r.2.2.2.2.1 n r.2.2.2.2.2.2.2.1 T) fun rc6 a6 fa6 fp6 kd6 st6 => if rc6 = 0 then some (0, a6, fa6, fp6, kd6, r.2.2.2.2.2.1, r.2.2.2.2.2.2.1, st6, r.2.2.2.2.2.2.2.2) else bd2 (iReader_closes r.2.2.2.2.2.1) fun rc7 o7 => if rc7 = 0 then some (0, a6, fa6, fp6, kd6, o7, r.2.2.2.2.2.2.1, st6, r.2.2.2.2.2.2.2.2) else some (1, a6, fa6, fp6, kd6, o7, r.2.2.2.2.2.2.1, st6, r.2.2.2.2.2.2.2.2)) Q) → wp (iReader_readFact_G N (g2 N n T d) n T q fa fp (tK T n q e) o s (tS T n q) v) Q := by
      intro fa fp s v Q hb
      unfold iReader_readFact_G
      rw [wp_bd4]
      refine w_takeWord hN hn hq (by decide) (fun t => absurd t n16w) (fun _ => ?_)
      show wp (if (0 : Int) = 0 then _ else _) _
      rw [if_pos rfl, wp_bd4]
      refine w_takeMark hN hn he cM91 (fun _ => ?_) (fun t => absurd t91 t)
      show wp (if (1 : Int) = 0 then _ else _) _
      rw [if_neg (by decide), wp_bd4]
      refine w_kop ho (fun w => absurd w h6) (fun _ => ?_)
      show wp (if (1 : Int) = 0 then _ else _) _
      rw [if_neg (by decide), wp_bd9]
      exact hb
    have b1 : ∀ C L S, fitT C T n q L S → TA C L (25 :: S) (tSk T n (q + 1)) e (o + 1) → TA C L S q e o := by
      intro C L S hf g
      obtain ⟨f1, f2, f3, f4, f5⟩ := hf
      subst f2
      subst f3
      exact ta_sq f1 (by omega) (by omega) ho t91 (fun w => absurd w h6) (fun _ => g)
    have fit1 : ∀ C L S, fitT C T n q L S → fitT C T n (tSk T n (q + 1)) L (25 :: S) := by
      intro C L S hf
      obtain ⟨f1, f2, f3, f4, f5⟩ := hf
      exact ⟨f1, f2, f3, (show S.length + 1 ≤ _ by omega), (show L.length + (S.length + 1) ≤ _ by omega)⟩
    rcases hV h6 (tSk T n (q + 1)) e y2 y3 (by omega) with ⟨q2, e2, a, r1, r2, r3, r4, r5, r6⟩ | ⟨kd, p, r1, r6⟩
    · obtain ⟨p1, p2, p3, p4⟩ := r2
      have la : a.length ≤ (trl a).length := trl_len a
      by_cases t93 : tM T n q2 93
      · have v1 : q2 + 1 ≤ tSk T n (q2 + 1) := lR_ge
        have v2 : tSk T n (q2 + 1) ≤ n := lR_le t93.1
        have v3 : tSk T n (tSk T n (q2 + 1)) = tSk T n (q2 + 1) := lR_id
        refine Or.inl ⟨tSk T n (q2 + 1), e2, a, ?_, ⟨v2, v3, by omega, by omega⟩, by omega, r4, ?_⟩
        · intro L fa fp s v Q hs hv hQ
          refine c1 fa fp s v Q (r1 L fa fp s v _ (by omega) hv (fun s2 v2 h2 => ?_))
          show wp (if (1 : Int) = 0 then _ else _) _
          rw [if_neg (by decide), wp_bd6]
          refine w_needM hN hn p3 cM93 (fun _ => ?_) (fun t => absurd t93 t)
          show wp (if (1 : Int) = 0 then _ else _) _
          rw [if_neg (by decide), wp_bd2]
          refine w_kcl (show 0 ≤ o + 1 ∧ o + 1 ≤ 6 by omega) ?_
          show wp (if (1 : Int) = 0 then _ else _) _
          rw [if_neg (by decide), wp_some]
          have := hQ s2 v2 h2
          show Q (1, _, _, _, _, o + 1 - 1, _, _, _)
          rw [show o + 1 - 1 = o by omega]
          exact this
        · intro C L S hf hnt g
          refine b1 C L S hf (r6 C L (25 :: S) (fit1 C L S hf) (Or.inr ⟨S, rfl⟩) ?_)
          intro L1 P hLP hP1 hP2
          obtain ⟨m1, m2, m3, m4, m5⟩ := n25_t (L1 := L1) (S := S) hP2
          have e1 : (L ++ a).length = (L1 ++ P).length := by rw [hLP]
          rw [List.length_append, List.length_append] at e1
          obtain ⟨f1, f2, f3, f4, f5⟩ := hf
          unfold TB
          rw [m3, m4, List.append_nil]
          subst f2
          subst f3
          refine tc_sq f1 (S2 := S) (by rw [List.length_append]; show P.length + (S.length + 1) ≤ 600; omega) (by omega) (show 1 ≤ o + 1 - 0 ∧ o + 1 - 0 ≤ 6 by omega) t93 m5 m2 ?_
          rw [m1, ← hLP]
          show TB C (L ++ a) S _ e2 (o + 1 - 0 - 1)
          rw [show o + 1 - 0 - 1 = o by omega]
          exact g
      · refine Or.inr ⟨1, q2, ?_, ?_⟩
        · intro L fa fp s v Q hs hv hQ
          refine c1 fa fp s v Q (r1 L fa fp s v _ (by omega) hv (fun s2 v2 h2 => ?_))
          show wp (if (1 : Int) = 0 then _ else _) _
          rw [if_neg (by decide), wp_bd6]
          refine w_needM hN hn p3 cM93 (fun t => absurd t t93) (fun _ => ?_)
          show wp (if (0 : Int) = 0 then _ else _) _
          rw [if_pos rfl, wp_some]
          exact hQ _ _ _ _ _ _
        · intro C L S hf hnt g
          refine b1 C L S hf (r6 C L (25 :: S) (fit1 C L S hf) (Or.inr ⟨S, rfl⟩) ?_)
          intro L1 P hLP hP1 hP2
          obtain ⟨m1, m2, m3, m4, m5⟩ := n25_t (L1 := L1) (S := S) hP2
          have e1 : (L ++ a).length = (L1 ++ P).length := by rw [hLP]
          rw [List.length_append, List.length_append] at e1
          obtain ⟨f1, f2, f3, f4, f5⟩ := hf
          unfold TB
          rw [m3, m4, List.append_nil]
          subst f2
          subst f3
          exact tc_end f1 (by rw [List.length_append]; show P.length + (S.length + 1) ≤ 700; omega) (by omega) r5.1 r5.2 (fun t => absurd t t93) (fun w => absurd m5 w) (fun _ => g)
    · refine Or.inr ⟨kd, p, ?_, fun C L S hf hnt g => b1 C L S hf (r6 C L (25 :: S) (fit1 C L S hf) (Or.inr ⟨S, rfl⟩) g)⟩
      intro L fa fp s v Q hs hv hQ
      refine c1 fa fp s v Q (r1 L fa fp s v _ (by omega) hv (fun a7 k7 o7 s7 t7 v7 => ?_))
      show wp (if (0 : Int) = 0 then _ else _) _
      rw [if_pos rfl, wp_some]
      exact hQ _ _ _ _ _ _
