set_option maxHeartbeats 4000000
set_option maxRecDepth 100000
theorem trc_num {x : Int} (h : 0 ≤ x) : trc (1000 + x) = [x] := by
  unfold trc
  rw [if_pos (by omega), show 1000 + x - 1000 = x by omega]
theorem un_u {T : Nat → Int} {n q q2 q3 : Nat} {e u e2 u3 e3 : Int} (h : un T n q e u q2 e2) (g : un T n q e u3 q3 e3) : u = u3 ∧ q2 = q3 ∧ e2 = e3 := by
  rcases h with h | h | h | h
  · rcases g with g | g | g | g
    · exact ⟨by rw [h.2.1, g.2.1], by rw [h.2.2.1, g.2.2.1], by rw [h.2.2.2, g.2.2.2]⟩
    · exact absurd (tW_l h.1 g.1) (by decide)
    · exact absurd (tW_l h.1 g.1) (by decide)
    · exact absurd h.1 g.1
  · rcases g with g | g | g | g
    · exact absurd (tW_l h.1 g.1) (by decide)
    · exact ⟨by rw [h.2.1, g.2.1], by rw [h.2.2.1, g.2.2.1], by rw [h.2.2.2, g.2.2.2]⟩
    · exact absurd (tW_l h.1 g.1) (by decide)
    · exact absurd h.1 g.2.1
  · rcases g with g | g | g | g
    · exact absurd (tW_l h.1 g.1) (by decide)
    · exact absurd (tW_l h.1 g.1) (by decide)
    · exact ⟨by rw [h.2.1, g.2.1], by rw [h.2.2.1, g.2.2.1], by rw [h.2.2.2, g.2.2.2]⟩
    · exact absurd h.1 g.2.2.1
  · rcases g with g | g | g | g
    · exact absurd g.1 h.1
    · exact absurd g.1 h.2.1
    · exact absurd g.1 h.2.2.1
    · exact ⟨by rw [h.2.2.2.1, g.2.2.2.1], by rw [h.2.2.2.2.1, g.2.2.2.2.1], by rw [h.2.2.2.2.2, g.2.2.2.2.2]⟩
def TWO [Inhabited Frm] (C : Rx) (L S : List Int) (q : Nat) (e o c : Int) : Prop := (¬ tM C.T C.n q 40 → FL C 1 q) ∧ (tM C.T C.n q 40 → o = 6 → FL C 3 q) ∧ (tM C.T C.n q 40 → o ≠ 6 → RA C L (c :: S) (tSk C.T C.n (q + 1)) e (o + 1))
/-- two sums in brackets -/
def SimT [Inhabited Frm] (T : Nat → Int) (n : Nat) (f : RF) (q : Nat) (e o : Int) (D : Nat) : Prop := (∃ q2 e2 l, CLok T n f q e o q2 e2 l ∧ plc T n (q + 1) q2 e2 l ∧ (EvS (l ++ [5]) D ∧ EvS (l ++ [6]) D) ∧ ∀ C L S c, fit C T n q L S → (S ++ C.B).length + 1 ≤ q → c = 21 ∨ c = 22 → RB C (L ++ (l ++ [c - 16])) S q2 e2 o → TWO C L S q e o c) ∨ ∃ k p, CLbad T n f q e o k p ∧ ∀ C L S c, fit C T n q L S → (S ++ C.B).length + 1 ≤ q → c = 21 ∨ c = 22 → FL C k p → TWO C L S q e o c
theorem nt_c {C : Rx} {S : List Int} {c : Int} (h : 20 ≤ c) : nt asB (c :: S ++ C.B) := fun x V hxV hx => by
  have e1 := (List.cons.inj hxV).1
  have e2 := asB_iff.mp hx
  omega
theorem mk_s {c : Int} {S L1 P : List Int} {k : Nat} (hc : 20 ≤ c ∧ c ≤ 24) (hP : ∀ x, x ∈ P → 1 ≤ x ∧ x ≤ 4) (hk : P.length ≤ k) : fm (P ++ c :: S) = c ∧ drw nmB (P ++ c :: S) = c :: S ∧ tkw nmB (P ++ c :: S) = P := by
  have hn := nm_as hP
  have tw := tkw_t (f := nmB) (W := c :: S) (P := P) (fun x V hxV hx => by
    have e1 := (List.cons.inj hxV).1
    unfold nmB at hx
    rw [← e1, mkB_iff.mpr hc] at hx
    exact absurd hx (by decide)) hn
  exact ⟨fm_t (mkB_iff.mpr hc) hn, tw.2, tw.1⟩
theorem sim_T [Inhabited Frm] {N n d Ds : Nat} {T : Nat → Int} {o : Int} (hN : 5000 ≤ N) (hn : n ≤ 600) (ho : 0 ≤ o ∧ o ≤ 6) (hS : o ≠ 6 → ∀ q e, q ≤ n → tSk T n q = q → e ≤ (q : Int) → SimS T n (g1 N n T d 2) q e (o + 1) Ds) : ∀ q e, q ≤ n → tSk T n q = q → e ≤ (q : Int) → SimT T n (g1 N n T (d + 1) 3) q e o (Ds + 1) := by
  intro q e hq hqq he
  have unf : g1 N n T (d + 1) 3 = iReader_readTwo_G N (g1 N n T d) n T := rfl
  rw [unf]
  by_cases t40 : tM T n q 40
  · by_cases h6 : o = 6
    · refine Or.inr ⟨3, q, ?_, fun C L S c hf _ hc g => ?_⟩
      · intro L fa fp s v Q hs hv hQ
        unfold iReader_readTwo_G
        rw [wp_bd6]
        refine w_needM hN hn he cM40 (fun t => ?_) (fun t => absurd t40 t)
        show wp (if (1 : Int) = 0 then _ else _) _
        rw [if_neg (by decide), wp_bd4]
        refine w_kop ho (fun _ => ?_) (fun w => absurd h6 w)
        show wp (if (0 : Int) = 0 then _ else _) _
        rw [if_pos rfl, wp_some]
        exact hQ _ _ _ _ _ _
      · obtain ⟨f1, f2, f3, f4, f5⟩ := hf
        subst f2
        subst f3
        exact ⟨fun w => absurd t40 w, fun _ _ => g, fun _ w => absurd h6 w⟩
    · have hqn : q < n := t40.1
      have z1 : q + 1 ≤ tSk T n (q + 1) := lR_ge
      have z2 : tSk T n (q + 1) ≤ n := lR_le (by omega)
      have z3 : tSk T n (tSk T n (q + 1)) = tSk T n (q + 1) := lR_id
      have c1 : ∀ (fa fp s : Int) (v : Nat → Int) (Q : R_iReader_readPart → Prop), wp (g1 N n T d 2 (tSk T n (q + 1) : Nat) fa fp (tK T n (tSk T n (q + 1)) e) (o + 1) s (tS T n (tSk T n (q + 1)) : Nat) v) (fun r => wp (if r.1 = 0 then some (0, r.2.1, r.2.2.1, r.2.2.2.1, r.2.2.2.2.1, r.2.2.2.2.2.1, r.2.2.2.2.2.2.1, r.2.2.2.2.2.2.2.1, r.2.2.2.2.2.2.2.2) else bd6 (iReader_needMark N 44 r.2.1 r.2.2.1 r.2.2.2.1 r.2.2.2.2.1 n r.2.2.2.2.2.2.2.1 T) fun rc4 a4 fa4 fp4 kd4 st4 => if rc4 = 0 then some (0, a4, fa4, fp4, kd4, r.2.2.2.2.2.1, r.2.2.2.2.2.2.1, st4, r.2.2.2.2.2.2.2.2) else bd9 (g1 N n T d 2 a4 fa4 fp4 kd4 r.2.2.2.2.2.1 r.2.2.2.2.2.2.1 st4 r.2.2.2.2.2.2.2.2) fun rc5 a5 fa5 fp5 kd5 o5 s5 st5 v5 => if rc5 = 0 then some (0, a5, fa5, fp5, kd5, o5, s5, st5, v5) else bd6 (iReader_needMark N 41 a5 fa5 fp5 kd5 n st5 T) fun rc6 a6 fa6 fp6 kd6 st6 => if rc6 = 0 then some (0, a6, fa6, fp6, kd6, o5, s5, st6, v5) else bd2 (iReader_closes o5) fun rc7 o7 => if rc7 = 0 then some (0, a6, fa6, fp6, kd6, o7, s5, st6, v5) else some (1, a6, fa6, fp6, kd6, o7, s5, st6, v5)) Q) → wp (iReader_readTwo_G N (g1 N n T d) n T q fa fp (tK T n q e) o s (tS T n q) v) Q := by
        intro fa fp s v Q hb
        unfold iReader_readTwo_G
        rw [wp_bd6]
        refine w_needM hN hn he cM40 (fun t => ?_) (fun t => absurd t40 t)
        show wp (if (1 : Int) = 0 then _ else _) _
        rw [if_neg (by decide), wp_bd4]
        refine w_kop ho (fun w => absurd w h6) (fun _ => ?_)
        show wp (if (1 : Int) = 0 then _ else _) _
        rw [if_neg (by decide), wp_bd9]
        exact hb
      have b1 : ∀ C L S c, fit C T n q L S → (S ++ C.B).length + 1 ≤ q → RA C L (c :: S) (tSk T n (q + 1)) e (o + 1) → TWO C L S q e o c := by
        intro C L S c hf _ g
        obtain ⟨f1, f2, f3, f4, f5⟩ := hf
        subst f2
        subst f3
        exact ⟨fun w => absurd t40 w, fun _ w => absurd w h6, fun _ _ => g⟩
      have fit1 : ∀ C L S c, fit C T n q L S → fit C T n (tSk T n (q + 1)) L (c :: S) := by
        intro C L S c hf
        obtain ⟨f1, f2, f3, f4, f5⟩ := hf
        exact ⟨f1, f2, f3, (show (S ++ C.B).length + 1 ≤ _ by omega), (show L.length + ((S ++ C.B).length + 1) ≤ _ by omega)⟩
      rcases hS h6 (tSk T n (q + 1)) e z2 z3 (by omega) with ⟨q2, e2, a, r1, r2, r3, r4, r5, r6⟩ | ⟨kd, p, r1, r6⟩
      · obtain ⟨p1, p2, p3, p4⟩ := r2
        have la : a.length ≤ (trl a).length := trl_len a
        by_cases t44 : tM T n q2 44
        · have y1 : q2 + 1 ≤ tSk T n (q2 + 1) := lR_ge
          have y2 : tSk T n (q2 + 1) ≤ n := lR_le t44.1
          have y3 : tSk T n (tSk T n (q2 + 1)) = tSk T n (q2 + 1) := lR_id
          have b2 : ∀ C L S c, fit C T n q L S → (S ++ C.B).length + 1 ≤ q → c = 21 ∨ c = 22 → RA C (L ++ a) ((c + 2) :: S) (tSk T n (q2 + 1)) e2 (o + 1) → TWO C L S q e o c := by
            intro C L S c hf hs2 hc g
            refine b1 C L S c hf hs2 (r6 C L (c :: S) (fit1 C L S c hf) (nt_c (by omega)) ?_)
            intro L1 P hLP hP1 hP2
            obtain ⟨m1, m2, m3⟩ := mk_s (S := S) (L1 := L1) (c := c) (by omega) hP2 hP1
            have e1 : (L ++ a).length = (L1 ++ P).length := by rw [hLP]
            rw [List.length_append, List.length_append] at e1
            obtain ⟨f1, f2, f3, f4, f5⟩ := hf
            rw [hLP] at g
            subst f2
            subst f3
            exact rb_comma f1 (S2 := S) (c := c) (by rw [List.append_assoc, List.length_append]; show P.length + ((S ++ C.B).length + 1) ≤ 700; omega) (by omega) t44 hc m1 m2 (by rw [m3]; exact g)
          have fit2 : ∀ C L S c, fit C T n q L S → fit C T n (tSk T n (q2 + 1)) (L ++ a) (c :: S) := by
            intro C L S c hf
            obtain ⟨f1, f2, f3, f4, f5⟩ := hf
            exact ⟨f1, f2, f3, (show (S ++ C.B).length + 1 ≤ _ by omega), (show (L ++ a).length + ((S ++ C.B).length + 1) ≤ _ by have e9 : (L ++ a).length = L.length + a.length := List.length_append; omega)⟩
          rcases hS h6 (tSk T n (q2 + 1)) e2 y2 y3 (by omega) with ⟨q4, e4, b, w1, w2, w3, w4, w5, w6⟩ | ⟨kd, p, w1, w6⟩
          · obtain ⟨x1, x2, x3, x4⟩ := w2
            have lb : b.length ≤ (trl b).length := trl_len b
            by_cases t41 : tM T n q4 41
            · have v1 : q4 + 1 ≤ tSk T n (q4 + 1) := lR_ge
              have v2 : tSk T n (q4 + 1) ≤ n := lR_le t41.1
              have v3 : tSk T n (tSk T n (q4 + 1)) = tSk T n (q4 + 1) := lR_id
              refine Or.inl ⟨tSk T n (q4 + 1), e4, a ++ b, ?_, ⟨v2, v3, by omega, by rw [trl_app, List.length_append]; omega⟩, ⟨Ev_up (Ev_ar r4 w4 (by decide)) (by omega), Ev_up (Ev_ar r4 w4 (by decide)) (by omega)⟩, ?_⟩
              · intro L fa fp s v Q hs hv hQ
                refine c1 fa fp s v Q (r1 L fa fp s v _ (by omega) hv (fun s2 v2 h2 => ?_))
                have i1 := h2.1
                have i2 := hv.1
                rw [trl_app, List.length_append] at i1
                show wp (if (1 : Int) = 0 then _ else _) _
                rw [if_neg (by decide), wp_bd6]
                refine w_needM hN hn p3 cM_.2.2.2.1 (fun _ => ?_) (fun t => absurd t44 t)
                show wp (if (1 : Int) = 0 then _ else _) _
                rw [if_neg (by decide), wp_bd9]
                refine w1 (L ++ a) fa fp s2 v2 _ (by omega) h2 (fun s3 v3 h3 => ?_)
                show wp (if (1 : Int) = 0 then _ else _) _
                rw [if_neg (by decide), wp_bd6]
                refine w_needM hN hn x3 cM_.1 (fun _ => ?_) (fun t => absurd t41 t)
                show wp (if (1 : Int) = 0 then _ else _) _
                rw [if_neg (by decide), wp_bd2]
                refine w_kcl (show 0 ≤ o + 1 ∧ o + 1 ≤ 6 by omega) ?_
                show wp (if (1 : Int) = 0 then _ else _) _
                rw [if_neg (by decide), wp_some]
                have := hQ s3 v3 (by rw [← List.append_assoc]; exact h3)
                show Q (1, _, _, _, _, o + 1 - 1, _, _, _)
                rw [show o + 1 - 1 = o by omega]
                exact this
              · intro C L S c hf hs2 hc g
                refine b2 C L S c hf hs2 hc (w6 C (L ++ a) ((c + 2) :: S) (fit2 C L S (c + 2) hf) (nt_c (by omega)) ?_)
                intro L1 P hLP hP1 hP2
                obtain ⟨m1, m2, m3⟩ := mk_s (S := S) (L1 := L1) (c := c + 2) (by omega) hP2 hP1
                have e1 : (L ++ a ++ b).length = (L1 ++ P).length := by rw [hLP]
                rw [List.length_append, List.length_append, List.length_append] at e1
                have hcl : clo (c + 2) = [c - 16] := by
                  rcases hc with hc | hc
                  · rw [hc]
                    rfl
                  · rw [hc]
                    rfl
                obtain ⟨f1, f2, f3, f4, f5⟩ := hf
                subst f2
                subst f3
                refine rb_close f1 (S2 := S) (c := c + 2) (by rw [List.append_assoc, List.length_append]; show P.length + ((S ++ C.B).length + 1) ≤ 700; omega) (by omega) (by omega) t41 (by omega) m1 m2 ?_
                rw [m3, ← hLP, hcl, show o + 1 - 1 = o by omega]
                have : L ++ (a ++ b ++ [c - 16]) = L ++ a ++ b ++ [c - 16] := by rw [← List.append_assoc, ← List.append_assoc L a b]
                rw [← this]
                exact g
            · refine Or.inr ⟨1, q4, ?_, ?_⟩
              · intro L fa fp s v Q hs hv hQ
                refine c1 fa fp s v Q (r1 L fa fp s v _ (by omega) hv (fun s2 v2 h2 => ?_))
                have i1 := h2.1
                have i2 := hv.1
                rw [trl_app, List.length_append] at i1
                show wp (if (1 : Int) = 0 then _ else _) _
                rw [if_neg (by decide), wp_bd6]
                refine w_needM hN hn p3 cM_.2.2.2.1 (fun _ => ?_) (fun t => absurd t44 t)
                show wp (if (1 : Int) = 0 then _ else _) _
                rw [if_neg (by decide), wp_bd9]
                refine w1 (L ++ a) fa fp s2 v2 _ (by omega) h2 (fun s3 v3 h3 => ?_)
                show wp (if (1 : Int) = 0 then _ else _) _
                rw [if_neg (by decide), wp_bd6]
                refine w_needM hN hn x3 cM_.1 (fun t => absurd t t41) (fun _ => ?_)
                show wp (if (0 : Int) = 0 then _ else _) _
                rw [if_pos rfl, wp_some]
                exact hQ _ _ _ _ _ _
              · intro C L S c hf hs2 hc g
                refine b2 C L S c hf hs2 hc (w6 C (L ++ a) ((c + 2) :: S) (fit2 C L S (c + 2) hf) (nt_c (by omega)) ?_)
                intro L1 P hLP hP1 hP2
                obtain ⟨m1, m2, m3⟩ := mk_s (S := S) (L1 := L1) (c := c + 2) (by omega) hP2 hP1
                obtain ⟨f1, f2, f3, f4, f5⟩ := hf
                subst f2
                subst f3
                exact rb_fail f1 (by rw [List.append_assoc, List.length_append]; show P.length + ((S ++ C.B).length + 1) ≤ 700; omega) (len_l hLP (by rw [List.length_append, List.length_append]; omega)) w5 (by rw [m1]; omega) (fun _ => t41) (fun w => by rw [m1] at w; omega) g
          · refine Or.inr ⟨kd, p, ?_, ?_⟩
            · intro L fa fp s v Q hs hv hQ
              refine c1 fa fp s v Q (r1 L fa fp s v _ (by omega) hv (fun s2 v2 h2 => ?_))
              have i1 := h2.1
              have i2 := hv.1
              rw [trl_app, List.length_append] at i1
              show wp (if (1 : Int) = 0 then _ else _) _
              rw [if_neg (by decide), wp_bd6]
              refine w_needM hN hn p3 cM_.2.2.2.1 (fun _ => ?_) (fun t => absurd t44 t)
              show wp (if (1 : Int) = 0 then _ else _) _
              rw [if_neg (by decide), wp_bd9]
              refine w1 (L ++ a) fa fp s2 v2 _ (by omega) h2 (fun a7 k7 o7 s7 t7 v7 => ?_)
              show wp (if (0 : Int) = 0 then _ else _) _
              rw [if_pos rfl, wp_some]
              exact hQ _ _ _ _ _ _
            · intro C L S c hf hs2 hc g
              exact b2 C L S c hf hs2 hc (w6 C (L ++ a) ((c + 2) :: S) (fit2 C L S (c + 2) hf) (nt_c (by omega)) g)
        · refine Or.inr ⟨1, q2, ?_, ?_⟩
          · intro L fa fp s v Q hs hv hQ
            refine c1 fa fp s v Q (r1 L fa fp s v _ (by omega) hv (fun s2 v2 h2 => ?_))
            show wp (if (1 : Int) = 0 then _ else _) _
            rw [if_neg (by decide), wp_bd6]
            refine w_needM hN hn p3 cM_.2.2.2.1 (fun t => absurd t t44) (fun _ => ?_)
            show wp (if (0 : Int) = 0 then _ else _) _
            rw [if_pos rfl, wp_some]
            exact hQ _ _ _ _ _ _
          · intro C L S c hf hs2 hc g
            refine b1 C L S c hf hs2 (r6 C L (c :: S) (fit1 C L S c hf) (nt_c (by omega)) ?_)
            intro L1 P hLP hP1 hP2
            obtain ⟨m1, m2, m3⟩ := mk_s (S := S) (L1 := L1) (c := c) (by omega) hP2 hP1
            obtain ⟨f1, f2, f3, f4, f5⟩ := hf
            subst f2
            subst f3
            exact rb_fail f1 (by rw [List.append_assoc, List.length_append]; show P.length + ((S ++ C.B).length + 1) ≤ 700; omega) (len_l hLP (by rw [List.length_append]; omega)) r5 (by rw [m1]; omega) (fun w => by rw [m1] at w; omega) (fun _ => t44) g
      · refine Or.inr ⟨kd, p, ?_, ?_⟩
        · intro L fa fp s v Q hs hv hQ
          refine c1 fa fp s v Q (r1 L fa fp s v _ (by omega) hv (fun a7 k7 o7 s7 t7 v7 => ?_))
          show wp (if (0 : Int) = 0 then _ else _) _
          rw [if_pos rfl, wp_some]
          exact hQ _ _ _ _ _ _
        · intro C L S c hf hs2 hc g
          exact b1 C L S c hf hs2 (r6 C L (c :: S) (fit1 C L S c hf) (nt_c (by omega)) g)
  · refine Or.inr ⟨1, q, ?_, fun C L S c hf _ hc g => ?_⟩
    · intro L fa fp s v Q hs hv hQ
      unfold iReader_readTwo_G
      rw [wp_bd6]
      refine w_needM hN hn he cM40 (fun t => absurd t t40) (fun t => ?_)
      show wp (if (0 : Int) = 0 then _ else _) _
      rw [if_pos rfl, wp_some]
      exact hQ _ _ _ _ _ _
    · obtain ⟨f1, f2, f3, f4, f5⟩ := hf
      subst f2
      subst f3
      exact ⟨fun _ => g, fun w _ => absurd w t40, fun w _ => absurd w t40⟩
