set_option maxHeartbeats 4000000
set_option maxRecDepth 100000
def LKV (N : Nat) (T : Nat → Int) (n d : Nat) (q : Nat) (e o : Int) (l : List Int) (q2 : Nat) (e2 : Int) (l2 : List Int) : Prop := ∀ (L : List Int) (fa fp s : Int) (v : Nat → Int) (x2 : Int) (m : Nat) (Q : R_iReader_readPart → Prop), s ≤ q → cdk v s (trl (L ++ l)) → 0 ≤ x2 → x2 + ((n - q : Nat) : Int) ≤ 600 → n - q < m → (∀ s2 v2, cdk v2 s2 (trl (L ++ l2)) → Q (1, q2, fa, fp, tK T n q2 e2, o, s2, tS T n q2, v2)) → wp (iReader_readTest_b7 N (g2 N n T d) n T m 1 x2 q fa fp (tK T n q e) o s (tS T n q) v) Q
def LBV (N : Nat) (T : Nat → Int) (n d : Nat) (q : Nat) (e o : Int) (l : List Int) (k p : Int) : Prop := ∀ (L : List Int) (fa fp s : Int) (v : Nat → Int) (x2 : Int) (m : Nat) (Q : R_iReader_readPart → Prop), s ≤ q → cdk v s (trl (L ++ l)) → 0 ≤ x2 → x2 + ((n - q : Nat) : Int) ≤ 600 → n - q < m → (∀ a kd op s2 st v2, Q (0, a, k, p, kd, op, s2, st, v2)) → wp (iReader_readTest_b7 N (g2 N n T d) n T m 1 x2 q fa fp (tK T n q e) o s (tS T n q) v) Q
theorem lz_V {N n d m : Nat} {T : Nat → Int} {x2 a fa fp kd op s st : Int} {v : Nat → Int} {Q : R_iReader_readPart → Prop} (hm : 0 < m) (h : Q (0, a, fa, fp, kd, op, s, st, v)) : wp (iReader_readTest_b7 N (g2 N n T d) n T m 0 x2 a fa fp kd op s st v) Q := by
  obtain ⟨m2, rfl⟩ : ∃ m2, m = m2 + 1 := ⟨m - 1, by omega⟩
  show wp (iReader_readTest_b7_F N (g2 N n T d) n T (iReader_readTest_b7 N (g2 N n T d) n T m2) 0 x2 a fa fp kd op s st v) Q
  unfold iReader_readTest_b7_F
  rw [wp_ite]
  refine ⟨fun _ => ?_, fun _ => ?_⟩
  · rw [wp_gd, wp_some]
    exact ⟨by decide, h⟩
  · rw [if_pos rfl, wp_gd, wp_some]
    exact ⟨by decide, h⟩
theorem loop_V [Inhabited Frm] {N n d D : Nat} {T : Nat → Int} {o : Int} (hN : 5000 ≤ N) (hn : n ≤ 600) (hP : ∀ q e, q ≤ n → tSk T n q = q → e ≤ (q : Int) → SimB T n (g2 N n T d 0) q e o D) (q0 : Nat) : ∀ (k q : Nat) (e : Int) (l : List Int), n - q = k → q ≤ n → tSk T n q = q → e ≤ q → (trl l).length + q0 ≤ q → q0 < q → EvT l (D + 1) → ¬ tW T n 19 q e → (∃ q2 e2 l2, LKV N T n d q e o l q2 e2 l2 ∧ plc T n q0 q2 e2 l2 ∧ q0 < q2 ∧ EvT l2 (D + 1) ∧ (¬ tW T n 19 q2 e2 ∧ ¬ tW T n 20 q2 e2) ∧ ∀ C L S, fitT C T n q0 L S → sT S → TBt C (L ++ l2) S q2 e2 o → TBt C (L ++ l) S q e o) ∨ ∃ k p, LBV N T n d q e o l k p ∧ ∀ C L S, fitT C T n q0 L S → sT S → TF C k p → TBt C (L ++ l) S q e o := by
  intro k
  induction k using Nat.strongRecOn with
  | ind k ih =>
    intro q e l hk hq hqq he hl hl0 hE r0
    by_cases hop : tW T n 20 q e
    · have hqn : q < n := hop.1
      have z0 := tS_le (T := T) (n := n) (q := q) hq
      have z4 := z0.2.2 hqn
      have z1 : tS T n q ≤ tSk T n (tS T n q) := lR_ge
      have z2 : tSk T n (tS T n q) ≤ n := lR_le z0.2.1
      have z3 : tSk T n (tSk T n (tS T n q)) = tSk T n (tS T n q) := lR_id
      have ll : l.length ≤ (trl l).length := trl_len l
      have walk : ∀ (fa fp s : Int) (v : Nat → Int) (x2 : Int) (m : Nat) (Q : R_iReader_readPart → Prop), 0 ≤ x2 → x2 + ((n - q : Nat) : Int) ≤ 600 → wp (g2 N n T d 0 (tSk T n (tS T n q) : Nat) fa fp (tK T n (tSk T n (tS T n q)) (tS T n q : Nat)) o s (tS T n (tSk T n (tS T n q)) : Nat) v) (fun r => wp (if r.1 = 0 then gd (jr (x2 + 1)) <| iReader_readTest_b7 N (g2 N n T d) n T m 0 (x2 + 1) r.2.1 r.2.2.1 r.2.2.2.1 r.2.2.2.2.1 r.2.2.2.2.2.1 r.2.2.2.2.2.2.1 r.2.2.2.2.2.2.2.1 r.2.2.2.2.2.2.2.2 else bd5 (iReader_emit (-17) r.2.1 r.2.2.1 r.2.2.2.1 r.2.2.2.2.2.2.1 r.2.2.2.2.2.2.2.2) fun rc4 fa4 fp4 s4 v4 => if rc4 = 0 then gd (jr (x2 + 1)) <| iReader_readTest_b7 N (g2 N n T d) n T m 0 (x2 + 1) r.2.1 fa4 fp4 r.2.2.2.2.1 r.2.2.2.2.2.1 s4 r.2.2.2.2.2.2.2.1 v4 else gd (jr (x2 + 1)) <| iReader_readTest_b7 N (g2 N n T d) n T m 1 (x2 + 1) r.2.1 fa4 fp4 r.2.2.2.2.1 r.2.2.2.2.2.1 s4 r.2.2.2.2.2.2.2.1 v4) Q) → wp (iReader_readTest_b7 N (g2 N n T d) n T (m + 1) 1 x2 q fa fp (tK T n q e) o s (tS T n q) v) Q := by
        intro fa fp s v x2 m Q hx1 hx2 hb
        show wp (iReader_readTest_b7_F N (g2 N n T d) n T (iReader_readTest_b7 N (g2 N n T d) n T m) 1 x2 q fa fp (tK T n q e) o s (tS T n q) v) Q
        unfold iReader_readTest_b7_F
        rw [if_neg (by omega), if_neg (by decide), wp_bd4]
        refine w_takeWord hN hn hq (by decide) (fun _ => ?_) (fun t => absurd hop t)
        show wp (if (1 : Int) = 0 then _ else _) _
        rw [if_neg (by decide), wp_bd9]
        exact hb
      have ref : ∀ C L S, fitT C T n q0 L S → sT S → TA C (L ++ l) (15 :: S) (tSk T n (tS T n q)) (tS T n q : Nat) o → TBt C (L ++ l) S q e o := fun C L S hf hsB g => tb_or hf hsB hop (by omega) hl g
      have fit2 : ∀ C L S, fitT C T n q0 L S → fitT C T n (tSk T n (tS T n q)) (L ++ l) (15 :: S) := by
        intro C L S hf
        obtain ⟨f1, f2, f3, f4, f5⟩ := hf
        refine ⟨f1, f2, f3, ?_, ?_⟩
        · show S.length + 1 ≤ _
          omega
        · show (L ++ l).length + (S.length + 1) ≤ _
          have e9 : (L ++ l).length = L.length + l.length := List.length_append
          omega
      rcases hP (tSk T n (tS T n q)) (tS T n q : Nat) z2 z3 (show ((tS T n q : Nat) : Int) ≤ _ by omega) with ⟨q2, e2, b, r1, r2, r3, r4, r5, r6⟩ | ⟨kd, p, r1, r6⟩
      · obtain ⟨p1, p2, p3, p4⟩ := r2
        have lb : (trl (l ++ b ++ [15])).length = (trl l).length + (trl b).length + 1 := by
          rw [trl_app, trl_app, List.length_append, List.length_append]
          rfl
        have cls : ∀ (L : List Int) (fa fp s : Int) (v : Nat → Int) (x2 : Int) (m : Nat) (Q : R_iReader_readPart → Prop), s ≤ q → cdk v s (trl (L ++ l)) → 0 ≤ x2 → x2 + ((n - q : Nat) : Int) ≤ 600 → (∀ (s2 : Int) (v2 : Nat → Int), s2 ≤ q2 → cdk v2 s2 (trl (L ++ (l ++ b ++ [15]))) → wp (iReader_readTest_b7 N (g2 N n T d) n T m 1 (x2 + 1) q2 fa fp (tK T n q2 e2) o s2 (tS T n q2) v2) Q) → wp (iReader_readTest_b7 N (g2 N n T d) n T (m + 1) 1 x2 q fa fp (tK T n q e) o s (tS T n q) v) Q := by
          intro L fa fp s v x2 m Q hs hv hx1 hx2 hQ
          refine walk fa fp s v x2 m Q hx1 hx2 (r1 (L ++ l) fa fp s v _ (by omega) hv (fun s2 v2 h2 => ?_))
          show wp (if (1 : Int) = 0 then _ else _) _
          rw [if_neg (by decide), wp_bd5]
          have hs2 : s2 + 1 ≤ q2 := by
            have a1 := h2.1
            have a2 := hv.1
            rw [trl_app, List.length_append] at a1
            omega
          refine w_emit h2 (show s2 < 600 by omega) (fun v3 h3 => ?_)
          show wp (if (1 : Int) = 0 then _ else _) _
          rw [if_neg (by decide), wp_gd]
          refine ⟨jr_iff.mpr (by omega), hQ (s2 + 1) v3 hs2 ?_⟩
          rw [← List.append_assoc, ← List.append_assoc L l b, trl_app (L ++ l ++ b)]
          exact h3
        have bk : ∀ C L S, fitT C T n q0 L S → sT S → TBt C (L ++ (l ++ b ++ [15])) S q2 e2 o → TBt C (L ++ l) S q e o := by
          intro C L S hf hsB g
          refine ref C L S hf hsB (r6 C (L ++ l) (15 :: S) (fit2 C L S hf) (sT_nt hsB).2.1 ?_)
          intro L1 P hLP hP1 hP2
          have g2 := g L1 (P ++ [15]) (by rw [← List.append_assoc, ← List.append_assoc L l b, hLP, List.append_assoc]) (by rw [List.length_append]; show P.length + 1 ≤ 2; omega) (fun x hx => by
            rcases List.mem_append.mp hx with hx | hx
            · exact Or.inl (hP2 x hx)
            · exact Or.inr (List.mem_singleton.mp hx))
          rw [List.append_assoc] at g2
          exact g2
        rcases ih (n - q2) (by omega) q2 e2 (l ++ b ++ [15]) rfl p1 p2 p3 (by rw [lb]; omega) (by omega) (Ev_up (Ev_lo hE r4 (Or.inr rfl)) (by omega)) r5 with ⟨q3, e3, l3, s1, s2, s3, s4, s5, s6⟩ | ⟨kd, p, s1, s6⟩
        · refine Or.inl ⟨q3, e3, l3, ?_, s2, s3, s4, s5, fun C L S hf hnt g => bk C L S hf hnt (s6 C L S hf hnt g)⟩
          intro L fa fp s v x2 m Q hs hv hx1 hx2 hm hQ
          obtain ⟨m2, rfl⟩ : ∃ m2, m = m2 + 1 := ⟨m - 1, by omega⟩
          exact cls L fa fp s v x2 m2 Q hs hv hx1 hx2 (fun t2 v2 ht hv2 => s1 L fa fp t2 v2 (x2 + 1) m2 Q ht hv2 (by omega) (by omega) (by omega) hQ)
        · refine Or.inr ⟨kd, p, ?_, fun C L S hf hnt g => bk C L S hf hnt (s6 C L S hf hnt g)⟩
          intro L fa fp s v x2 m Q hs hv hx1 hx2 hm hQ
          obtain ⟨m2, rfl⟩ : ∃ m2, m = m2 + 1 := ⟨m - 1, by omega⟩
          exact cls L fa fp s v x2 m2 Q hs hv hx1 hx2 (fun t2 v2 ht hv2 => s1 L fa fp t2 v2 (x2 + 1) m2 Q ht hv2 (by omega) (by omega) (by omega) hQ)
      · refine Or.inr ⟨kd, p, ?_, fun C L S hf hnt g => ref C L S hf hnt (r6 C (L ++ l) (15 :: S) (fit2 C L S hf) (sT_nt hnt).2.1 g)⟩
        intro L fa fp s v x2 m Q hs hv hx1 hx2 hm hQ
        obtain ⟨m2, rfl⟩ : ∃ m2, m = m2 + 1 := ⟨m - 1, by omega⟩
        refine walk fa fp s v x2 m2 Q hx1 hx2 (r1 (L ++ l) fa fp s v _ (by omega) hv (fun a kd op s2 st v2 => ?_))
        show wp (if (0 : Int) = 0 then _ else _) _
        rw [if_pos rfl, wp_gd]
        exact ⟨jr_iff.mpr (by omega), lz_V (by omega) (hQ _ _ _ _ _ _)⟩
    · refine Or.inl ⟨q, e, l, ?_, ⟨hq, hqq, he, hl⟩, hl0, hE, ⟨r0, hop⟩, fun C L S hf hnt g => g⟩
      intro L fa fp s v x2 m Q hs hv hx1 hx2 hm hQ
      obtain ⟨m2, rfl⟩ : ∃ m2, m = m2 + 1 := ⟨m - 1, by omega⟩
      show wp (iReader_readTest_b7_F N (g2 N n T d) n T (iReader_readTest_b7 N (g2 N n T d) n T m2) 1 x2 q fa fp (tK T n q e) o s (tS T n q) v) Q
      unfold iReader_readTest_b7_F
      have fin := hQ s v hv
      rw [wp_ite]
      refine ⟨fun _ => ?_, fun _ => ?_⟩
      · rw [wp_gd, wp_some]
        exact ⟨by decide, fin⟩
      · rw [if_neg (by decide), wp_bd4]
        refine w_takeWord hN hn hq (by decide) (fun t => absurd t hop) (fun t => ?_)
        show wp (if (0 : Int) = 0 then _ else _) _
        rw [if_pos rfl, wp_gd, wp_some]
        exact ⟨(show jB 1 = true by decide), fin⟩
