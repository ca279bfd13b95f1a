set_option maxHeartbeats 4000000
set_option maxRecDepth 100000
def g1 (N n : Nat) (T : Nat → Int) : Nat → Nat → RF := iG_readPart_readProduct_readSum_readTwo N n T
def opM (T : Nat → Int) (n q : Nat) (c d : Int) : Prop := tM T n q 42 ∧ c = 3 ∧ d = -9 ∨ tM T n q 47 ∧ c = 4 ∧ d = -10
def LKM (N : Nat) (T : Nat → Int) (n d : Nat) (q : Nat) (e o : Int) (l : List Int) (q2 : Nat) (e2 : Int) (l2 : List Int) : Prop := ∀ (L : List Int) (fa fp s : Int) (v : Nat → Int) (x2 : Int) (m : Nat) (Q : R_iReader_readPart → Prop), s ≤ q → cdk v s (trl (L ++ l)) → 0 ≤ x2 → x2 + ((n - q : Nat) : Int) ≤ 600 → n - q < m → (∀ s2 v2, cdk v2 s2 (trl (L ++ l2)) → Q (1, q2, fa, fp, tK T n q2 e2, o, s2, tS T n q2, v2)) → wp (iReader_readProduct_b7 N (g1 N n T d) n T m 1 x2 q fa fp (tK T n q e) o s (tS T n q) v) Q
def LBM (N : Nat) (T : Nat → Int) (n d : Nat) (q : Nat) (e o : Int) (l : List Int) (k p : Int) : Prop := ∀ (L : List Int) (fa fp s : Int) (v : Nat → Int) (x2 : Int) (m : Nat) (Q : R_iReader_readPart → Prop), s ≤ q → cdk v s (trl (L ++ l)) → 0 ≤ x2 → x2 + ((n - q : Nat) : Int) ≤ 600 → n - q < m → (∀ a kd op s2 st v2, Q (0, a, k, p, kd, op, s2, st, v2)) → wp (iReader_readProduct_b7 N (g1 N n T d) n T m 1 x2 q fa fp (tK T n q e) o s (tS T n q) v) Q
theorem lz_M {N n d m : Nat} {T : Nat → Int} {x2 a fa fp kd op s st : Int} {v : Nat → Int} {Q : R_iReader_readPart → Prop} (hm : 0 < m) (h : Q (0, a, fa, fp, kd, op, s, st, v)) : wp (iReader_readProduct_b7 N (g1 N n T d) n T m 0 x2 a fa fp kd op s st v) Q := by
  obtain ⟨m2, rfl⟩ : ∃ m2, m = m2 + 1 := ⟨m - 1, by omega⟩
  show wp (iReader_readProduct_b7_F N (g1 N n T d) n T (iReader_readProduct_b7 N (g1 N n T d) n T m2) 0 x2 a fa fp kd op s st v) Q
  unfold iReader_readProduct_b7_F
  rw [wp_ite]
  refine ⟨fun _ => ?_, fun _ => ?_⟩
  · rw [wp_gd, wp_some]
    exact ⟨by decide, h⟩
  · rw [if_pos rfl, wp_gd, wp_some]
    exact ⟨by decide, h⟩
theorem loop_M [Inhabited Frm] {N n d D : Nat} {T : Nat → Int} {o : Int} (hN : 5000 ≤ N) (hn : n ≤ 600) (hP : ∀ q e, q ≤ n → tSk T n q = q → e ≤ (q : Int) → SimP T n (g1 N n T d 0) q e o D) (q0 : Nat) : ∀ (k q : Nat) (e : Int) (l : List Int), n - q = k → q ≤ n → tSk T n q = q → e ≤ q → (trl l).length + q0 ≤ q → q0 < q → EvS l (D + 1) → (∃ q2 e2 l2, LKM N T n d q e o l q2 e2 l2 ∧ plc T n q0 q2 e2 l2 ∧ q0 < q2 ∧ EvS l2 (D + 1) ∧ (¬ tM T n q2 42 ∧ ¬ tM T n q2 47) ∧ ∀ C L S, fit C T n q0 L S → nt mlB (S ++ C.B) → RBp C (L ++ l2) S q2 e2 o → RBp C (L ++ l) S q e o) ∨ ∃ k p, LBM N T n d q e o l k p ∧ ∀ C L S, fit C T n q0 L S → nt mlB (S ++ C.B) → FL C k p → RBp C (L ++ l) S q e o := by
  intro k
  induction k using Nat.strongRecOn with
  | ind k ih =>
    intro q e l hk hq hqq he hl hl0 hE
    by_cases hop : ∃ c dd, opM T n q c dd
    · obtain ⟨c, dd, hop⟩ := hop
      have hqn : q < n := by
        rcases hop with g | g
        · exact g.1.1
        · exact g.1.1
      have hop2 : tM T n q 42 ∧ c = 3 ∨ tM T n q 47 ∧ c = 4 := by
        rcases hop with g | g
        · exact Or.inl ⟨g.1, g.2.1⟩
        · exact Or.inr ⟨g.1, g.2.1⟩
      have hdd : dd = -9 ∨ dd = -10 := by
        rcases hop with g | g
        · exact Or.inl g.2.2
        · exact Or.inr g.2.2
      have hc16 : 1 ≤ c ∧ c ≤ 6 := by
        rcases hop2 with g | g
        · omega
        · omega
      have htr : trc c = [dd] := by
        rcases hop with g | g
        · rw [g.2.1, g.2.2]
          rfl
        · rw [g.2.1, g.2.2]
          rfl
      have z1 : q + 1 ≤ tSk T n (q + 1) := lR_ge
      have z2 : tSk T n (q + 1) ≤ n := lR_le (by omega)
      have z3 : tSk T n (tSk T n (q + 1)) = tSk T n (q + 1) := lR_id
      have ll : l.length ≤ (trl l).length := trl_len l
      have walk : ∀ (fa fp s : Int) (v : Nat → Int) (x2 : Int) (m : Nat) (Q : R_iReader_readPart → Prop), 0 ≤ x2 → x2 + ((n - q : Nat) : Int) ≤ 600 → wp (iReader_readProduct_b47 N (g1 N n T d) n T (iReader_readProduct_b7 N (g1 N n T d) n T m) x2 dd (tSk T n (q + 1) : Nat) fa fp (tK T n (tSk T n (q + 1)) e) o s (tS T n (tSk T n (q + 1)) : Nat) v) Q → wp (iReader_readProduct_b7 N (g1 N n T d) n T (m + 1) 1 x2 q fa fp (tK T n q e) o s (tS T n q) v) Q := by
        intro fa fp s v x2 m Q hx1 hx2 hb
        show wp (iReader_readProduct_b7_F N (g1 N n T d) n T (iReader_readProduct_b7 N (g1 N n T d) n T m) 1 x2 q fa fp (tK T n q e) o s (tS T n q) v) Q
        unfold iReader_readProduct_b7_F
        rw [if_neg (by omega), if_neg (by decide), wp_bd4]
        refine w_takeMark hN hn he (by unfold cMk; decide) (fun t => ?_) (fun t => ?_)
        · show wp (if (1 : Int) = 0 then _ else _) _
          rw [if_neg (by decide)]
          have : dd = -9 := by
            rcases hop with g | g
            · exact g.2.2
            · exact absurd g.1 (tM_u t (by decide))
          rw [this] at hb
          exact hb
        · show wp (if (0 : Int) = 0 then _ else _) _
          rw [if_pos rfl, wp_bd4]
          have g := hop.resolve_left (fun g => t g.1)
          refine w_takeMark hN hn he (by unfold cMk; decide) (fun t => ?_) (fun t => absurd g.1 t)
          show wp (if (1 : Int) = 0 then _ else _) _
          rw [if_neg (by decide)]
          rw [g.2.2] at hb
          exact hb
      have ref : ∀ C L S, fit C T n q0 L S → nt mlB (S ++ C.B) → RA C (L ++ l) (c :: S) (tSk T n (q + 1)) e o → RBp C (L ++ l) S q e o := by
        intro C L S hf hnt hra L1 P hLP hP1 hP2
        obtain ⟨f1, f2, f3, f4, f5⟩ := hf
        have e1 : (L ++ l).length = (L1 ++ P).length := by rw [hLP]
        rw [List.length_append, List.length_append] at e1
        have tw := tkw_t (f := mlB) (W := S ++ C.B) (P := P) hnt (fun x hx => mlB_iff.mpr (hP2 x hx))
        rw [← List.append_assoc] at tw
        have ra2 := hra
        rw [hLP] at ra2
        subst f2
        subst f3
        exact rb_mul f1 (S2 := S) (c := c) (by rw [List.append_assoc, List.length_append]; omega) (by omega) hop2 tw.2 (by rw [tw.1]; exact ra2)
      have fit2 : ∀ C L S, fit C T n q0 L S → fit C T n (tSk T n (q + 1)) (L ++ l) (c :: S) := by
        intro C L S hf
        obtain ⟨f1, f2, f3, f4, f5⟩ := hf
        refine ⟨f1, f2, f3, ?_, ?_⟩
        · show (S ++ C.B).length + 1 ≤ _
          omega
        · show (L ++ l).length + ((S ++ C.B).length + 1) ≤ _
          have e9 : (L ++ l).length = L.length + l.length := List.length_append
          omega
      rcases hP (tSk T n (q + 1)) e z2 z3 (by omega) with ⟨q2, e2, b, r1, r2, r3, r4, r6⟩ | ⟨kd, p, r1, r6⟩
      · obtain ⟨p1, p2, p3, p4⟩ := r2
        have lb : (trl (l ++ b ++ [c])).length = (trl l).length + (trl b).length + 1 := by
          rw [trl_app, trl_app, trl_one, htr, List.length_append, List.length_append]
          rfl
        have cls : ∀ (L : List Int) (fa fp s : Int) (v : Nat → Int) (x2 : Int) (m : Nat) (Q : R_iReader_readPart → Prop), s ≤ q → cdk v s (trl (L ++ l)) → 0 ≤ x2 → x2 + ((n - q : Nat) : Int) ≤ 600 → (∀ (s2 : Int) (v2 : Nat → Int), s2 ≤ q2 → cdk v2 s2 (trl (L ++ (l ++ b ++ [c]))) → wp (iReader_readProduct_b7 N (g1 N n T d) n T m 1 (x2 + 1) q2 fa fp (tK T n q2 e2) o s2 (tS T n q2) v2) Q) → wp (iReader_readProduct_b7 N (g1 N n T d) n T (m + 1) 1 x2 q fa fp (tK T n q e) o s (tS T n q) v) Q := by
          intro L fa fp s v x2 m Q hs hv hx1 hx2 hQ
          refine walk fa fp s v x2 m Q hx1 hx2 ?_
          unfold iReader_readProduct_b47
          rw [if_neg (by omega), wp_bd9]
          refine r1 (L ++ l) fa fp s v _ (by omega) hv (fun s2 v2 h2 => ?_)
          show wp (if (1 : Int) = 0 then _ else _) _
          rw [if_neg (by decide), wp_bd5]
          have hs2 : s2 + 1 ≤ q2 := by
            have a1 := h2.1
            have a2 := hv.1
            rw [trl_app, List.length_append] at a1
            omega
          refine w_emit h2 (show s2 < 600 by omega) (fun v3 h3 => ?_)
          show wp (if (1 : Int) = 0 then _ else _) _
          rw [if_neg (by decide), wp_gd]
          refine ⟨jr_iff.mpr (by omega), hQ (s2 + 1) v3 hs2 ?_⟩
          have : trl (L ++ (l ++ b ++ [c])) = trl (L ++ l ++ b) ++ [dd] := by
            rw [← List.append_assoc, ← List.append_assoc, trl_app (L ++ l ++ b), trl_one, htr]
          rw [this]
          exact h3
        have bk : ∀ C L S, fit C T n q0 L S → nt mlB (S ++ C.B) → RBp C (L ++ (l ++ b ++ [c])) S q2 e2 o → RBp C (L ++ l) S q e o := by
          intro C L S hf hnt g
          have hcc : (fun x : Int => x = 3 ∨ x = 4) c := by
            rcases hop2 with w | w
            · rw [w.2]
              decide
            · rw [w.2]
              decide
          refine ref C L S hf hnt (r6 C (L ++ l) (c :: S) (fit2 C L S hf) ?_)
          show RB C (L ++ l ++ b) ([c] ++ S) q2 e2 o
          refine g (L ++ l ++ b) [c] (by rw [List.append_assoc, List.append_assoc, List.append_assoc]) (Nat.le_refl 1) (fun x hx => ?_)
          rw [List.mem_singleton] at hx
          rw [hx]
          exact hcc
        rcases ih (n - q2) (by omega) q2 e2 (l ++ b ++ [c]) rfl p1 p2 p3 (by rw [lb]; omega) (by omega) (Ev_up (Ev_ar hE r4 hc16) (by omega)) with ⟨q3, e3, l3, s1, s2, s3, s4, s5, s6⟩ | ⟨kd, p, s1, s6⟩
        · refine Or.inl ⟨q3, e3, l3, ?_, s2, s3, s4, s5, fun C L S hf hnt g => bk C L S hf hnt (s6 C L S hf hnt g)⟩
          intro L fa fp s v x2 m Q hs hv hx1 hx2 hm hQ
          obtain ⟨m2, rfl⟩ : ∃ m2, m = m2 + 1 := ⟨m - 1, by omega⟩
          exact cls L fa fp s v x2 m2 Q hs hv hx1 hx2 (fun t2 v2 ht hv2 => s1 L fa fp t2 v2 (x2 + 1) m2 Q ht hv2 (by omega) (by omega) (by omega) hQ)
        · refine Or.inr ⟨kd, p, ?_, fun C L S hf hnt g => bk C L S hf hnt (s6 C L S hf hnt g)⟩
          intro L fa fp s v x2 m Q hs hv hx1 hx2 hm hQ
          obtain ⟨m2, rfl⟩ : ∃ m2, m = m2 + 1 := ⟨m - 1, by omega⟩
          exact cls L fa fp s v x2 m2 Q hs hv hx1 hx2 (fun t2 v2 ht hv2 => s1 L fa fp t2 v2 (x2 + 1) m2 Q ht hv2 (by omega) (by omega) (by omega) hQ)
      · refine Or.inr ⟨kd, p, ?_, fun C L S hf hnt g => ref C L S hf hnt (r6 C (L ++ l) (c :: S) (fit2 C L S hf) g)⟩
        intro L fa fp s v x2 m Q hs hv hx1 hx2 hm hQ
        obtain ⟨m2, rfl⟩ : ∃ m2, m = m2 + 1 := ⟨m - 1, by omega⟩
        refine walk fa fp s v x2 m2 Q hx1 hx2 ?_
        unfold iReader_readProduct_b47
        rw [if_neg (by omega), wp_bd9]
        refine r1 (L ++ l) fa fp s v _ (by omega) hv (fun a kd op s2 st v2 => ?_)
        show wp (if (0 : Int) = 0 then _ else _) _
        rw [if_pos rfl, wp_gd]
        exact ⟨jr_iff.mpr (by omega), lz_M (by omega) (hQ _ _ _ _ _ _)⟩
    · have n1 : ¬ tM T n q 42 := fun t => hop ⟨3, -9, Or.inl ⟨t, rfl, rfl⟩⟩
      have n2 : ¬ tM T n q 47 := fun t => hop ⟨4, -10, Or.inr ⟨t, rfl, rfl⟩⟩
      refine Or.inl ⟨q, e, l, ?_, ⟨hq, hqq, he, hl⟩, hl0, hE, ⟨n1, n2⟩, fun C L S hf hnt g => g⟩
      intro L fa fp s v x2 m Q hs hv hx1 hx2 hm hQ
      obtain ⟨m2, rfl⟩ : ∃ m2, m = m2 + 1 := ⟨m - 1, by omega⟩
      show wp (iReader_readProduct_b7_F N (g1 N n T d) n T (iReader_readProduct_b7 N (g1 N n T d) n T m2) 1 x2 q fa fp (tK T n q e) o s (tS T n q) v) Q
      unfold iReader_readProduct_b7_F
      have fin := hQ s v hv
      rw [wp_ite]
      refine ⟨fun _ => ?_, fun _ => ?_⟩
      · rw [wp_gd, wp_some]
        exact ⟨by decide, fin⟩
      · rw [if_neg (by decide), wp_bd4]
        refine w_takeMark hN hn he (by unfold cMk; decide) (fun t => absurd t n1) (fun t => ?_)
        show wp (if (0 : Int) = 0 then _ else _) _
        rw [if_pos rfl, wp_bd4]
        refine w_takeMark hN hn he (by unfold cMk; decide) (fun t => absurd t n2) (fun t => ?_)
        show wp (if (0 : Int) = 0 then _ else _) _
        rw [if_pos rfl]
        unfold iReader_readProduct_b47
        rw [if_pos rfl, wp_some]
        exact fin
theorem sim_M [Inhabited Frm] {N n d D : Nat} {T : Nat → Int} {o : Int} (hN : 5000 ≤ N) (hn : n ≤ 600) (hP : ∀ q e, q ≤ n → tSk T n q = q → e ≤ (q : Int) → SimP T n (g1 N n T d 0) q e o D) : ∀ q e, q ≤ n → tSk T n q = q → e ≤ (q : Int) → SimM T n (g1 N n T (d + 1) 1) q e o (D + 1) := by
  intro q e hq hqq he
  have unf : g1 N n T (d + 1) 1 = iReader_readProduct_G N (g1 N n T d) n T := rfl
  rw [unf]
  rcases hP q e hq hqq he with ⟨q1, e1, a, r1, r2, r3, r4, r6⟩ | ⟨kd, p, r1, r6⟩
  · obtain ⟨p1, p2, p3, p4⟩ := r2
    have c1 : ∀ (L : List Int) (fa fp s : Int) (v : Nat → Int) (Q : R_iReader_readPart → Prop), s ≤ q → cdk v s (trl L) → (∀ (s2 : Int) (v2 : Nat → Int), s2 ≤ q1 → cdk v2 s2 (trl (L ++ a)) → wp (iReader_readProduct_b7 N (g1 N n T d) n T N 1 0 q1 fa fp (tK T n q1 e1) o s2 (tS T n q1) v2) Q) → wp (iReader_readProduct_G N (g1 N n T d) n T q fa fp (tK T n q e) o s (tS T n q) v) Q := by
      intro L fa fp s v Q hs hv hQ
      unfold iReader_readProduct_G
      rw [wp_bd9]
      refine r1 L fa fp s v _ hs hv (fun s2 v2 h2 => hQ s2 v2 ?_ h2)
      have a1 := h2.1
      have a2 := hv.1
      rw [trl_app, List.length_append] at a1
      omega
    have bk : ∀ C L S, fit C T n q L S → nt mlB (S ++ C.B) → RBp C (L ++ a) S q1 e1 o → RA C L S q e o := by
      intro C L S hf hnt hg
      exact r6 C L S hf (hg (L ++ a) [] (List.append_nil _).symm (Nat.zero_le _) (fun x hx => absurd hx List.not_mem_nil))
    rcases loop_M hN hn hP q (n - q1) q1 e1 a rfl p1 p2 p3 p4 r3 (Ev_up r4 (Nat.le_succ _)) with ⟨q3, e3, l3, s1, s2, s3, s4, s5, s6⟩ | ⟨kd, p, s1, s6⟩
    · refine Or.inl ⟨q3, e3, l3, ?_, s2, s3, s4, s5, fun C L S hf hnt g => bk C L S hf hnt (s6 C L S hf hnt g)⟩
      intro L fa fp s v Q hs hv hQ
      exact c1 L fa fp s v Q hs hv (fun t2 v2 ht hv2 => s1 L fa fp t2 v2 0 N Q ht hv2 (Int.le_refl 0) (by omega) (by omega) hQ)
    · refine Or.inr ⟨kd, p, ?_, fun C L S hf hnt g => bk C L S hf hnt (s6 C L S hf hnt g)⟩
      intro L fa fp s v Q hs hv hQ
      exact c1 L fa fp s v Q hs hv (fun t2 v2 ht hv2 => s1 L fa fp t2 v2 0 N Q ht hv2 (Int.le_refl 0) (by omega) (by omega) hQ)
  · refine Or.inr ⟨kd, p, ?_, fun C L S hf hnt g => ?_⟩
    · intro L fa fp s v Q hs hv hQ
      unfold iReader_readProduct_G
      rw [wp_bd9]
      exact r1 L fa fp s v _ hs hv (fun a kd op s2 st v2 => lz_M (by omega) (hQ _ _ _ _ _ _))
    · exact r6 C L S hf  g
def opS (T : Nat → Int) (n q : Nat) (c d : Int) : Prop := tM T n q 43 ∧ c = 1 ∧ d = -7 ∨ tM T n q 45 ∧ c = 2 ∧ d = -8
def LKS (N : Nat) (T : Nat → Int) (n d : Nat) (q : Nat) (e o : Int) (l : List Int) (q2 : Nat) (e2 : Int) (l2 : List Int) : Prop := ∀ (L : List Int) (fa fp s : Int) (v : Nat → Int) (x2 : Int) (m : Nat) (Q : R_iReader_readPart → Prop), s ≤ q → cdk v s (trl (L ++ l)) → 0 ≤ x2 → x2 + ((n - q : Nat) : Int) ≤ 600 → n - q < m → (∀ s2 v2, cdk v2 s2 (trl (L ++ l2)) → Q (1, q2, fa, fp, tK T n q2 e2, o, s2, tS T n q2, v2)) → wp (iReader_readSum_b7 N (g1 N n T d) n T m 1 x2 q fa fp (tK T n q e) o s (tS T n q) v) Q
def LBS (N : Nat) (T : Nat → Int) (n d : Nat) (q : Nat) (e o : Int) (l : List Int) (k p : Int) : Prop := ∀ (L : List Int) (fa fp s : Int) (v : Nat → Int) (x2 : Int) (m : Nat) (Q : R_iReader_readPart → Prop), s ≤ q → cdk v s (trl (L ++ l)) → 0 ≤ x2 → x2 + ((n - q : Nat) : Int) ≤ 600 → n - q < m → (∀ a kd op s2 st v2, Q (0, a, k, p, kd, op, s2, st, v2)) → wp (iReader_readSum_b7 N (g1 N n T d) n T m 1 x2 q fa fp (tK T n q e) o s (tS T n q) v) Q
theorem lz_S {N n d m : Nat} {T : Nat → Int} {x2 a fa fp kd op s st : Int} {v : Nat → Int} {Q : R_iReader_readPart → Prop} (hm : 0 < m) (h : Q (0, a, fa, fp, kd, op, s, st, v)) : wp (iReader_readSum_b7 N (g1 N n T d) n T m 0 x2 a fa fp kd op s st v) Q := by
  obtain ⟨m2, rfl⟩ : ∃ m2, m = m2 + 1 := ⟨m - 1, by omega⟩
  show wp (iReader_readSum_b7_F N (g1 N n T d) n T (iReader_readSum_b7 N (g1 N n T d) n T m2) 0 x2 a fa fp kd op s st v) Q
  unfold iReader_readSum_b7_F
  rw [wp_ite]
  refine ⟨fun _ => ?_, fun _ => ?_⟩
  · rw [wp_gd, wp_some]
    exact ⟨by decide, h⟩
  · rw [if_pos rfl, wp_gd, wp_some]
    exact ⟨by decide, h⟩
theorem loop_S [Inhabited Frm] {N n d D : Nat} {T : Nat → Int} {o : Int} (hN : 5000 ≤ N) (hn : n ≤ 600) (hP : ∀ q e, q ≤ n → tSk T n q = q → e ≤ (q : Int) → SimM T n (g1 N n T d 1) q e o D) (q0 : Nat) : ∀ (k q : Nat) (e : Int) (l : List Int), n - q = k → q ≤ n → tSk T n q = q → e ≤ q → (trl l).length + q0 ≤ q → q0 < q → EvS l (D + 1) → (¬ tM T n q 42 ∧ ¬ tM T n q 47) → (∃ q2 e2 l2, LKS N T n d q e o l q2 e2 l2 ∧ plc T n q0 q2 e2 l2 ∧ q0 < q2 ∧ EvS l2 (D + 1) ∧ nOp T n q2 ∧ ∀ C L S, fit C T n q0 L S → nt asB (S ++ C.B) → RBs C (L ++ l2) S q2 e2 o → RBs C (L ++ l) S q e o) ∨ ∃ k p, LBS N T n d q e o l k p ∧ ∀ C L S, fit C T n q0 L S → nt asB (S ++ C.B) → FL C k p → RBs C (L ++ l) S q e o := by
  intro k
  induction k using Nat.strongRecOn with
  | ind k ih =>
    intro q e l hk hq hqq he hl hl0 hE r0
    by_cases hop : ∃ c dd, opS T n q c dd
    · obtain ⟨c, dd, hop⟩ := hop
      have hqn : q < n := by
        rcases hop with g | g
        · exact g.1.1
        · exact g.1.1
      have hop2 : tM T n q 43 ∧ c = 1 ∨ tM T n q 45 ∧ c = 2 := by
        rcases hop with g | g
        · exact Or.inl ⟨g.1, g.2.1⟩
        · exact Or.inr ⟨g.1, g.2.1⟩
      have hdd : dd = -7 ∨ dd = -8 := by
        rcases hop with g | g
        · exact Or.inl g.2.2
        · exact Or.inr g.2.2
      have hc16 : 1 ≤ c ∧ c ≤ 6 := by
        rcases hop2 with g | g
        · omega
        · omega
      have htr : trc c = [dd] := by
        rcases hop with g | g
        · rw [g.2.1, g.2.2]
          rfl
        · rw [g.2.1, g.2.2]
          rfl
      have z1 : q + 1 ≤ tSk T n (q + 1) := lR_ge
      have z2 : tSk T n (q + 1) ≤ n := lR_le (by omega)
      have z3 : tSk T n (tSk T n (q + 1)) = tSk T n (q + 1) := lR_id
      have ll : l.length ≤ (trl l).length := trl_len l
      have walk : ∀ (fa fp s : Int) (v : Nat → Int) (x2 : Int) (m : Nat) (Q : R_iReader_readPart → Prop), 0 ≤ x2 → x2 + ((n - q : Nat) : Int) ≤ 600 → wp (iReader_readSum_b47 N (g1 N n T d) n T (iReader_readSum_b7 N (g1 N n T d) n T m) x2 dd (tSk T n (q + 1) : Nat) fa fp (tK T n (tSk T n (q + 1)) e) o s (tS T n (tSk T n (q + 1)) : Nat) v) Q → wp (iReader_readSum_b7 N (g1 N n T d) n T (m + 1) 1 x2 q fa fp (tK T n q e) o s (tS T n q) v) Q := by
        intro fa fp s v x2 m Q hx1 hx2 hb
        show wp (iReader_readSum_b7_F N (g1 N n T d) n T (iReader_readSum_b7 N (g1 N n T d) n T m) 1 x2 q fa fp (tK T n q e) o s (tS T n q) v) Q
        unfold iReader_readSum_b7_F
        rw [if_neg (by omega), if_neg (by decide), wp_bd4]
        refine w_takeMark hN hn he (by unfold cMk; decide) (fun t => ?_) (fun t => ?_)
        · show wp (if (1 : Int) = 0 then _ else _) _
          rw [if_neg (by decide)]
          have : dd = -7 := by
            rcases hop with g | g
            · exact g.2.2
            · exact absurd g.1 (tM_u t (by decide))
          rw [this] at hb
          exact hb
        · show wp (if (0 : Int) = 0 then _ else _) _
          rw [if_pos rfl, wp_bd4]
          have g := hop.resolve_left (fun g => t g.1)
          refine w_takeMark hN hn he (by unfold cMk; decide) (fun t => ?_) (fun t => absurd g.1 t)
          show wp (if (1 : Int) = 0 then _ else _) _
          rw [if_neg (by decide)]
          rw [g.2.2] at hb
          exact hb
      have ref : ∀ C L S, fit C T n q0 L S → nt asB (S ++ C.B) → RA C (L ++ l) (c :: S) (tSk T n (q + 1)) e o → RBs C (L ++ l) S q e o := by
        intro C L S hf hnt hra L1 P hLP hP1 hP2
        obtain ⟨f1, f2, f3, f4, f5⟩ := hf
        have e1 : (L ++ l).length = (L1 ++ P).length := by rw [hLP]
        rw [List.length_append, List.length_append] at e1
        have tw := tkw_t (f := asB) (W := S ++ C.B) (P := P) hnt (fun x hx => asB_iff.mpr (hP2 x hx))
        rw [← List.append_assoc] at tw
        have ra2 := hra
        rw [hLP] at ra2
        subst f2
        subst f3
        exact rb_add f1 (S2 := S) (c := c) (by rw [List.append_assoc, List.length_append]; omega) (by omega) hop2 tw.2 (by rw [tw.1]; exact ra2)
      have fit2 : ∀ C L S, fit C T n q0 L S → fit C T n (tSk T n (q + 1)) (L ++ l) (c :: S) := by
        intro C L S hf
        obtain ⟨f1, f2, f3, f4, f5⟩ := hf
        refine ⟨f1, f2, f3, ?_, ?_⟩
        · show (S ++ C.B).length + 1 ≤ _
          omega
        · show (L ++ l).length + ((S ++ C.B).length + 1) ≤ _
          have e9 : (L ++ l).length = L.length + l.length := List.length_append
          omega
      rcases hP (tSk T n (q + 1)) e z2 z3 (by omega) with ⟨q2, e2, b, r1, r2, r3, r4, r5, r6⟩ | ⟨kd, p, r1, r6⟩
      · obtain ⟨p1, p2, p3, p4⟩ := r2
        have lb : (trl (l ++ b ++ [c])).length = (trl l).length + (trl b).length + 1 := by
          rw [trl_app, trl_app, trl_one, htr, List.length_append, List.length_append]
          rfl
        have cls : ∀ (L : List Int) (fa fp s : Int) (v : Nat → Int) (x2 : Int) (m : Nat) (Q : R_iReader_readPart → Prop), s ≤ q → cdk v s (trl (L ++ l)) → 0 ≤ x2 → x2 + ((n - q : Nat) : Int) ≤ 600 → (∀ (s2 : Int) (v2 : Nat → Int), s2 ≤ q2 → cdk v2 s2 (trl (L ++ (l ++ b ++ [c]))) → wp (iReader_readSum_b7 N (g1 N n T d) n T m 1 (x2 + 1) q2 fa fp (tK T n q2 e2) o s2 (tS T n q2) v2) Q) → wp (iReader_readSum_b7 N (g1 N n T d) n T (m + 1) 1 x2 q fa fp (tK T n q e) o s (tS T n q) v) Q := by
          intro L fa fp s v x2 m Q hs hv hx1 hx2 hQ
          refine walk fa fp s v x2 m Q hx1 hx2 ?_
          unfold iReader_readSum_b47
          rw [if_neg (by omega), wp_bd9]
          refine r1 (L ++ l) fa fp s v _ (by omega) hv (fun s2 v2 h2 => ?_)
          show wp (if (1 : Int) = 0 then _ else _) _
          rw [if_neg (by decide), wp_bd5]
          have hs2 : s2 + 1 ≤ q2 := by
            have a1 := h2.1
            have a2 := hv.1
            rw [trl_app, List.length_append] at a1
            omega
          refine w_emit h2 (show s2 < 600 by omega) (fun v3 h3 => ?_)
          show wp (if (1 : Int) = 0 then _ else _) _
          rw [if_neg (by decide), wp_gd]
          refine ⟨jr_iff.mpr (by omega), hQ (s2 + 1) v3 hs2 ?_⟩
          have : trl (L ++ (l ++ b ++ [c])) = trl (L ++ l ++ b) ++ [dd] := by
            rw [← List.append_assoc, ← List.append_assoc, trl_app (L ++ l ++ b), trl_one, htr]
          rw [this]
          exact h3
        have bk : ∀ C L S, fit C T n q0 L S → nt asB (S ++ C.B) → RBs C (L ++ (l ++ b ++ [c])) S q2 e2 o → RBs C (L ++ l) S q e o := by
          intro C L S hf hnt g
          have hcc : (fun x : Int => 1 ≤ x ∧ x ≤ 4) c := by
            rcases hop2 with w | w
            · rw [w.2]
              decide
            · rw [w.2]
              decide
          refine ref C L S hf hnt (r6 C (L ++ l) (c :: S) (fit2 C L S hf) (fun x V hxV hx => by (have e := List.cons.inj hxV; have e1 := mlB_iff.mp hx; omega)) ?_)
          intro L1 P hLP hP1 hP2
          have g2 := g L1 (P ++ [c]) (by rw [← List.append_assoc, ← List.append_assoc L l b, hLP, List.append_assoc]) (by rw [List.length_append]; show P.length + 1 ≤ 2; omega) (fun x hx => by
            rcases List.mem_append.mp hx with hx | hx
            · have := hP2 x hx
              omega
            · rw [List.mem_singleton] at hx
              rw [hx]
              exact hcc)
          rw [List.append_assoc] at g2
          exact g2
        rcases ih (n - q2) (by omega) q2 e2 (l ++ b ++ [c]) rfl p1 p2 p3 (by rw [lb]; omega) (by omega) (Ev_up (Ev_ar hE r4 hc16) (by omega)) r5 with ⟨q3, e3, l3, s1, s2, s3, s4, s5, s6⟩ | ⟨kd, p, s1, s6⟩
        · refine Or.inl ⟨q3, e3, l3, ?_, s2, s3, s4, s5, fun C L S hf hnt g => bk C L S hf hnt (s6 C L S hf hnt g)⟩
          intro L fa fp s v x2 m Q hs hv hx1 hx2 hm hQ
          obtain ⟨m2, rfl⟩ : ∃ m2, m = m2 + 1 := ⟨m - 1, by omega⟩
          exact cls L fa fp s v x2 m2 Q hs hv hx1 hx2 (fun t2 v2 ht hv2 => s1 L fa fp t2 v2 (x2 + 1) m2 Q ht hv2 (by omega) (by omega) (by omega) hQ)
        · refine Or.inr ⟨kd, p, ?_, fun C L S hf hnt g => bk C L S hf hnt (s6 C L S hf hnt g)⟩
          intro L fa fp s v x2 m Q hs hv hx1 hx2 hm hQ
          obtain ⟨m2, rfl⟩ : ∃ m2, m = m2 + 1 := ⟨m - 1, by omega⟩
          exact cls L fa fp s v x2 m2 Q hs hv hx1 hx2 (fun t2 v2 ht hv2 => s1 L fa fp t2 v2 (x2 + 1) m2 Q ht hv2 (by omega) (by omega) (by omega) hQ)
      · refine Or.inr ⟨kd, p, ?_, fun C L S hf hnt g => ref C L S hf hnt (r6 C (L ++ l) (c :: S) (fit2 C L S hf) (fun x V hxV hx => by (have e := List.cons.inj hxV; have e1 := mlB_iff.mp hx; omega)) g)⟩
        intro L fa fp s v x2 m Q hs hv hx1 hx2 hm hQ
        obtain ⟨m2, rfl⟩ : ∃ m2, m = m2 + 1 := ⟨m - 1, by omega⟩
        refine walk fa fp s v x2 m2 Q hx1 hx2 ?_
        unfold iReader_readSum_b47
        rw [if_neg (by omega), wp_bd9]
        refine r1 (L ++ l) fa fp s v _ (by omega) hv (fun a kd op s2 st v2 => ?_)
        show wp (if (0 : Int) = 0 then _ else _) _
        rw [if_pos rfl, wp_gd]
        exact ⟨jr_iff.mpr (by omega), lz_S (by omega) (hQ _ _ _ _ _ _)⟩
    · have n1 : ¬ tM T n q 43 := fun t => hop ⟨1, -7, Or.inl ⟨t, rfl, rfl⟩⟩
      have n2 : ¬ tM T n q 45 := fun t => hop ⟨2, -8, Or.inr ⟨t, rfl, rfl⟩⟩
      refine Or.inl ⟨q, e, l, ?_, ⟨hq, hqq, he, hl⟩, hl0, hE, ⟨r0.1, r0.2, n1, n2⟩, fun C L S hf hnt g => g⟩
      intro L fa fp s v x2 m Q hs hv hx1 hx2 hm hQ
      obtain ⟨m2, rfl⟩ : ∃ m2, m = m2 + 1 := ⟨m - 1, by omega⟩
      show wp (iReader_readSum_b7_F N (g1 N n T d) n T (iReader_readSum_b7 N (g1 N n T d) n T m2) 1 x2 q fa fp (tK T n q e) o s (tS T n q) v) Q
      unfold iReader_readSum_b7_F
      have fin := hQ s v hv
      rw [wp_ite]
      refine ⟨fun _ => ?_, fun _ => ?_⟩
      · rw [wp_gd, wp_some]
        exact ⟨by decide, fin⟩
      · rw [if_neg (by decide), wp_bd4]
        refine w_takeMark hN hn he (by unfold cMk; decide) (fun t => absurd t n1) (fun t => ?_)
        show wp (if (0 : Int) = 0 then _ else _) _
        rw [if_pos rfl, wp_bd4]
        refine w_takeMark hN hn he (by unfold cMk; decide) (fun t => absurd t n2) (fun t => ?_)
        show wp (if (0 : Int) = 0 then _ else _) _
        rw [if_pos rfl]
        unfold iReader_readSum_b47
        rw [if_pos rfl, wp_some]
        exact fin
theorem sim_S [Inhabited Frm] {N n d D : Nat} {T : Nat → Int} {o : Int} (hN : 5000 ≤ N) (hn : n ≤ 600) (hP : ∀ q e, q ≤ n → tSk T n q = q → e ≤ (q : Int) → SimM T n (g1 N n T d 1) q e o D) : ∀ q e, q ≤ n → tSk T n q = q → e ≤ (q : Int) → SimS T n (g1 N n T (d + 1) 2) q e o (D + 1) := by
  intro q e hq hqq he
  have unf : g1 N n T (d + 1) 2 = iReader_readSum_G N (g1 N n T d) n T := rfl
  rw [unf]
  rcases hP q e hq hqq he with ⟨q1, e1, a, r1, r2, r3, r4, r5, r6⟩ | ⟨kd, p, r1, r6⟩
  · obtain ⟨p1, p2, p3, p4⟩ := r2
    have c1 : ∀ (L : List Int) (fa fp s : Int) (v : Nat → Int) (Q : R_iReader_readPart → Prop), s ≤ q → cdk v s (trl L) → (∀ (s2 : Int) (v2 : Nat → Int), s2 ≤ q1 → cdk v2 s2 (trl (L ++ a)) → wp (iReader_readSum_b7 N (g1 N n T d) n T N 1 0 q1 fa fp (tK T n q1 e1) o s2 (tS T n q1) v2) Q) → wp (iReader_readSum_G N (g1 N n T d) n T q fa fp (tK T n q e) o s (tS T n q) v) Q := by
      intro L fa fp s v Q hs hv hQ
      unfold iReader_readSum_G
      rw [wp_bd9]
      refine r1 L fa fp s v _ hs hv (fun s2 v2 h2 => hQ s2 v2 ?_ h2)
      have a1 := h2.1
      have a2 := hv.1
      rw [trl_app, List.length_append] at a1
      omega
    have bk : ∀ C L S, fit C T n q L S → nt asB (S ++ C.B) → RBs C (L ++ a) S q1 e1 o → RA C L S q e o := by
      intro C L S hf hnt hg
      refine r6 C L S hf (fun x V hxV hx => hnt x V hxV (asB_iff.mpr (by have := mlB_iff.mp hx; omega))) (fun L1 P h1 h2 h3 => hg L1 P h1 (by omega) (fun x hx => by have := h3 x hx; omega))
    rcases loop_S hN hn hP q (n - q1) q1 e1 a rfl p1 p2 p3 p4 r3 (Ev_up r4 (Nat.le_succ _)) r5 with ⟨q3, e3, l3, s1, s2, s3, s4, s5, s6⟩ | ⟨kd, p, s1, s6⟩
    · refine Or.inl ⟨q3, e3, l3, ?_, s2, s3, s4, s5, fun C L S hf hnt g => bk C L S hf hnt (s6 C L S hf hnt g)⟩
      intro L fa fp s v Q hs hv hQ
      exact c1 L fa fp s v Q hs hv (fun t2 v2 ht hv2 => s1 L fa fp t2 v2 0 N Q ht hv2 (Int.le_refl 0) (by omega) (by omega) hQ)
    · refine Or.inr ⟨kd, p, ?_, fun C L S hf hnt g => bk C L S hf hnt (s6 C L S hf hnt g)⟩
      intro L fa fp s v Q hs hv hQ
      exact c1 L fa fp s v Q hs hv (fun t2 v2 ht hv2 => s1 L fa fp t2 v2 0 N Q ht hv2 (Int.le_refl 0) (by omega) (by omega) hQ)
  · refine Or.inr ⟨kd, p, ?_, fun C L S hf hnt g => ?_⟩
    · intro L fa fp s v Q hs hv hQ
      unfold iReader_readSum_G
      rw [wp_bd9]
      exact r1 L fa fp s v _ hs hv (fun a kd op s2 st v2 => lz_S (by omega) (hQ _ _ _ _ _ _))
    · exact r6 C L S hf (fun x V hxV hx => hnt x V hxV (asB_iff.mpr (by have := mlB_iff.mp hx; omega))) g
