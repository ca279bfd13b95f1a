set_option maxHeartbeats 4000000
set_option maxRecDepth 100000
theorem sim_V [Inhabited Frm] {N n d D : Nat} {T : Nat → Int} {o : Int} (hN : 5000 ≤ N) (hn : n ≤ 600) (hP : ∀ q e, q ≤ n → tSk T n q = q → e ≤ (q : Int) → SimB T n (g2 N n T d 0) q e o D) : ∀ q e, q ≤ n → tSk T n q = q → e ≤ (q : Int) → SimV T n (g2 N n T (d + 1) 2) q e o (D + 1) := by
  intro q e hq hqq he
  have unf : g2 N n T (d + 1) 2 = iReader_readTest_G N (g2 N n T d) n T := rfl
  rw [unf]
  rcases hP q e hq hqq he with ⟨q1, e1, a, r1, r2, r3, r4, r5, r6⟩ | ⟨kd, p, r1, r6⟩
  · obtain ⟨p1, p2, p3, p4⟩ := r2
    have c1 : ∀ (L : List Int) (fa fp s : Int) (v : Nat → Int) (Q : R_iReader_readPart → Prop), s ≤ q → cdk v s (trl L) → (∀ (s2 : Int) (v2 : Nat → Int), s2 ≤ q1 → cdk v2 s2 (trl (L ++ a)) → wp (iReader_readTest_b7 N (g2 N n T d) n T N 1 0 q1 fa fp (tK T n q1 e1) o s2 (tS T n q1) v2) Q) → wp (iReader_readTest_G N (g2 N n T d) n T q fa fp (tK T n q e) o s (tS T n q) v) Q := by
      intro L fa fp s v Q hs hv hQ
      unfold iReader_readTest_G
      rw [wp_bd9]
      refine r1 L fa fp s v _ hs hv (fun s2 v2 h2 => hQ s2 v2 ?_ h2)
      have a1 := h2.1
      have a2 := hv.1
      rw [trl_app, List.length_append] at a1
      omega
    have bk : ∀ C L S, fitT C T n q L S → sT S → TBt C (L ++ a) S q1 e1 o → TA C L S q e o := by
      intro C L S hf hnt hg
      exact r6 C L S hf (sT_nt hnt).1 (fun L1 P h1 h2 h3 => hg L1 P h1 (by omega) (fun x hx => Or.inl (h3 x hx)))
    rcases loop_V hN hn hP q (n - q1) q1 e1 a rfl p1 p2 p3 p4 r3 (Ev_up r4 (Nat.le_succ _)) r5 with ⟨q3, e3, l3, s1, s2, s3, s4, s5, s6⟩ | ⟨kd, p, s1, s6⟩
    · refine Or.inl ⟨q3, e3, l3, ?_, s2, s3, s4, s5, fun C L S hf hnt g => bk C L S hf hnt (s6 C L S hf hnt g)⟩
      intro L fa fp s v Q hs hv hQ
      exact c1 L fa fp s v Q hs hv (fun t2 v2 ht hv2 => s1 L fa fp t2 v2 0 N Q ht hv2 (Int.le_refl 0) (by omega) (by omega) hQ)
    · refine Or.inr ⟨kd, p, ?_, fun C L S hf hnt g => bk C L S hf hnt (s6 C L S hf hnt g)⟩
      intro L fa fp s v Q hs hv hQ
      exact c1 L fa fp s v Q hs hv (fun t2 v2 ht hv2 => s1 L fa fp t2 v2 0 N Q ht hv2 (Int.le_refl 0) (by omega) (by omega) hQ)
  · refine Or.inr ⟨kd, p, ?_, fun C L S hf hnt g => ?_⟩
    · intro L fa fp s v Q hs hv hQ
      unfold iReader_readTest_G
      rw [wp_bd9]
      exact r1 L fa fp s v _ hs hv (fun a kd op s2 st v2 => lz_V (by omega) (hQ _ _ _ _ _ _))
    · exact r6 C L S hf (sT_nt hnt).1 g
