set_option maxHeartbeats 4000000
set_option maxRecDepth 100000
theorem w_110 [Inhabited Frm] {N : Nat} {n a bp base e o : Int} {W : Nat → Nat → Int} {T k : Nat → Int} {Q : R_iM_test → Prop} : ∀ (P L : List Int) (m : Nat) (s w : Int) (v : Nat → Int), P.length < m → P.length ≤ 700 → L.length + P.length < 100000 → w = P.length → stk k P → cod v s L → (∀ s2 v2, cod v2 s2 (L ++ P) → Q (a, 0, bp, base, s2, e, o, 0, v2, k)) → wp (iM_test_b110 N n (W 17) (W 19) (W 8) (W 5) (W 4) (W 16) (W 20) (W 9) (W 3) (W 1) (W 2) (W 18) T (W 6) (W 7) a 0 bp base e o k m s w v) Q := by
  intro P
  induction P with
  | nil =>
    intro L m s w v hm hl hL hw h hv kk
    obtain ⟨m2, rfl⟩ : ∃ m2, m = m2 + 1 := ⟨m - 1, by have : 0 < m := hm; omega⟩
    have hw2 : w = 0 := hw
    show wp (iM_test_b110_F N n (W 17) (W 19) (W 8) (W 5) (W 4) (W 16) (W 20) (W 9) (W 3) (W 1) (W 2) (W 18) T (W 6) (W 7) a 0 bp base e o k _ s w v) Q
    unfold iM_test_b110_F
    rw [if_pos rfl, if_pos (by omega), wp_some, hw2]
    exact kk s v (by rw [List.append_nil]; exact hv)
  | cons x P ih =>
    intro L m s w v hm hl hL hw h hv kk
    have hm1 : P.length + 1 < m := hm
    obtain ⟨m2, rfl⟩ : ∃ m2, m = m2 + 1 := ⟨m - 1, by omega⟩
    have hw2 : w = (P.length : Int) + 1 := hw
    have hl2 : P.length + 1 ≤ 700 := hl
    have hL2 : L.length + (P.length + 1) < 100000 := hL
    show wp (iM_test_b110_F N n (W 17) (W 19) (W 8) (W 5) (W 4) (W 16) (W 20) (W 9) (W 3) (W 1) (W 2) (W 18) T (W 6) (W 7) a 0 bp base e o k (iM_test_b110 N n (W 17) (W 19) (W 8) (W 5) (W 4) (W 16) (W 20) (W 9) (W 3) (W 1) (W 2) (W 18) T (W 6) (W 7) a 0 bp base e o k m2) s w v) Q
    unfold iM_test_b110_F
    rw [if_pos rfl, if_neg (by omega), wp_bd3]
    refine w_drops (W := P) hw (by omega) h hv (by omega) (fun v2 h2 => ?_)
    exact ih (L ++ [x]) m2 (s + 1) _ v2 (by omega) (by omega) (by rw [List.length_append]; show L.length + 1 + P.length < 100000; omega) rfl h.2 h2 (fun s3 v3 h3 => kk s3 v3 (by rw [List.append_assoc] at h3; exact h3))
/-- the reference's test goes from L at q to the result, or fails -/
def RTok [Inhabited Frm] (T : Nat → Int) (n q : Nat) (e : Int) (q2 : Nat) (e2 : Int) (l : List Int) : Prop := ∀ (N : Nat) (W : Nat → Nat → Int) (x : Nat) (bp : MOne) (base s : Int) (v k : Nat → Int) (L : List Int) (Q : R_iM_test → Prop), 5000 ≤ N → (∀ a, a < 21 → ∀ i, i < kS_len a → W a i = jch a i) → x ≤ n → tSk T n x = q → cod v s L → L.length ≤ q → (∀ (bp2 : MOne) bs2 s2 v2 k2, cod v2 s2 (L ++ l) → Q ((q2 : Int), 0, bp2, bs2, s2, e2, 0, 0, v2, k2)) → wp (iM_test N x 0 bp base s n e 0 0 (W 17) (W 19) v (W 8) (W 5) (W 4) (W 16) (W 20) (W 9) (W 3) (W 1) (W 2) (W 18) T (W 6) k (W 7)) Q
def RTbad [Inhabited Frm] (T : Nat → Int) (n q : Nat) (e kd p : Int) : Prop := ∀ (N : Nat) (W : Nat → Nat → Int) (x : Nat) (bp : MOne) (base s : Int) (v k : Nat → Int) (L : List Int) (Q : R_iM_test → Prop), 5000 ≤ N → (∀ a, a < 21 → ∀ i, i < kS_len a → W a i = jch a i) → x ≤ n → tSk T n x = q → cod v s L → L.length ≤ q → (kd ≠ 0 → ∀ a bs2 s2 e2 o2 w2 v2 k2, frT v2 s2 → Q (a, kd, p, bs2, s2, e2, o2, w2, v2, k2)) → wp (iM_test N x 0 bp base s n e 0 0 (W 17) (W 19) v (W 8) (W 5) (W 4) (W 16) (W 20) (W 9) (W 3) (W 1) (W 2) (W 18) T (W 6) k (W 7)) Q
theorem tkw_no {f : Int → Bool} : ∀ {P : List Int}, (∀ x, x ∈ P → ¬ f x = true) → tkw f P = [] ∧ drw f P = P
  | [], _ => ⟨rfl, rfl⟩
  | x :: P, h => by
    have hx := h x (List.mem_cons_self ..)
    rw [tkw_n hx, drw_n hx]
    exact ⟨rfl, rfl⟩
theorem test_both [Inhabited Frm] {T : Nat → Int} {n : Nat} {f : RF} {q : Nat} {e : Int} {D : Nat} (hn : n ≤ 600) (hTT : ∀ k, 0 ≤ T k ∧ T k ≤ 255) (h : SimV T n f q e 0 D) : (∃ q2 e2 l, CLok T n f q e 0 q2 e2 l ∧ plc T n q q2 e2 l ∧ q < q2 ∧ EvT l D ∧ RTok T n q e q2 e2 l) ∨ ∃ kd p, CLbad T n f q e 0 kd p ∧ RTbad T n q e kd p := by
  have go : ∀ (N : Nat) (W : Nat → Nat → Int) (x : Nat) (bp : MOne) (base s : Int) (v k : Nat → Int) (L : List Int) (Q : R_iM_test → Prop), 5000 ≤ N → (∀ a, a < 21 → ∀ i, i < kS_len a → W a i = jch a i) → x ≤ n → tSk T n x = q → cod v s L → L.length ≤ q → ∃ C : Tx, fitT C T n q L [] ∧ C.Q = Q ∧ (∀ a b p bs s e o w v k, C.K a b p bs s e o w v k = iM_test_b110 N n (W 17) (W 19) (W 8) (W 5) (W 4) (W 16) (W 20) (W 9) (W 3) (W 1) (W 2) (W 18) T (W 6) (W 7) a b p bs e o k N s w v) ∧ (TA C L [] q e 0 → wp (iM_test N x 0 bp base s n e 0 0 (W 17) (W 19) v (W 8) (W 5) (W 4) (W 16) (W 20) (W 9) (W 3) (W 1) (W 2) (W 18) T (W 6) k (W 7)) Q) := by
    intro N W x bp base s v k L Q hN hW hx hxq hv hL
    refine ⟨(N, n, T, W, (fun a b p bs s e o w v k => iM_test_b110 N n (W 17) (W 19) (W 8) (W 5) (W 4) (W 16) (W 20) (W 9) (W 3) (W 1) (W 2) (W 18) T (W 6) (W 7) a b p bs e o k N s w v), Q), ⟨⟨hN, hn, hTT, hW⟩, rfl, rfl, Nat.zero_le _, hL⟩, rfl, fun _ _ _ _ _ _ _ _ _ _ => rfl, fun hra => ?_⟩
    exact hra x N bp base s 0 v k hx hxq (show n - q + 1 < N by omega) hv rfl trivial
  rcases h with ⟨q2, e2, l, r1, r2, r3, r4, r5, r6⟩ | ⟨kd, p, r1, r6⟩
  · refine Or.inl ⟨q2, e2, l, r1, r2, r3, r4, ?_⟩
    intro N W x bp base s v k L Q hN hW hx hxq hv hL hQ
    obtain ⟨C, c1, c3, c5, c6⟩ := go N W x bp base s v k L Q hN hW hx hxq hv hL
    obtain ⟨p1, p2, p3, p4⟩ := r2
    have ll : l.length ≤ (trl l).length := trl_len l
    refine c6 (r6 C L [] c1 (Or.inl rfl) ?_)
    intro L1 P hLP hP1 hP2
    obtain ⟨f1, f2, f3, f4, f5⟩ := c1
    have e1 : (L ++ l).length = (L1 ++ P).length := by rw [hLP]
    rw [List.length_append, List.length_append] at e1
    rw [List.append_nil]
    unfold TB
    have k16 : ∀ x, x ∈ P → ¬ n16 x = true := fun x hx g => by
      have g2 := n16_iff.mp g
      have := hP2 x hx
      omega
    have k25 : ¬ 25 ∈ P := fun g => by
      have := hP2 25 g
      omega
    rw [(tkw_no k16).1, (tkw_no k16).2, List.append_nil]
    rw [show (0 : Int) - (([] : List Int).length : Int) = 0 from rfl]
    refine tc_end f1 (by omega) (by omega) (by rw [f2, f3]; exact r5.1) (by rw [f2, f3]; exact r5.2) (fun _ => k25) (fun _ => ?_) (fun g => absurd g k25)
    intro bp2 bs2 s2 w2 v2 k2 g1 g2 g3
    rw [c3, c5]
    exact w_110 P L1 N s2 w2 v2 (by omega) (by omega) (by omega) g2 g3 g1 (fun s3 v3 h3 => hQ bp2 bs2 s3 v3 k2 (by rw [hLP]; exact h3))
  · refine Or.inr ⟨kd, p, r1, ?_⟩
    intro N W x bp base s v k L Q hN hW hx hxq hv hL hQ
    obtain ⟨C, c1, c3, c5, c6⟩ := go N W x bp base s v k L Q hN hW hx hxq hv hL
    refine c6 (r6 C L [] c1 (Or.inl rfl) ?_)
    intro hk0 a bs2 s2 e2 o2 w2 v2 k2 hs1
    rw [c3, c5]
    obtain ⟨N2, hN2⟩ : ∃ N2, N = N2 + 1 := ⟨N - 1, by omega⟩
    have step : ∀ M, iM_test_b110 N n (W 17) (W 19) (W 8) (W 5) (W 4) (W 16) (W 20) (W 9) (W 3) (W 1) (W 2) (W 18) T (W 6) (W 7) a kd p bs2 e2 o2 k2 (M + 1) s2 w2 v2 = some (a, kd, p, bs2, s2, e2, o2, w2, v2, k2) := by
      intro M
      show iM_test_b110_F N n (W 17) (W 19) (W 8) (W 5) (W 4) (W 16) (W 20) (W 9) (W 3) (W 1) (W 2) (W 18) T (W 6) (W 7) a kd p bs2 e2 o2 k2 _ s2 w2 v2 = _
      unfold iM_test_b110_F
      rw [if_neg hk0]
    have s2 := step N2
    rw [← hN2] at s2
    rw [s2, wp_some]
    exact hQ hk0 _ _ _ _ _ _ _ _ hs1
