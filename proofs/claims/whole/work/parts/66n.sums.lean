set_option maxHeartbeats 4000000
set_option maxRecDepth 100000
theorem all_S [Inhabited Frm] {N n : Nat} {T : Nat → Int} (hN : 5000 ≤ N) (hn : n ≤ 600) (hTT : ∀ k, 0 ≤ T k ∧ T k ≤ 255) : ∀ j : Nat, j ≤ 6 → ∀ (d q : Nat) (e : Int), q ≤ n → tSk T n q = q → e ≤ (q : Int) → SimS T n (g1 N n T (4 * j + 4 + d) 2) q e (6 - (j : Int)) (3 * j + 3) := by
  intro j
  induction j with
  | zero =>
    intro hj d
    have W := sim_T (N := N) (n := n) (T := T) (d := d) (Ds := 0) (o := 6 - ((0 : Nat) : Int)) hN hn (by omega) (fun w => absurd (show 6 - ((0 : Nat) : Int) = 6 by omega) w)
    have P := sim_P (N := N) (n := n) (T := T) (d := d + 1) (D := 1) (Ds := 0) (o := 6 - ((0 : Nat) : Int)) hN hn hTT (by omega) ⟨Nat.le_refl 1, fun _ => Nat.le_refl 1⟩ (fun w => absurd (show 6 - ((0 : Nat) : Int) = 6 by omega) w) W
    have S := sim_S hN hn (sim_M hN hn P)
    rw [show 4 * 0 + 4 + d = d + 1 + 1 + 1 + 1 by omega]
    exact S
  | succ j ih =>
    intro hj d
    have ih2 := ih (by omega)
    have eo : 6 - ((j + 1 : Nat) : Int) + 1 = 6 - (j : Int) := by omega
    have W := sim_T (N := N) (n := n) (T := T) (d := 4 * j + 4 + d) (Ds := 3 * j + 3) (o := 6 - ((j + 1 : Nat) : Int)) hN hn (by omega) (fun _ => by rw [eo]; exact ih2 d)
    have P := sim_P (N := N) (n := n) (T := T) (d := 4 * j + 4 + d + 1) (D := 3 * j + 3 + 1) (Ds := 3 * j + 3) (o := 6 - ((j + 1 : Nat) : Int)) hN hn hTT (by omega) ⟨by omega, fun _ => Nat.le_refl _⟩ (fun _ => by rw [eo]; exact ih2 (d + 1)) W
    have S := sim_S hN hn (sim_M hN hn P)
    rw [show 4 * (j + 1) + 4 + d = 4 * j + 4 + d + 1 + 1 + 1 + 1 by omega, show 3 * (j + 1) + 3 = 3 * j + 3 + 1 + 1 + 1 by omega]
    exact S
theorem SimS_up [Inhabited Frm] {T : Nat → Int} {n : Nat} {f : RF} {q : Nat} {e o : Int} {D D2 : Nat} (h : SimS T n f q e o D) (hD : D ≤ D2) : SimS T n f q e o D2 := by
  rcases h with ⟨q2, e2, l, r1, r2, r3, r4, r5, r6⟩ | h
  · exact Or.inl ⟨q2, e2, l, r1, r2, r3, Ev_up r4 hD, r5, r6⟩
  · exact Or.inr h
/-- a sum read by itself -/
theorem sum_at [Inhabited Frm] {N n : Nat} {T : Nat → Int} (hN : 5000 ≤ N) (hn : n ≤ 600) (hTT : ∀ k, 0 ≤ T k ∧ T k ≤ 255) {o : Int} (ho : 0 ≤ o ∧ o ≤ 6) {q : Nat} {e : Int} (hq : q ≤ n) (hqq : tSk T n q = q) (he : e ≤ (q : Int)) : SimS T n (g1 N n T 40 2) q e o 21 := by
  have h := all_S hN hn hTT (6 - o).toNat (by omega) (36 - 4 * (6 - o).toNat) q e hq hqq he
  rw [show 4 * (6 - o).toNat + 4 + (36 - 4 * (6 - o).toNat) = 40 by omega, show 6 - ((6 - o).toNat : Int) = o by omega] at h
  exact SimS_up h (by omega)
theorem fm_no : ∀ {P : List Int}, (∀ x, x ∈ P → nmB x = true) → fm (P ++ []) = -1
  | [], _ => rfl
  | x :: P, hp => by
    have hx := hp x (List.mem_cons_self ..)
    have : ¬ mkB x = true := fun g => by
      unfold nmB at hx
      rw [g] at hx
      exact absurd hx (by decide)
    show (if mkB x = true then x else fm (P ++ [])) = -1
    rw [if_neg this]
    exact fm_no (fun y hy => hp y (List.mem_cons_of_mem _ hy))
theorem w_53 [Inhabited Frm] {N : Nat} {n x1 a bp e o : Int} {w8 w5 w4 w9 w3 w1 w2 T w6 w7 k : Nat → Int} {B : List Int} {K : Int → Int → (Nat → Int) → Option R_iM_sums} {Q : R_iM_sums → Prop} : ∀ (P L : List Int) (m : Nat) (s w : Int) (v : Nat → Int), P.length < m → (P ++ B).length ≤ 700 → L.length + P.length < 100000 → w = (P ++ B).length → stk k (P ++ B) → cod v s L → (∀ s2 v2, cod v2 s2 (L ++ P) → wp (K s2 B.length v2) Q) → wp (iM_sums_b53 N n w8 w5 w4 w9 w3 w1 w2 T w6 w7 x1 a 0 bp B.length e o k K m s w v) Q := by
  intro P
  induction P with
  | nil =>
    intro L m s w v hm hl hL hw h hv kk
    obtain ⟨m2, rfl⟩ : ∃ m2, m = m2 + 1 := ⟨m - 1, by have : 0 < m := hm; omega⟩
    have hw2 : w = (B.length : Int) := hw
    show wp (iM_sums_b53_F N n w8 w5 w4 w9 w3 w1 w2 T w6 w7 x1 a 0 bp B.length e o k K _ s w v) Q
    unfold iM_sums_b53_F
    rw [if_pos rfl, if_pos (by omega), hw2]
    exact kk s v (by rw [List.append_nil]; exact hv)
  | cons x P ih =>
    intro L m s w v hm hl hL hw h hv kk
    have hm1 : P.length + 1 < m := hm
    obtain ⟨m2, rfl⟩ : ∃ m2, m = m2 + 1 := ⟨m - 1, by omega⟩
    have hw2 : w = ((P ++ B).length : Int) + 1 := hw
    have hl2 : (P ++ B).length + 1 ≤ 700 := hl
    have hL2 : L.length + (P.length + 1) < 100000 := hL
    have hb : B.length ≤ (P ++ B).length := by rw [List.length_append]; omega
    show wp (iM_sums_b53_F N n w8 w5 w4 w9 w3 w1 w2 T w6 w7 x1 a 0 bp B.length e o k K (iM_sums_b53 N n w8 w5 w4 w9 w3 w1 w2 T w6 w7 x1 a 0 bp B.length e o k K m2) s w v) Q
    unfold iM_sums_b53_F
    rw [if_pos rfl, if_neg (by omega), wp_bd3]
    refine w_drops (W := P ++ B) hw (by omega) h hv (by omega) (fun v2 h2 => ?_)
    exact ih (L ++ [x]) m2 (s + 1) _ v2 (by omega) (by omega) (by rw [List.length_append]; show L.length + 1 + P.length < 100000; omega) rfl h.2 h2 (fun s3 v3 h3 => kk s3 v3 (by rw [List.append_assoc] at h3; exact h3))
/-- the reference's sums go from L at q to the result r, or fail -/
def RSok [Inhabited Frm] (T : Nat → Int) (n q : Nat) (e o : Int) (q2 : Nat) (e2 : Int) (l : List Int) : Prop := ∀ (N : Nat) (W : Nat → Nat → Int) (x : Nat) (bp : MOne) (base s w : Int) (v k : Nat → Int) (L B : List Int) (Q : R_iM_sums → Prop), 5000 ≤ N → (∀ a, a < 21 → ∀ i, i < kS_len a → W a i = jch a i) → x ≤ n → tSk T n x = q → cod v s L → w = B.length → stk k B → L.length + B.length ≤ q → B.length ≤ q → nt asB B → (∀ (bp2 : MOne) s2 v2 k2, cod v2 s2 (L ++ l) → stk k2 B → Q ((q2 : Int), 0, bp2, base, s2, e2, o, (B.length : Int), v2, k2)) → wp (iM_sums N x 0 bp base s n e o w v (W 8) (W 5) (W 4) (W 9) (W 3) (W 1) (W 2) T (W 6) k (W 7)) Q
def RSbad [Inhabited Frm] (T : Nat → Int) (n q : Nat) (e o kd p : Int) : Prop := ∀ (N : Nat) (W : Nat → Nat → Int) (x : Nat) (bp : MOne) (base s w : Int) (v k : Nat → Int) (L B : List Int) (Q : R_iM_sums → Prop), 5000 ≤ N → (∀ a, a < 21 → ∀ i, i < kS_len a → W a i = jch a i) → x ≤ n → tSk T n x = q → cod v s L → w = B.length → stk k B → L.length + B.length ≤ q → B.length ≤ q → nt asB B → (kd ≠ 0 → ∀ a base2 s2 e2 o2 w2 v2 k2, frS v2 s2 → Q (a, kd, p, base2, s2, e2, o2, w2, v2, k2)) → wp (iM_sums N x 0 bp base s n e o w v (W 8) (W 5) (W 4) (W 9) (W 3) (W 1) (W 2) T (W 6) k (W 7)) Q
theorem sum_both [Inhabited Frm] {T : Nat → Int} {n : Nat} {f : RF} {q : Nat} {e o : Int} {D : Nat} (hn : n ≤ 600) (hTT : ∀ k, 0 ≤ T k ∧ T k ≤ 255) (h : SimS T n f q e o D) : (∃ q2 e2 l, CLok T n f q e o q2 e2 l ∧ plc T n q q2 e2 l ∧ q < q2 ∧ EvS l D ∧ RSok T n q e o q2 e2 l) ∨ ∃ kd p, CLbad T n f q e o kd p ∧ RSbad T n q e o kd p := by
  have go : ∀ (N : Nat) (W : Nat → Nat → Int) (x : Nat) (bp : MOne) (base s w : Int) (v k : Nat → Int) (L B : List Int) (Q : R_iM_sums → Prop), 5000 ≤ N → (∀ a, a < 21 → ∀ i, i < kS_len a → W a i = jch a i) → x ≤ n → tSk T n x = q → cod v s L → w = B.length → stk k B → L.length + B.length ≤ q → B.length ≤ q → nt asB B → ∃ C : Rx, fit C T n q L [] ∧ C.B = B ∧ C.Q = Q ∧ nt asB ([] ++ C.B) ∧ (∀ a b p s e o w v k, C.K a b p s e o w v k = iM_sums_b53 N n (W 8) (W 5) (W 4) (W 9) (W 3) (W 1) (W 2) T (W 6) (W 7) base a b p B.length e o k (fun s2 w2 v2 => iM_sums_b78 N n (W 8) (W 5) (W 4) (W 9) (W 3) (W 1) (W 2) T (W 6) (W 7) base a b p B.length s2 e o w2 v2 k) N s w v) ∧ (RA C L [] q e o → wp (iM_sums N x 0 bp base s n e o w v (W 8) (W 5) (W 4) (W 9) (W 3) (W 1) (W 2) T (W 6) k (W 7)) Q) := by
    intro N W x bp base s w v k L B Q hN hW hx hxq hv hw hk hL hB hnt
    refine ⟨(N, n, T, W, base, B, (fun a b p s e o w v k => iM_sums_b53 N n (W 8) (W 5) (W 4) (W 9) (W 3) (W 1) (W 2) T (W 6) (W 7) base a b p B.length e o k (fun s2 w2 v2 => iM_sums_b78 N n (W 8) (W 5) (W 4) (W 9) (W 3) (W 1) (W 2) T (W 6) (W 7) base a b p B.length s2 e o w2 v2 k) N s w v), Q), ⟨⟨hN, hn, hTT, hW, fun y V hy hc => hnt y V hy (asB_iff.mpr hc)⟩, rfl, rfl, hB, hL⟩, rfl, rfl, hnt, fun _ _ _ _ _ _ _ _ _ => rfl, fun hra => ?_⟩
    have := sl_1 (C := (N, n, T, W, base, B, (fun a b p s e o w v k => iM_sums_b53 N n (W 8) (W 5) (W 4) (W 9) (W 3) (W 1) (W 2) T (W 6) (W 7) base a b p B.length e o k (fun s2 w2 v2 => iM_sums_b78 N n (W 8) (W 5) (W 4) (W 9) (W 3) (W 1) (W 2) T (W 6) (W 7) base a b p B.length s2 e o w2 v2 k) N s w v), Q)) (m := N) (bp := bp) (x := x) hN hra hn hx hxq (show n - q + 1 < N by omega) hv hw hk
    rw [hw] at this ⊢
    exact this
  rcases h with ⟨q2, e2, l, r1, r2, r3, r4, r5, r6⟩ | ⟨kd, p, r1, r6⟩
  · refine Or.inl ⟨q2, e2, l, r1, r2, r3, r4, ?_⟩
    intro N W x bp base s w v k L B Q hN hW hx hxq hv hw hk hL hB hnt hQ
    obtain ⟨C, c1, c2, c3, c4, c5, c6⟩ := go N W x bp base s w v k L B Q hN hW hx hxq hv hw hk hL hB hnt
    obtain ⟨p1, p2, p3, p4⟩ := r2
    have ll : l.length ≤ (trl l).length := trl_len l
    refine c6 (r6 C L [] c1 c4 ?_)
    intro L1 P hLP hP1 hP2
    obtain ⟨f1, f2, f3, f4, f5⟩ := c1
    have e1 : (L ++ l).length = (L1 ++ P).length := by rw [hLP]
    rw [List.length_append, List.length_append] at e1
    have f4b : C.B.length ≤ q := f4
    have hlen : (P ++ [] ++ C.B).length ≤ 700 := by
      rw [List.append_nil, List.length_append]
      omega
    refine rb_end f1 hlen (by omega) (by rw [f2, f3]; exact r5) (fm_no (nm_as hP2)) ?_
    intro bp2 s2 w2 v2 k2 g1 g2 g3
    rw [c3, c5]
    rw [List.append_nil, c2] at g2 g3
    rw [List.append_nil, c2] at hlen
    refine w_53 P L1 N s2 w2 v2 (by omega) hlen (by omega) g2 g3 g1 (fun s3 v3 h3 => ?_)
    show wp (iM_sums_b78 _ _ _ _ _ _ _ _ _ _ _ _ _ _ _ _ _ _ _ _ _ _ _) Q
    unfold iM_sums_b78
    rw [wp_some]
    have g4 : stk k2 B := by
      have : ∀ P : List Int, stk k2 (P ++ B) → stk k2 B := by
        intro P
        induction P with
        | nil => exact fun g => g
        | cons x P ih => exact fun g => ih g.2
      exact this P g3
    exact hQ bp2 s3 v3 k2 (by rw [hLP]; exact h3) g4
  · refine Or.inr ⟨kd, p, r1, ?_⟩
    intro N W x bp base s w v k L B Q hN hW hx hxq hv hw hk hL hB hnt hQ
    obtain ⟨C, c1, c2, c3, c4, c5, c6⟩ := go N W x bp base s w v k L B Q hN hW hx hxq hv hw hk hL hB hnt
    refine c6 (r6 C L [] c1 c4 ?_)
    intro hk0 a s2 e2 o2 w2 v2 k2 hs1
    rw [c3, c5]
    obtain ⟨N2, hN2⟩ : ∃ N2, N = N2 + 1 := ⟨N - 1, by omega⟩
    generalize hX : (fun s3 w3 v3 => iM_sums_b78 N n (W 8) (W 5) (W 4) (W 9) (W 3) (W 1) (W 2) T (W 6) (W 7) base a kd p B.length s3 e2 o2 w3 v3 k2) = X
    have step : iM_sums_b53 N n (W 8) (W 5) (W 4) (W 9) (W 3) (W 1) (W 2) T (W 6) (W 7) base a kd p B.length e2 o2 k2 X N s2 w2 v2 = X s2 w2 v2 := by
      have : ∀ M, iM_sums_b53 N n (W 8) (W 5) (W 4) (W 9) (W 3) (W 1) (W 2) T (W 6) (W 7) base a kd p B.length e2 o2 k2 X (M + 1) s2 w2 v2 = X s2 w2 v2 := by
        intro M
        show iM_sums_b53_F N n (W 8) (W 5) (W 4) (W 9) (W 3) (W 1) (W 2) T (W 6) (W 7) base a kd p B.length e2 o2 k2 X _ s2 w2 v2 = X s2 w2 v2
        unfold iM_sums_b53_F
        rw [if_neg hk0]
      have h2 := this N2
      rw [← hN2] at h2
      exact h2
    rw [step, ← hX]
    show wp (iM_sums_b78 _ _ _ _ _ _ _ _ _ _ _ _ _ _ _ _ _ _ _ _ _ _ _) Q
    unfold iM_sums_b78
    rw [wp_some]
    exact hQ hk0 _ _ _ _ _ _ _ _ hs1
