set_option maxHeartbeats 4000000
set_option maxRecDepth 100000
theorem ta_sq [Inhabited Frm] {C : Tx} (h : okT C) {L S : List Int} {q : Nat} {e o : Int} (hS : S.length < 700) (hL : L.length ≤ 600) (ho : 0 ≤ o ∧ o ≤ 6) (hq : tM C.T C.n q 91) (n1 : o = 6 → TF C 3 q) (n2 : o ≠ 6 → TA C L (25 :: S) (tSk C.T C.n (q + 1)) e (o + 1)) : TA C L S q e o := by
  intro x m bp bs s w v k hx hxq hm hv hw hk
  obtain ⟨m2, rfl⟩ : ∃ m2, m = m2 + 1 := ⟨m - 1, by omega⟩
  have hn := h.hn
  have hqn : q < C.n := hq.1
  have g0 : q + 1 ≤ tSk C.T C.n (q + 1) := lR_ge
  show wp (iM_test_b2_F C.N C.n (C.w 17) (C.w 19) (C.w 8) (C.w 5) (C.w 4) (C.w 16) (C.w 20) (C.w 9) (C.w 3) (C.w 1) (C.w 2) (C.w 18) C.T (C.w 6) (C.w 7) C.K (TL C m2) 1 x 0 bp bs s e o w v k) C.Q
  unfold iM_test_b2_F
  rw [if_neg (by decide), if_pos rfl, wp_bd2, w_lookM h.hN h.hn hx, wp_some, hxq, lk_p hq, if_pos rfl, wp_bd5]
  refine w_opn hw hS hk ho (fun c => ?_) (fun c k2 hk2 => ?_)
  · rw [wp_gd]
    exact ⟨jr_iff.mpr (by show _ ∧ (q : Int) + 1 < _; omega), tl_bad (by omega) (n1 c) (show (3 : Int) ≠ 0 by decide) (cod_t hv hL) 1⟩
  · rw [wp_gd]
    exact ⟨jr_iff.mpr (by show _ ∧ (q : Int) + 1 < _; omega), n2 c (q + 1) m2 bp bs s _ v k2 hqn rfl (by omega) hv rfl hk2⟩
theorem ta_not [Inhabited Frm] {C : Tx} (h : okT C) {L S : List Int} {q : Nat} {e o : Int} (hS : S.length < 700) (hL : L.length ≤ 600) (ho : 0 ≤ o ∧ o ≤ 6) (hq : tW C.T C.n 16 q e) (n1 : o = 6 → TF C 3 q) (n2 : o ≠ 6 → TA C L (16 :: S) (tSk C.T C.n (tS C.T C.n q)) (tS C.T C.n q : Nat) (o + 1)) : TA C L S q e o := by
  intro x m bp bs s w v k hx hxq hm hv hw hk
  obtain ⟨m2, rfl⟩ : ∃ m2, m = m2 + 1 := ⟨m - 1, by omega⟩
  have hn := h.hn
  have hN := h.hN
  have hqn : q < C.n := hq.1
  have hqq : tSk C.T C.n q = q := by rw [← hxq]; exact lR_id
  have z0 := tS_le (T := C.T) (n := C.n) (q := q) (Nat.le_of_lt hq.1)
  have z1 : tS C.T C.n q ≤ tSk C.T C.n (tS C.T C.n q) := lR_ge
  have z4 := z0.2.2 hq.1
  show wp (iM_test_b2_F C.N C.n (C.w 17) (C.w 19) (C.w 8) (C.w 5) (C.w 4) (C.w 16) (C.w 20) (C.w 9) (C.w 3) (C.w 1) (C.w 2) (C.w 18) C.T (C.w 6) (C.w 7) C.K (TL C m2) 1 x 0 bp bs s e o w v k) C.Q
  unfold iM_test_b2_F
  rw [if_neg (by decide), if_pos rfl, wp_bd2, w_lookM hN hn hx, wp_some, hxq, if_neg (lk_n (tW_m hq cM_.2.2.2.2.2.2.1) (by decide)), wp_bd2]
  obtain ⟨b, b1, b2, b3⟩ := w_isHere hN (e := e) hn (x := q) (by omega) (h.wd (a := 16) (len := 3) (by decide) rfl)
  rw [hqq] at b2 b3
  show wp (iM_isHere C.N 3 (C.w 16) q 0 C.n e C.T) _
  rw [b3, wp_some]
  have b11 := b2.mpr hq
  show wp (if b = 0 then _ else _) _
  rw [if_neg (by omega), wp_bd5]
  refine w_opn hw hS hk ho (fun c => ?_) (fun c k2 hk2 => ?_)
  · rw [wp_bd4]
    unfold iM_asks
    show wp (if (3 : Int) = 0 then _ else _) _
    rw [if_neg (by decide), wp_some]
    exact tl_bad (by omega) (n1 c) (show (3 : Int) ≠ 0 by decide) (cod_t hv hL) 1
  · rw [wp_bd4]
    unfold iM_asks
    show wp (if (0 : Int) = 0 then _ else _) _
    rw [if_pos rfl, wp_bd3]
    refine w_takes hN hn (x := q) (by omega) (h.wd (a := 16) (by decide) rfl) (fun t => ?_) (fun t => absurd hq (by rw [hqq] at t; exact t))
    rw [hqq]
    show wp (if (1 : Int) = 0 then _ else _) _
    rw [if_neg (by decide), wp_some]
    exact n2 c (tS C.T C.n q) m2 bp bs s _ v k2 z0.2.1 rfl (by omega) hv rfl hk2
/-- the reference's fact: ends at q2 with l, or fails -/
def FOK [Inhabited Frm] (T : Nat → Int) (n q : Nat) (e o : Int) (q2 : Nat) (e2 : Int) (l : List Int) : Prop := ∀ (N : Nat) (W : Nat → Nat → Int) (bp : MOne) (bs s w : Int) (v k : Nat → Int) (L B : List Int) (Q : R_iM_fact → Prop), 5000 ≤ N → (∀ a, a < 21 → ∀ i, i < kS_len a → W a i = jch a i) → cod v s L → w = B.length → stk k B → L.length + B.length ≤ q → B.length ≤ q → nt asB B → (∀ (x2 : Nat) (bp2 : MOne) s2 v2 k2, x2 ≤ n → tSk T n x2 = q2 → cod v2 s2 (L ++ l) → stk k2 B → Q ((x2 : Int), 0, bp2, bs, s2, e2, o, (B.length : Int), v2, k2)) → wp (iM_fact N q 0 bp bs s n e o w (W 17) v (W 8) (W 5) (W 4) (W 9) (W 3) (W 1) (W 2) (W 18) T (W 6) k (W 7)) Q
def FBD [Inhabited Frm] (T : Nat → Int) (n q : Nat) (e o kd p : Int) : Prop := ∀ (N : Nat) (W : Nat → Nat → Int) (bp : MOne) (bs s w : Int) (v k : Nat → Int) (L B : List Int) (Q : R_iM_fact → Prop), 5000 ≤ N → (∀ a, a < 21 → ∀ i, i < kS_len a → W a i = jch a i) → cod v s L → w = B.length → stk k B → L.length + B.length ≤ q → B.length ≤ q → nt asB B → (kd ≠ 0 → ∀ a bs2 s2 e2 o2 w2 v2 k2, frT v2 s2 → Q (a, kd, p, bs2, s2, e2, o2, w2, v2, k2)) → wp (iM_fact N q 0 bp bs s n e o w (W 17) v (W 8) (W 5) (W 4) (W 9) (W 3) (W 1) (W 2) (W 18) T (W 6) k (W 7)) Q
theorem ta_pre [Inhabited Frm] {C : Tx} (h : okT C) {L S : List Int} {q : Nat} {e o : Int} (n91 : ¬ tM C.T C.n q 91) (n16w : ¬ tW C.T C.n 16 q e) (nx : ∀ (m : Nat) (bp : MOne) (bs s w : Int) (v k : Nat → Int), q ≤ C.n → tSk C.T C.n q = q → C.n - q < m → cod v s L → w = S.length → stk k S → wp (iM_fact C.N q 0 bp bs s C.n e o w (C.w 17) v (C.w 8) (C.w 5) (C.w 4) (C.w 9) (C.w 3) (C.w 1) (C.w 2) (C.w 18) C.T (C.w 6) k (C.w 7)) (fun r => wp (bd4 (iM_dropsNots C.N r.2.1 r.2.2.2.2.1 r.2.2.2.2.2.2.1 r.2.2.2.2.2.2.2.1 r.2.2.2.2.2.2.2.2.1 r.2.2.2.2.2.2.2.2.2) fun s4 o4 w4 v4 => if r.2.1 = 0 then bd10 (iM_goesOnTest C.N r.1 r.2.1 r.2.2.1 s4 C.n r.2.2.2.2.2.1 o4 w4 (C.w 19) v4 (C.w 20) C.T r.2.2.2.2.2.2.2.2.2) fun rc5 a5 b5 p5 s5 e5 o5 w5 v5 k5 => if rc5 = 0 then TL C m 0 a5 b5 p5 r.2.2.2.1 s5 e5 o5 w5 v5 k5 else TL C m 1 a5 b5 p5 r.2.2.2.1 s5 e5 o5 w5 v5 k5 else TL C m 0 r.1 r.2.1 r.2.2.1 r.2.2.2.1 s4 r.2.2.2.2.2.1 o4 w4 v4 r.2.2.2.2.2.2.2.2.2) C.Q)) : TA C L S q e o := by
  intro x m bp bs s w v k hx hxq hm hv hw hk
  obtain ⟨m2, rfl⟩ : ∃ m2, m = m2 + 1 := ⟨m - 1, by omega⟩
  have hn := h.hn
  have hN := h.hN
  have hqq : tSk C.T C.n q = q := by rw [← hxq]; exact lR_id
  have hqn : q ≤ C.n := by rw [← hxq]; exact lR_le hx
  have fin := nx m2 bp bs s w v k hqn hqq (by omega) hv hw hk
  show wp (iM_test_b2_F C.N C.n (C.w 17) (C.w 19) (C.w 8) (C.w 5) (C.w 4) (C.w 16) (C.w 20) (C.w 9) (C.w 3) (C.w 1) (C.w 2) (C.w 18) C.T (C.w 6) (C.w 7) C.K (TL C m2) 1 x 0 bp bs s e o w v k) C.Q
  unfold iM_test_b2_F
  rw [if_neg (by decide), if_pos rfl, wp_bd2, w_lookM hN hn hx, wp_some, hxq, if_neg (lk_n n91 (by decide)), wp_bd2]
  obtain ⟨b, b1, b2, b3⟩ := w_isHere hN (e := e) hn (x := q) hqn (h.wd (a := 16) (len := 3) (by decide) rfl)
  rw [hqq] at b2 b3
  show wp (iM_isHere C.N 3 (C.w 16) q 0 C.n e C.T) _
  rw [b3, wp_some]
  show wp (if b = 0 then _ else _) _
  rw [if_pos (by
    rcases b1 with g | g
    · exact g
    · exact absurd (b2.mp g) n16w), wp_bd10]
  exact fin
theorem ta_ok [Inhabited Frm] {C : Tx} (h : okT C) {L S l : List Int} {q q2 : Nat} {e o e2 : Int} (hf : FOK C.T C.n q e o q2 e2 l) (n91 : ¬ tM C.T C.n q 91) (n16w : ¬ tW C.T C.n 16 q e) (ho : 0 ≤ o ∧ o ≤ 6) (hL : L.length + S.length ≤ q) (hS : S.length ≤ q) (hl : (L ++ l).length ≤ 5000) (hq2 : q < q2) (hnt : nt asB S) (nx : TB C (L ++ l) S q2 e2 o) : TA C L S q e o := by
  have hn := h.hn
  have hN := h.hN
  refine ta_pre h n91 n16w ?_
  intro m bp bs s w v k hx hqq hm hv hw hk
  refine hf C.N C.w bp bs s w v k L S _ hN h.2.2.2 hv hw hk hL hS hnt (fun x2 bp2 s2 v2 k2 g1 g2 g3 g4 => ?_)
  have hq3 : q2 ≤ C.n := by rw [← g2]; exact lR_le g1
  rw [wp_bd4]
  refine wp_mono (tb_raw h nx (by omega) hl ho (x := x2) (m := m) (n2 := C.N) (bp := bp2) (bs := bs) g1 g2 (by omega) (by omega) g3 rfl g4) (fun r hr => ?_)
  show wp (if (0 : Int) = 0 then _ else _) _
  rw [if_pos rfl, wp_bd10]
  exact hr
theorem ta_bd [Inhabited Frm] {C : Tx} (h : okT C) {L S : List Int} {q : Nat} {e o kd p : Int} (hf : FBD C.T C.n q e o kd p) (n91 : ¬ tM C.T C.n q 91) (n16w : ¬ tW C.T C.n 16 q e) (hL : L.length + S.length ≤ q) (hS : S.length ≤ q) (hnt : nt asB S) (nx : TF C kd p) : TA C L S q e o := by
  have hn := h.hn
  have hN := h.hN
  refine ta_pre h n91 n16w ?_
  intro m bp bs s w v k hx hqq hm hv hw hk
  refine hf C.N C.w bp bs s w v k L S _ hN h.2.2.2 hv hw hk hL hS hnt (fun hk0 a bs2 s2 e2 o2 w2 v2 k2 hs1 => ?_)
  rw [wp_bd4]
  have dn : iM_dropsNots C.N kd s2 o2 w2 v2 k2 = some (s2, o2, w2, v2) := by
    obtain ⟨N2, hN2⟩ : ∃ N2, C.N = N2 + 1 := ⟨C.N - 1, by omega⟩
    unfold iM_dropsNots
    rw [hN2]
    show iM_dropsNots_b0_F (N2 + 1) kd k2 _ s2 o2 w2 v2 = _
    unfold iM_dropsNots_b0_F
    rw [if_neg hk0]
  show wp (iM_dropsNots C.N kd s2 o2 w2 v2 k2) _
  rw [dn, wp_some]
  show wp (if kd = 0 then _ else _) _
  rw [if_neg hk0]
  exact tl_bad (by omega) nx hk0 hs1 0
