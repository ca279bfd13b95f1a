set_option maxHeartbeats 4000000
set_option maxRecDepth 100000
/-! the reference's places in a test: ahead of a fact (TA), behind it (TC; with the nots: TB) -/
abbrev Tx : Type := Nat × Nat × (Nat → Int) × (Nat → Nat → Int) × (Int → Int → Int → Int → Int → Int → Int → Int → (Nat → Int) → (Nat → Int) → Option R_iM_test) × (R_iM_test → Prop)
def Tx.N (C : Tx) : Nat := C.1
def Tx.n (C : Tx) : Nat := C.2.1
def Tx.T (C : Tx) : Nat → Int := C.2.2.1
def Tx.w (C : Tx) : Nat → Nat → Int := C.2.2.2.1
def Tx.K (C : Tx) : Int → Int → Int → Int → Int → Int → Int → Int → (Nat → Int) → (Nat → Int) → Option R_iM_test := C.2.2.2.2.1
def Tx.Q (C : Tx) : R_iM_test → Prop := C.2.2.2.2.2
def okT (C : Tx) : Prop := 5000 ≤ C.N ∧ C.n ≤ 600 ∧ (∀ k, 0 ≤ C.T k ∧ C.T k ≤ 255) ∧ (∀ a, a < 21 → ∀ i, i < kS_len a → C.w a i = jch a i)
theorem okT.hN {C : Tx} (h : okT C) : 5000 ≤ C.N := h.1
theorem okT.hn {C : Tx} (h : okT C) : C.n ≤ 600 := h.2.1
theorem okT.wd {C : Tx} (h : okT C) {a len : Nat} (ha : a < 21) (hl : len = kS_len a) : wd a len (C.w a) := ⟨hl, kS_b a ha, h.2.2.2 a ha⟩
def TL (C : Tx) : Nat → Int → Int → Int → Int → Int → Int → Int → Int → Int → (Nat → Int) → (Nat → Int) → Option R_iM_test := iM_test_b2 C.N C.n (C.w 17) (C.w 19) (C.w 8) (C.w 5) (C.w 4) (C.w 16) (C.w 20) (C.w 9) (C.w 3) (C.w 1) (C.w 2) (C.w 18) C.T (C.w 6) (C.w 7) C.K
def H6 (C : Tx) (bp e : Int) (k : Nat → Int) : Int → Int → Int → Int → (Nat → Int) → Option R_iM_goesOnTest := fun a s o w v => iM_goesOnTest_b76 C.N C.n (C.w 19) (C.w 20) C.T a 0 bp s e o w v k
def H0 (C : Tx) (bp e : Int) (k : Nat → Int) : Nat → Int → Int → Int → Int → (Nat → Int) → Option R_iM_goesOnTest := iM_goesOnTest_b0 C.N C.n (C.w 19) (C.w 20) C.T 0 bp e k (H6 C bp e k)
def TCg (C : Tx) (m : Nat) (bs : Int) (r : R_iM_goesOnTest) : Prop := wp (if r.1 = 0 then TL C m 0 r.2.1 r.2.2.1 r.2.2.2.1 bs r.2.2.2.2.1 r.2.2.2.2.2.1 r.2.2.2.2.2.2.1 r.2.2.2.2.2.2.2.1 r.2.2.2.2.2.2.2.2.1 r.2.2.2.2.2.2.2.2.2 else TL C m 1 r.2.1 r.2.2.1 r.2.2.2.1 bs r.2.2.2.2.1 r.2.2.2.2.2.1 r.2.2.2.2.2.2.1 r.2.2.2.2.2.2.2.1 r.2.2.2.2.2.2.2.2.1 r.2.2.2.2.2.2.2.2.2) C.Q
def TA [Inhabited Frm] (C : Tx) (L S : List Int) (q : Nat) (e o : Int) : Prop := ∀ (x m : Nat) (bp : MOne) (bs s w : Int) (v k : Nat → Int), x ≤ C.n → tSk C.T C.n x = q → C.n - q + 1 < m → cod v s L → w = S.length → stk k S → wp (TL C m 1 x 0 bp bs s e o w v k) C.Q
def TC [Inhabited Frm] (C : Tx) (L S : List Int) (q : Nat) (e o : Int) : Prop := ∀ (x m n2 : Nat) (bp : MOne) (bs s w : Int) (v k : Nat → Int), x ≤ C.n → tSk C.T C.n x = q → C.n - q < m → C.n - q < n2 → cod v s L → w = S.length → stk k S → wp (H0 C bp e k n2 x s o w v) (TCg C m bs)
def TB [Inhabited Frm] (C : Tx) (L S : List Int) (q : Nat) (e o : Int) : Prop := TC C (L ++ tkw n16 S) (drw n16 S) q e (o - (tkw n16 S).length)
def TF [Inhabited Frm] (C : Tx) (kd p : Int) : Prop := kd ≠ 0 → ∀ (a bs s e o w : Int) (v k : Nat → Int), frT v s → wp (C.K a kd p bs s e o w v k) C.Q
def TE [Inhabited Frm] (C : Tx) (L S : List Int) (q : Nat) (e o : Int) : Prop := ∀ (bp : MOne) (bs s w : Int) (v k : Nat → Int), cod v s L → w = S.length → stk k S → wp (C.K q 0 bp bs s e o w v k) C.Q
theorem stk_drw0 {k : Nat → Int} {f : Int → Bool} {S : List Int} (h : stk k S) : stk k (drw f S) := by
  have := stk_drw (f := f) (B := []) (S := S) (by rw [List.append_nil]; exact h)
  rw [List.append_nil] at this
  exact this
theorem tl_0 {C : Tx} {m : Nat} {a b bp bs s e o w : Int} {v k : Nat → Int} (hm : 0 < m) (h : wp (C.K a b bp bs s e o w v k) C.Q) : wp (TL C m 0 a b bp bs s e o w v k) C.Q := by
  obtain ⟨m2, rfl⟩ : ∃ m2, m = m2 + 1 := ⟨m - 1, by omega⟩
  show wp (iM_test_b2_F C.N C.n (C.w 17) (C.w 19) (C.w 8) (C.w 5) (C.w 4) (C.w 16) (C.w 20) (C.w 9) (C.w 3) (C.w 1) (C.w 2) (C.w 18) C.T (C.w 6) (C.w 7) C.K (TL C m2) 0 a b bp bs s e o w v k) C.Q
  unfold iM_test_b2_F
  rw [if_pos rfl]
  exact h
theorem tl_bad [Inhabited Frm] {C : Tx} {m : Nat} {a kd p bs s e o w : Int} {v k : Nat → Int} (hm : 0 < m) (h : TF C kd p) (hk : kd ≠ 0) (hs : frT v s) (x1 : Int) : wp (TL C m x1 a kd p bs s e o w v k) C.Q := by
  obtain ⟨m2, rfl⟩ : ∃ m2, m = m2 + 1 := ⟨m - 1, by omega⟩
  show wp (iM_test_b2_F C.N C.n (C.w 17) (C.w 19) (C.w 8) (C.w 5) (C.w 4) (C.w 16) (C.w 20) (C.w 9) (C.w 3) (C.w 1) (C.w 2) (C.w 18) C.T (C.w 6) (C.w 7) C.K (TL C m2) x1 a kd p bs s e o w v k) C.Q
  unfold iM_test_b2_F
  rw [wp_ite]
  refine ⟨fun _ => h hk a bs s e o w v k hs, fun _ => ?_⟩
  rw [if_neg hk]
  exact h hk a bs s e o w v k hs
/-- behind a fact: the nots fall, then it goes on -/
theorem tb_raw [Inhabited Frm] {C : Tx} (h : okT C) {L S : List Int} {q : Nat} {e o : Int} (hb : TB C L S q e o) (hS : S.length ≤ 600) (hL : L.length ≤ 5000) (ho : 0 ≤ o ∧ o ≤ 6) {x m n2 : Nat} {bp : MOne} {bs s w : Int} {v k : Nat → Int} (hx : x ≤ C.n) (hxq : tSk C.T C.n x = q) (hm : C.n - q < m) (hn2 : C.n - q < n2) (hv : cod v s L) (hw : w = S.length) (hk : stk k S) : wp (iM_dropsNots C.N 0 s o w v k) (fun r => wp (H0 C bp e k n2 x r.1 r.2.1 r.2.2.1 r.2.2.2) (TCg C m bs)) := by
  have hN := h.hN
  unfold iM_dropsNots
  exact w_dn S L C.N s o w v (by omega) (by omega) (by omega) (by omega) hw hk hv (fun s2 v2 h2 => hb x m n2 bp bs s2 _ v2 k hx hxq hm hn2 h2 rfl (stk_drw0 hk))
/-- no bracket closes -/
theorem tc_go [Inhabited Frm] {C : Tx} (h : okT C) {L S : List Int} {q : Nat} {e o : Int} (hS : S.length ≤ 700) (hno : tM C.T C.n q 93 → ¬ 25 ∈ S) (nx : ∀ (m : Nat) (bp : MOne) (bs s w : Int) (v k : Nat → Int), q ≤ C.n → tSk C.T C.n q = q → C.n - q < m → cod v s L → w = S.length → stk k S → wp (H6 C bp e k q s o w v) (TCg C m bs)) : TC C L S q e o := by
  intro x m n2 bp bs s w v k hx hxq hm hn2 hv hw hk
  obtain ⟨n3, rfl⟩ : ∃ n3, n2 = n3 + 1 := ⟨n2 - 1, by omega⟩
  have hqn : q ≤ C.n := by rw [← hxq]; exact lR_le hx
  have hqq : tSk C.T C.n q = q := by rw [← hxq]; exact lR_id
  have fin := nx m bp bs s w v k hqn hqq hm hv hw hk
  show wp (iM_goesOnTest_b0_F C.N C.n (C.w 19) (C.w 20) C.T 0 bp e k (H6 C bp e k) (H0 C bp e k n3) x s o w v) (TCg C m bs)
  unfold iM_goesOnTest_b0_F
  rw [if_pos rfl, wp_bd2, w_lookM h.hN h.hn hx, wp_some, hxq]
  by_cases c : tM C.T C.n q 93
  · obtain ⟨b, b1, b2, b3⟩ := w_hasSq h.hN hw hS hk
    have nb := hno c
    have b0 : b = 0 := by
      rcases b1 with g | g
      · exact g
      · exact absurd (b2.mp g) nb
    rw [lk_p c, if_pos rfl, wp_bd1, b3, wp_some, if_pos b0]
    exact fin
  · rw [if_neg (lk_n c (by decide))]
    exact fin
theorem tc_sq [Inhabited Frm] {C : Tx} (h : okT C) {L S S2 : List Int} {q : Nat} {e o : Int} (hS : S.length ≤ 600) (hL : L.length ≤ 600) (ho : 1 ≤ o ∧ o ≤ 6) (hq : tM C.T C.n q 93) (h25 : 25 ∈ S) (hd : drw n25 S = 25 :: S2) (nx : TB C (L ++ tkw n25 S) S2 (tSk C.T C.n (q + 1)) e (o - 1)) : TC C L S q e o := by
  intro x m n2 bp bs s w v k hx hxq hm hn2 hv hw hk
  obtain ⟨n3, rfl⟩ : ∃ n3, n2 = n3 + 1 := ⟨n2 - 1, by omega⟩
  have hN := h.hN
  have hn := h.hn
  have hqn : q + 1 ≤ C.n := hq.1
  have g0 : q + 1 ≤ tSk C.T C.n (q + 1) := lR_ge
  show wp (iM_goesOnTest_b0_F C.N C.n (C.w 19) (C.w 20) C.T 0 bp e k (H6 C bp e k) (H0 C bp e k n3) x s o w v) (TCg C m bs)
  unfold iM_goesOnTest_b0_F
  obtain ⟨b, b1, b2, b3⟩ := w_hasSq h.hN hw (by omega) hk
  have b11 := b2.mpr h25
  rw [if_pos rfl, wp_bd2, w_lookM h.hN h.hn hx, wp_some, hxq, lk_p hq, if_pos rfl, wp_bd1, b3, wp_some, if_neg (by omega), wp_gd]
  refine ⟨jr_iff.mpr (by show _ ∧ (q : Int) + 1 < _; omega), ?_⟩
  refine w_33 S L C.N s w v (by omega) (by omega) (by omega) hw hk hv h25 (fun s2 v2 h2 => ?_)
  have hk2 : stk k (25 :: S2) := by rw [← hd]; exact stk_drw0 hk
  have hl2 : (drw n25 S).length ≤ S.length := drw_le S
  rw [hd] at hl2 ⊢
  have hl3 : S2.length + 1 ≤ S.length := hl2
  have e1 : ((25 :: S2).length : Int) - 1 = S2.length := by rw [len_c]; omega
  show wp (iM_goesOnTest_b49 C.N C.n (C.w 19) (C.w 20) C.T (H0 C bp e k n3) (H6 C bp e k) ((q : Int) + 1) 0 bp s2 e o ((25 :: S2).length : Int) v2 k) (TCg C m bs)
  unfold iM_goesOnTest_b49
  rw [e1, wp_gd, wp_gd, wp_bd4]
  refine ⟨jr_iff.mpr (by omega), jr_iff.mpr (by omega), ?_⟩
  have tl : (tkw n25 S).length ≤ S.length := tkw_le S
  exact tb_raw h nx (by omega) (by rw [List.length_append]; omega) (by omega) (x := q + 1) hqn rfl (by omega) (by omega) h2 rfl hk2.2
theorem tc_and [Inhabited Frm] {C : Tx} (h : okT C) {L S : List Int} {q : Nat} {e o : Int} (hS : S.length < 700) (hL : L.length ≤ 600) (hq : tW C.T C.n 19 q e) (nx : TA C (L ++ tkw n14 S) (14 :: drw n14 S) (tSk C.T C.n (tS C.T C.n q)) (tS C.T C.n q : Nat) o) : TC C L S q e o := by
  have hN := h.hN
  have hn := h.hn
  have z0 := tS_le (T := C.T) (n := C.n) (q := q) (Nat.le_of_lt hq.1)
  have z1 : tS C.T C.n q ≤ tSk C.T C.n (tS C.T C.n q) := lR_ge
  have z4 := z0.2.2 hq.1
  refine tc_go h (by omega) (fun t => absurd t (tW_m hq cM_.2.2.2.2.2.2.2.1)) ?_
  intro m bp bs s w v k hx hqq hm hv hw hk
  unfold H6 iM_goesOnTest_b76
  rw [wp_bd3]
  refine w_takes hN hn hx (h.wd (a := 19) (by decide) rfl) (fun t => ?_) (fun t => absurd hq (by rw [hqq] at t; exact t))
  rw [hqq]
  show wp (if (1 : Int) = 0 then _ else _) _
  rw [if_neg (by decide)]
  refine w_87 S L C.N s w v (by omega) hS (by omega) hw hk hv (fun s2 v2 k2 h2 g2 => ?_)
  show wp (if (1 : Int) = 0 then _ else _) C.Q
  rw [if_neg (by decide)]
  exact nx (tS C.T C.n q) m bp bs s2 _ v2 k2 z0.2.1 rfl (by omega) h2 rfl g2
theorem tc_or [Inhabited Frm] {C : Tx} (h : okT C) {L S : List Int} {q : Nat} {e o : Int} (hS : S.length < 700) (hL : L.length ≤ 600) (hq : tW C.T C.n 20 q e) (nx : TA C (L ++ tkw n45 S) (15 :: drw n45 S) (tSk C.T C.n (tS C.T C.n q)) (tS C.T C.n q : Nat) o) : TC C L S q e o := by
  have hN := h.hN
  have hn := h.hn
  have z0 := tS_le (T := C.T) (n := C.n) (q := q) (Nat.le_of_lt hq.1)
  have z1 : tS C.T C.n q ≤ tSk C.T C.n (tS C.T C.n q) := lR_ge
  have z4 := z0.2.2 hq.1
  refine tc_go h (by omega) (fun t => absurd t (tW_m hq cM_.2.2.2.2.2.2.2.1)) ?_
  intro m bp bs s w v k hx hqq hm hv hw hk
  unfold H6 iM_goesOnTest_b76
  rw [wp_bd3]
  refine w_takes hN hn hx (h.wd (a := 19) (by decide) rfl) (fun t => ?_) (fun t => ?_)
  · rw [hqq] at t
    exact absurd (tW_l t hq) (by decide)
  · rw [hqq]
    show wp (if (0 : Int) = 0 then _ else _) _
    rw [if_pos rfl, wp_bd3]
    refine w_takes hN hn hx (h.wd (a := 20) (by decide) rfl) (fun t => ?_) (fun t => absurd hq (by rw [hqq] at t; exact t))
    rw [hqq]
    show wp (if (1 : Int) = 0 then _ else _) _
    rw [if_neg (by decide)]
    refine w_137 S L C.N s w v (by omega) hS (by omega) hw hk hv (fun s2 v2 k2 h2 g2 => ?_)
    show wp (if (1 : Int) = 0 then _ else _) C.Q
    rw [if_neg (by decide)]
    exact nx (tS C.T C.n q) m bp bs s2 _ v2 k2 z0.2.1 rfl (by omega) h2 rfl g2
theorem tc_end [Inhabited Frm] {C : Tx} (h : okT C) {L S : List Int} {q : Nat} {e o : Int} (hS : S.length ≤ 700) (hL : L.length ≤ 600) (na : ¬ tW C.T C.n 19 q e) (no : ¬ tW C.T C.n 20 q e) (hno : tM C.T C.n q 93 → ¬ 25 ∈ S) (n1 : ¬ 25 ∈ S → TE C L S q e o) (n2 : 25 ∈ S → TF C 1 q) : TC C L S q e o := by
  have hN := h.hN
  have hn := h.hn
  refine tc_go h hS hno ?_
  intro m bp bs s w v k hx hqq hm hv hw hk
  obtain ⟨b, b1, b2, b3⟩ := w_hasSq h.hN hw hS hk
  unfold H6 iM_goesOnTest_b76
  rw [wp_bd3]
  refine w_takes hN hn hx (h.wd (a := 19) (by decide) rfl) (fun t => absurd (by rw [hqq] at t; exact t) na) (fun t => ?_)
  rw [hqq]
  show wp (if (0 : Int) = 0 then _ else _) _
  rw [if_pos rfl, wp_bd3]
  refine w_takes hN hn hx (h.wd (a := 20) (by decide) rfl) (fun t => absurd (by rw [hqq] at t; exact t) no) (fun t => ?_)
  rw [hqq]
  show wp (if (0 : Int) = 0 then _ else _) _
  rw [if_pos rfl, if_pos rfl, wp_bd1, b3, wp_some]
  by_cases c : b = 0
  · rw [if_pos c, wp_some]
    show wp (if (0 : Int) = 0 then _ else _) C.Q
    rw [if_pos rfl]
    exact tl_0 (by omega) (n1 (fun g => by have := b2.mpr g; omega) bp bs s w v k hv hw hk)
  · rw [if_neg c, wp_bd2]
    unfold iM_fail
    rw [if_pos rfl, wp_some, wp_some]
    show wp (if (0 : Int) = 0 then _ else _) C.Q
    rw [if_pos rfl]
    exact tl_bad (by omega) (n2 (b2.mp (by omega))) (show (1 : Int) ≠ 0 by decide) (cod_t hv hL) 0
