set_option maxHeartbeats 4000000
set_option maxRecDepth 100000
/-- the place of a fault before there is one -/
abbrev MOne : Type := {x : Int // x = -1}
/-! the reference's two places of a sum: before a part (RA), behind a part (RB) -/
abbrev Rx : Type := Nat × Nat × (Nat → Int) × (Nat → Nat → Int) × Int × List Int × (Int → Int → Int → Int → Int → Int → Int → (Nat → Int) → (Nat → Int) → Option R_iM_sums) × (R_iM_sums → Prop)
def Rx.N (C : Rx) : Nat := C.1
def Rx.n (C : Rx) : Nat := C.2.1
def Rx.T (C : Rx) : Nat → Int := C.2.2.1
def Rx.w (C : Rx) : Nat → Nat → Int := C.2.2.2.1
def Rx.x1 (C : Rx) : Int := C.2.2.2.2.1
def Rx.B (C : Rx) : List Int := C.2.2.2.2.2.1
def Rx.K (C : Rx) : Int → Int → Int → Int → Int → Int → Int → (Nat → Int) → (Nat → Int) → Option R_iM_sums := C.2.2.2.2.2.2.1
def Rx.Q (C : Rx) : R_iM_sums → Prop := C.2.2.2.2.2.2.2
def okR (C : Rx) : Prop := 5000 ≤ C.N ∧ C.n ≤ 600 ∧ (∀ k, 0 ≤ C.T k ∧ C.T k ≤ 255) ∧ (∀ a, a < 21 → ∀ i, i < kS_len a → C.w a i = jch a i) ∧ ∀ x W, C.B = x :: W → ¬ (1 ≤ x ∧ x ≤ 4)
theorem okR.hN {C : Rx} (h : okR C) : 5000 ≤ C.N := h.1
theorem okR.hn {C : Rx} (h : okR C) : C.n ≤ 600 := h.2.1
theorem okR.hT {C : Rx} (h : okR C) : ∀ k, 0 ≤ C.T k ∧ C.T k ≤ 255 := h.2.2.1
theorem okR.hw {C : Rx} (h : okR C) : ∀ a, a < 21 → ∀ i, i < kS_len a → C.w a i = jch a i := h.2.2.2.1
theorem okR.hB {C : Rx} (h : okR C) : ∀ x W, C.B = x :: W → ¬ (1 ≤ x ∧ x ≤ 4) := h.2.2.2.2
def SL (C : Rx) : Nat → Int → Int → Int → Int → Int → Int → Int → Int → (Nat → Int) → (Nat → Int) → Option R_iM_sums := iM_sums_b15 C.N C.n (C.w 8) (C.w 5) (C.w 4) (C.w 9) (C.w 3) (C.w 1) (C.w 2) C.T (C.w 6) (C.w 7) C.x1 C.B.length C.K
def G8 (C : Rx) (bp : Int) (k : Nat → Int) : Int → Int → Int → Int → (Nat → Int) → Option R_iM_goesOn := fun a s o w v => iM_goesOn_b118 C.N C.B.length C.n C.T a 0 bp s o w v k
def G0 (C : Rx) (bp : Int) (k : Nat → Int) : Nat → Int → Int → Int → Int → (Nat → Int) → Option R_iM_goesOn := iM_goesOn_b0 C.N C.B.length C.n C.T 0 bp k (G8 C bp k)
def RBg (C : Rx) (m : Nat) (e : Int) (r : R_iM_goesOn) : Prop := wp (if r.1 = 0 then SL C m 0 r.2.1 r.2.2.1 r.2.2.2.1 r.2.2.2.2.1 e r.2.2.2.2.2.1 r.2.2.2.2.2.2.1 r.2.2.2.2.2.2.2.1 r.2.2.2.2.2.2.2.2 else SL C m 1 r.2.1 r.2.2.1 r.2.2.2.1 r.2.2.2.2.1 e r.2.2.2.2.2.1 r.2.2.2.2.2.2.1 r.2.2.2.2.2.2.2.1 r.2.2.2.2.2.2.2.2) C.Q
def RB [Inhabited Frm] (C : Rx) (L S : List Int) (q : Nat) (e o : Int) : Prop := ∀ (x m n2 : Nat) (bp : MOne) (s w : Int) (v k : Nat → Int), x ≤ C.n → tSk C.T C.n x = q → C.n - q < m → C.n - q < n2 → cod v s L → w = (S ++ C.B).length → stk k (S ++ C.B) → wp (G0 C bp k n2 x s o w v) (RBg C m e)
def P6 (C : Rx) (s : Int) (v : Nat → Int) : Int → Int → Int → Int → Int → Int → (Nat → Int) → Option R_iM_part := fun a b bp e o w k => iM_part_b146 C.N C.n (C.w 8) (C.w 5) (C.w 4) (C.w 9) (C.w 3) (C.w 1) (C.w 2) C.T (C.w 6) (C.w 7) a b bp s e o w v k
def P2 (C : Rx) (s : Int) (v : Nat → Int) : Nat → Int → Int → Int → Int → Int → Int → Int → (Nat → Int) → Option R_iM_part := iM_part_b2 C.N C.n (C.w 8) (C.w 5) (C.w 4) (C.w 9) (C.w 3) (C.w 1) (C.w 2) C.T (C.w 6) (C.w 7) s v (P6 C s v)
def RAg (C : Rx) (m : Nat) (r : R_iM_part) : Prop := wp (if r.2.1 = 0 then bd9 (iM_goesOn C.N r.1 r.2.1 r.2.2.1 C.B.length r.2.2.2.1 C.n r.2.2.2.2.2.1 r.2.2.2.2.2.2.1 r.2.2.2.2.2.2.2.1 C.T r.2.2.2.2.2.2.2.2) (fun rc2 a2 b2 p2 s2 o2 w2 v2 k2 => if rc2 = 0 then SL C m 0 a2 b2 p2 s2 r.2.2.2.2.1 o2 w2 v2 k2 else SL C m 1 a2 b2 p2 s2 r.2.2.2.2.1 o2 w2 v2 k2) else SL C m 0 r.1 r.2.1 r.2.2.1 r.2.2.2.1 r.2.2.2.2.1 r.2.2.2.2.2.1 r.2.2.2.2.2.2.1 r.2.2.2.2.2.2.2.1 r.2.2.2.2.2.2.2.2) C.Q
def RA [Inhabited Frm] (C : Rx) (L S : List Int) (q : Nat) (e o : Int) : Prop := ∀ (x m n1 : Nat) (bp : MOne) (s w : Int) (v k : Nat → Int), x ≤ C.n → tSk C.T C.n x = q → C.n - q < m → C.n - q + 1 < n1 → cod v s L → w = (S ++ C.B).length → stk k (S ++ C.B) → wp (P2 C s v n1 1 x 0 bp e o w k) (RAg C m)
/-- the reading fails -/
def FL [Inhabited Frm] (C : Rx) (kd p : Int) : Prop := kd ≠ 0 → ∀ (a s e o w : Int) (v k : Nat → Int), frS v s → wp (C.K a kd p s e o w v k) C.Q
/-- the sum ends -/
def EN [Inhabited Frm] (C : Rx) (L S : List Int) (q : Nat) (e o : Int) : Prop := ∀ (bp : MOne) (s w : Int) (v k : Nat → Int), cod v s L → w = (S ++ C.B).length → stk k (S ++ C.B) → wp (C.K q 0 bp s e o w v k) C.Q
theorem sl_0 {C : Rx} {m : Nat} {a b bp s e o w : Int} {v k : Nat → Int} (hm : 0 < m) (h : wp (C.K a b bp s e o w v k) C.Q) : wp (SL C m 0 a b bp s e o w v k) C.Q := by
  obtain ⟨m2, rfl⟩ : ∃ m2, m = m2 + 1 := ⟨m - 1, by omega⟩
  show wp (iM_sums_b15_F C.N C.n (C.w 8) (C.w 5) (C.w 4) (C.w 9) (C.w 3) (C.w 1) (C.w 2) C.T (C.w 6) (C.w 7) C.x1 C.B.length C.K (SL C m2) 0 a b bp s e o w v k) C.Q
  unfold iM_sums_b15_F
  rw [if_pos rfl]
  exact h
theorem sl_1 [Inhabited Frm] {C : Rx} (hN : 5000 ≤ C.N) {L S : List Int} {q x m : Nat} {bp : MOne} {s e o w : Int} {v k : Nat → Int} (h : RA C L S q e o) (hn : C.n ≤ 600) (hx : x ≤ C.n) (hq : tSk C.T C.n x = q) (hm : C.n - q + 1 < m) (hv : cod v s L) (hw : w = (S ++ C.B).length) (hk : stk k (S ++ C.B)) : wp (SL C m 1 x 0 bp s e o w v k) C.Q := by
  obtain ⟨m2, rfl⟩ : ∃ m2, m = m2 + 1 := ⟨m - 1, by omega⟩
  show wp (iM_sums_b15_F C.N C.n (C.w 8) (C.w 5) (C.w 4) (C.w 9) (C.w 3) (C.w 1) (C.w 2) C.T (C.w 6) (C.w 7) C.x1 C.B.length C.K (SL C m2) 1 x 0 bp s e o w v k) C.Q
  unfold iM_sums_b15_F
  rw [if_neg (by decide), if_pos rfl, wp_bd9]
  exact h x m2 C.N bp s w v k hx hq (by omega) (by omega) hv hw hk
theorem ra_b [Inhabited Frm] {C : Rx} (hN : 5000 ≤ C.N) {L S : List Int} {q x m : Nat} {bp : MOne} {s e o w : Int} {v k : Nat → Int} (h : RB C L S q e o) (hn : C.n ≤ 600) (hx : x ≤ C.n) (hq : tSk C.T C.n x = q) (hm : C.n - q < m) (hv : cod v s L) (hw : w = (S ++ C.B).length) (hk : stk k (S ++ C.B)) : RAg C m (x, 0, bp, s, e, o, w, v, k) := by
  show wp (if (0 : Int) = 0 then _ else _) C.Q
  rw [if_pos rfl, wp_bd9]
  exact h x m C.N bp s w v k hx hq hm (by omega) hv hw hk
theorem ra_f [Inhabited Frm] {C : Rx} {m : Nat} {kd p a s e o w : Int} {v k : Nat → Int} (h : FL C kd p) (hk : kd ≠ 0) (hs : frS v s) (hm : 0 < m) : RAg C m (a, kd, p, s, e, o, w, v, k) := by
  show wp (if kd = 0 then _ else _) C.Q
  rw [if_neg hk]
  exact sl_0 hm (h hk a s e o w v k hs)
theorem rb_f [Inhabited Frm] {C : Rx} {m : Nat} {kd p a s e o w : Int} {v k : Nat → Int} (h : FL C kd p) (hk : kd ≠ 0) (hs : frS v s) (hm : 0 < m) : RBg C m e (0, a, kd, p, s, o, w, v, k) := by
  show wp (if (0 : Int) = 0 then _ else _) C.Q
  rw [if_pos rfl]
  exact sl_0 hm (h hk a s e o w v k hs)
theorem stk_drw {k : Nat → Int} {f : Int → Bool} {B : List Int} : ∀ {S : List Int}, stk k (S ++ B) → stk k (drw f S ++ B)
  | [], h => h
  | x :: S, h => by
    by_cases c : f x = true
    · rw [drw_p c]
      exact stk_drw h.2
    · rw [drw_n c]
      exact h
theorem stk_set {k : Nat → Int} {x y : Int} {W : List Int} (h : stk k (x :: W)) : stk (va_up k W.length y) (y :: W) := ⟨va_up_self _ _ _, stk_up h.2 (Nat.le_refl _)⟩
/-- no bracket closes here -/
theorem rb_go [Inhabited Frm] {C : Rx} (h : okR C) {L S : List Int} {q : Nat} {e o : Int} (hS : (S ++ C.B).length ≤ 700) (hno : tM C.T C.n q 41 → fm S ≠ 20 ∧ fm S ≠ 23 ∧ fm S ≠ 24) (nx : ∀ (m : Nat) (bp : MOne) (s w : Int) (v k : Nat → Int), q ≤ C.n → tSk C.T C.n q = q → C.n - q < m → cod v s L → w = (S ++ C.B).length → stk k (S ++ C.B) → wp (G8 C bp k q s o w v) (RBg C m e)) : RB C L S q e o := by
  intro x m n2 bp s w v k hx hxq hm hn2 hv hw hk
  obtain ⟨n3, rfl⟩ : ∃ n3, n2 = n3 + 1 := ⟨n2 - 1, by omega⟩
  have hqn : q ≤ C.n := by rw [← hxq]; exact lR_le hx
  have hqq : tSk C.T C.n q = q := by rw [← hxq]; exact lR_id
  have n8 := nx m bp s w v k hqn hqq hm hv hw hk
  show wp (iM_goesOn_b0_F C.N C.B.length C.n C.T 0 bp k (G8 C bp k) (G0 C bp k n3) x s o w v) (RBg C m e)
  unfold iM_goesOn_b0_F
  rw [if_pos rfl, wp_bd2, w_lookM h.hN h.hn hx, wp_some, hxq]
  by_cases c : tM C.T C.n q 41
  · obtain ⟨f1, f2, f3⟩ := hno c
    have mk := w_mark h.hN hw hS hk
    rw [if_pos c.1, c.2, if_pos rfl, wp_bd1, mk, wp_some, if_neg f1, wp_bd1, wp_some, if_neg f2, wp_bd1, wp_some, if_neg f3]
    exact n8
  · have : ¬ (if q < C.n then C.T q else -1) = 41 := by
      by_cases d : q < C.n
      · rw [if_pos d]
        exact fun g => c ⟨d, g⟩
      · rw [if_neg d]
        decide
    rw [if_neg this]
    exact n8
def clo (c : Int) : List Int := if c = 20 then [] else if c = 23 then [5] else [6]
theorem rb_close [Inhabited Frm] {C : Rx} (h : okR C) {L S S2 : List Int} {q : Nat} {e o c : Int} (hS : (S ++ C.B).length ≤ 700) (hL : L.length ≤ 600) (ho : -10 ≤ o ∧ o ≤ 10) (hq : tM C.T C.n q 41) (hc : c = 20 ∨ c = 23 ∨ c = 24) (hf : fm S = c) (hd : drw nmB S = c :: S2) (nx : RB C (L ++ tkw nmB S ++ clo c) S2 (tSk C.T C.n (q + 1)) e (o - 1)) : RB C L S q e o := by
  intro x m n2 bp s w v k hx hxq hm hn2 hv hw hk
  obtain ⟨n3, rfl⟩ : ∃ n3, n2 = n3 + 1 := ⟨n2 - 1, by omega⟩
  have hqn : q + 1 ≤ C.n := hq.1
  have hn := h.hn
  have hsb : S.length ≤ (S ++ C.B).length := by rw [List.length_append]; omega
  show wp (iM_goesOn_b0_F C.N C.B.length C.n C.T 0 bp k (G8 C bp k) (G0 C bp k n3) x s o w v) (RBg C m e)
  have key : wp (iM_goesOn_b43 C.N C.B.length C.n C.T (G0 C bp k n3) (G8 C bp k) q 0 bp s o w v k) (RBg C m e) := by
    unfold iM_goesOn_b43
    rw [wp_bd3]
    unfold iM_dropsToMark
    refine w_dtm S L C.N s w v (by have := h.hN; omega) hS (by omega) hw hk hv (fun s' v' h' => ?_)
    have hk2 : stk k ((c :: S2) ++ C.B) := by rw [← hd]; exact stk_drw hk
    have hl2 : (drw nmB S).length ≤ S.length := drw_le S
    rw [hd] at hl2 ⊢
    have hl3 : S2.length + 1 ≤ S.length := hl2
    have ea : ((((c :: S2) ++ C.B).length : Nat) : Int) - 1 = ((S2 ++ C.B).length : Int) := by
      show (((S2 ++ C.B).length + 1 : Nat) : Int) - 1 = _
      omega
    have hl4 : (S2 ++ C.B).length ≤ 700 := by rw [List.length_append] at hS ⊢; omega
    have eb : ((S2 ++ C.B).length : Int).toNat = (S2 ++ C.B).length := rfl
    have ex : k (S2 ++ C.B).length = c := hk2.1
    have g0 : q + 1 ≤ tSk C.T C.n (q + 1) := lR_ge
    have fin : ∀ s2 v2, cod v2 s2 (L ++ tkw nmB S ++ clo c) → wp (G0 C bp k n3 ((q : Int) + 1) s2 (o - 1) ((S2 ++ C.B).length : Int) v2) (RBg C m e) := fun s2 v2 h2 => nx (q + 1) m n3 bp s2 _ v2 k hqn rfl (by omega) (by omega) h2 rfl hk2.2
    show wp (gd (jr (((((c :: S2) ++ C.B).length : Nat) : Int) - 1)) (gd (jb (((((c :: S2) ++ C.B).length : Nat) : Int) - 1) 700) (if k ((((((c :: S2) ++ C.B).length : Nat) : Int) - 1).toNat) = 20 then _ else _))) _
    rw [ea, eb, ex, wp_gd, wp_gd]
    have hll : (L ++ tkw nmB S).length < 128640 := by
      have : ∀ S : List Int, (tkw nmB S).length ≤ S.length := by
        intro S
        induction S with
        | nil => exact Nat.le_refl 0
        | cons x S ih =>
          by_cases c : nmB x = true
          · rw [tkw_p c]
            exact Nat.succ_le_succ ih
          · rw [tkw_n c]
            exact Nat.zero_le _
      have := this S
      rw [List.length_append]
      omega
    have hl5 : (S2 ++ C.B).length < 700 := by
      rw [List.length_append] at hS ⊢
      omega
    refine ⟨jr_iff.mpr (by omega), jb_iff.mpr (by omega), ?_⟩
    rcases hc with e1 | e1 | e1
    · rw [if_pos e1, wp_gd, wp_gd]
      refine ⟨jr_iff.mpr (by omega), jr_iff.mpr (by omega), fin s' v' ?_⟩
      rw [e1]
      show cod v' s' (L ++ tkw nmB S ++ [])
      rw [List.append_nil]
      exact h'
    · rw [if_neg (by omega), if_pos e1, wp_gd, wp_gd]
      refine ⟨jr_iff.mpr (by omega), jr_iff.mpr (by omega), ?_⟩
      unfold iM_goesOn_b112
      rw [wp_bd2]
      refine w_code h' hll (fun v2 h2 => fin _ v2 ?_)
      rw [e1]
      exact h2
    · rw [if_neg (by omega), if_neg (by omega), wp_gd, wp_gd]
      refine ⟨jr_iff.mpr (by omega), jr_iff.mpr (by omega), ?_⟩
      unfold iM_goesOn_b112
      rw [wp_bd2]
      refine w_code h' hll (fun v2 h2 => fin _ v2 ?_)
      rw [e1]
      exact h2
  have mk := w_mark h.hN hw hS hk
  unfold iM_goesOn_b0_F
  rw [if_pos rfl, wp_bd2, w_lookM h.hN h.hn hx, wp_some, hxq, if_pos hq.1, hq.2, if_pos rfl, wp_bd1, mk, wp_some, hf]
  rcases hc with e1 | e1 | e1
  · rw [if_pos e1]
    exact key
  · rw [if_neg (by omega), wp_bd1, wp_some, if_pos e1]
    exact key
  · rw [if_neg (by omega), wp_bd1, wp_some, if_neg (by omega), wp_bd1, wp_some, if_pos e1]
    exact key
