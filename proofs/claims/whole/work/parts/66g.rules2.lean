set_option maxHeartbeats 4000000
set_option maxRecDepth 100000
theorem tkw_le {f : Int → Bool} : ∀ S : List Int, (tkw f S).length ≤ S.length
  | [] => Nat.le_refl 0
  | x :: S => by
    by_cases c : f x = true
    · rw [tkw_p c]
      exact Nat.succ_le_succ (tkw_le S)
    · rw [tkw_n c]
      exact Nat.zero_le _
theorem w_sign {N : Nat} (hN : 5000 ≤ N) {T : Nat → Int} {n q : Nat} {c : Int} {Q : R_iM_takesSign → Prop} (hn : n ≤ 600) (hx : q ≤ n) (hqq : tSk T n q = q) (hc : c ≠ -1) (h1 : tM T n q c → Q (1, (q : Int) + 1)) (h2 : ¬ tM T n q c → Q (0, (q : Int))) : wp (iM_takesSign N c q 0 n T) Q := by
  refine w_takesSign hN hn hx hc (fun t => ?_) (fun t => ?_)
  · rw [hqq] at t ⊢
    exact h1 t
  · rw [hqq] at t ⊢
    exact h2 t
theorem tM_u {T : Nat → Int} {n q : Nat} {a b : Int} (h : tM T n q a) (hab : a ≠ b) : ¬ tM T n q b := fun g => hab (by rw [← h.2, g.2])
theorem rb_mul [Inhabited Frm] {C : Rx} (h : okR C) {L S S2 : List Int} {q : Nat} {e o c : Int} (hS : (S ++ C.B).length < 700) (hL : L.length ≤ 600) (hq : tM C.T C.n q 42 ∧ c = 3 ∨ tM C.T C.n q 47 ∧ c = 4) (hd : drw mlB (S ++ C.B) = S2 ++ C.B) (nx : RA C (L ++ tkw mlB (S ++ C.B)) (c :: S2) (tSk C.T C.n (q + 1)) e o) : RB C L S q e o := by
  have hn := h.hn
  have hN := h.hN
  have hqn : q < C.n := by
    rcases hq with g | g
    · exact g.1.1
    · exact g.1.1
  have n41 : ¬ tM C.T C.n q 41 := by
    rcases hq with g | g
    · exact tM_u g.1 (by decide)
    · exact tM_u g.1 (by decide)
  refine rb_go h (by omega) (fun g => absurd g n41) ?_
  intro m bp s w v k hx hqq hm hv hw hk
  have g0 : q + 1 ≤ tSk C.T C.n (q + 1) := lR_ge
  have fin : wp (iM_goesOn_b136 C.N C.B.length C.n C.T ((q : Int) + 1) 0 bp s o w v k) (RBg C m e) := by
    have ea : ((q : Int) + 1 - 1).toNat = q := by omega
    have body : wp (iM_goesOn_b158 C.N C.B.length C.n C.T c ((q : Int) + 1) 0 bp o k C.N s w v) (RBg C m e) := by
      refine w_mulL (S ++ C.B) L C.N s w v (by omega) hS (by omega) hw hk hv (fun s' v' k' h' g' => ?_)
      show wp (if (1 : Int) = 0 then _ else _) C.Q
      rw [if_neg (by decide)]
      rw [hd] at g' ⊢
      exact sl_1 hN nx hn (x := q + 1) (by omega) rfl (by omega) h' rfl g'
    unfold iM_goesOn_b136
    rw [wp_gd, wp_gd, ea]
    refine ⟨jr_iff.mpr (by omega), jb_iff.mpr (by omega), ?_⟩
    rcases hq with g | g
    · rw [if_pos g.1.2]
      rw [g.2] at body
      exact body
    · rw [if_neg (by rw [g.1.2]; decide)]
      rw [g.2] at body
      exact body
  unfold G8 iM_goesOn_b118
  rw [wp_bd2]
  refine w_sign hN hn hx hqq (by decide) (fun t => ?_) (fun t => ?_)
  · show wp (if (1 : Int) = 0 then _ else _) _
    rw [if_neg (by decide)]
    exact fin
  · show wp (if (0 : Int) = 0 then _ else _) _
    rw [if_pos rfl, wp_bd2]
    refine w_sign hN hn hx hqq (by decide) (fun t2 => ?_) (fun t2 => ?_)
    · show wp (if (1 : Int) = 0 then _ else _) _
      rw [if_neg (by decide)]
      exact fin
    · rcases hq with g | g
      · exact absurd g.1 t
      · exact absurd g.1 t2
theorem rb_add [Inhabited Frm] {C : Rx} (h : okR C) {L S S2 : List Int} {q : Nat} {e o c : Int} (hS : (S ++ C.B).length < 700) (hL : L.length ≤ 600) (hq : tM C.T C.n q 43 ∧ c = 1 ∨ tM C.T C.n q 45 ∧ c = 2) (hd : drw asB (S ++ C.B) = S2 ++ C.B) (nx : RA C (L ++ tkw asB (S ++ C.B)) (c :: S2) (tSk C.T C.n (q + 1)) e o) : RB C L S q e o := by
  have hn := h.hn
  have hN := h.hN
  have hqn : q < C.n := by
    rcases hq with g | g
    · exact g.1.1
    · exact g.1.1
  have nn : ∀ a, a ≠ 43 → a ≠ 45 → ¬ tM C.T C.n q a := fun a h1 h2 g2 => by
    rcases hq with g | g
    · exact h1 (by rw [← g.1.2, g2.2])
    · exact h2 (by rw [← g.1.2, g2.2])
  refine rb_go h (by omega) (fun g => absurd g (nn 41 (by decide) (by decide))) ?_
  intro m bp s w v k hx hqq hm hv hw hk
  have g0 : q + 1 ≤ tSk C.T C.n (q + 1) := lR_ge
  have fin : wp (iM_goesOn_b221 C.N C.B.length C.n C.T ((q : Int) + 1) 0 bp s o w v k) (RBg C m e) := by
    have ea : ((q : Int) + 1 - 1).toNat = q := by omega
    have body : wp (iM_goesOn_b243 C.N C.B.length C.n C.T c ((q : Int) + 1) 0 bp o k C.N s w v) (RBg C m e) := by
      refine w_addL (S ++ C.B) L C.N s w v (by omega) hS (by omega) hw hk hv (fun s' v' k' h' g' => ?_)
      show wp (if (1 : Int) = 0 then _ else _) C.Q
      rw [if_neg (by decide)]
      rw [hd] at g' ⊢
      exact sl_1 hN nx hn (x := q + 1) (by omega) rfl (by omega) h' rfl g'
    unfold iM_goesOn_b221
    rw [wp_gd, wp_gd, ea]
    refine ⟨jr_iff.mpr (by omega), jb_iff.mpr (by omega), ?_⟩
    rcases hq with g | g
    · rw [if_pos g.1.2]
      rw [g.2] at body
      exact body
    · rw [if_neg (by rw [g.1.2]; decide)]
      rw [g.2] at body
      exact body
  unfold G8 iM_goesOn_b118
  rw [wp_bd2]
  refine w_sign hN hn hx hqq (by decide) (fun t => absurd t (nn 42 (by decide) (by decide))) (fun t => ?_)
  show wp (if (0 : Int) = 0 then _ else _) _
  rw [if_pos rfl, wp_bd2]
  refine w_sign hN hn hx hqq (by decide) (fun t => absurd t (nn 47 (by decide) (by decide))) (fun t => ?_)
  show wp (if (0 : Int) = 0 then _ else _) _
  rw [if_pos rfl, wp_bd2]
  refine w_sign hN hn hx hqq (by decide) (fun t2 => ?_) (fun t2 => ?_)
  · show wp (if (1 : Int) = 0 then _ else _) _
    rw [if_neg (by decide)]
    exact fin
  · show wp (if (0 : Int) = 0 then _ else _) _
    rw [if_pos rfl, wp_bd2]
    refine w_sign hN hn hx hqq (by decide) (fun t3 => ?_) (fun t3 => ?_)
    · show wp (if (1 : Int) = 0 then _ else _) _
      rw [if_neg (by decide)]
      exact fin
    · rcases hq with g | g
      · exact absurd g.1 t2
      · exact absurd g.1 t3
/-- no sign of an operation -/
def nOp (T : Nat → Int) (n q : Nat) : Prop := ¬ tM T n q 42 ∧ ¬ tM T n q 47 ∧ ¬ tM T n q 43 ∧ ¬ tM T n q 45
theorem cod_s [Inhabited Frm] {v : Nat → Int} {s : Int} {L : List Int} (h : cod v s L) (hL : L.length ≤ 600) : frS v s := by
  have := cod_l h
  exact ⟨by omega, by omega, fun i hi => h.2 i (by omega)⟩
theorem cod_t [Inhabited Frm] {v : Nat → Int} {s : Int} {L : List Int} (h : cod v s L) (hL : L.length ≤ 600) : frT v s := (cod_s h hL).t
theorem len_l {A L1 P : List Int} (h : A = L1 ++ P) (hA : A.length ≤ 600) : L1.length ≤ 600 := by
  rw [h, List.length_append] at hA
  omega
theorem rb_sg [Inhabited Frm] {C : Rx} (h : okR C) {L S : List Int} {q : Nat} {e o : Int} (hS : (S ++ C.B).length ≤ 700) (hL : L.length ≤ 600) (hq : nOp C.T C.n q) (hno : tM C.T C.n q 41 → fm S ≠ 20 ∧ fm S ≠ 23 ∧ fm S ≠ 24) (n1 : fm S = 21 ∨ fm S = 22 → ∀ (m : Nat) (bp : MOne) (s w : Int) (v k : Nat → Int), q ≤ C.n → tSk C.T C.n q = q → C.n - q < m → cod v s L → w = (S ++ C.B).length → stk k (S ++ C.B) → wp (iM_goesOn_b322 C.N C.B.length C.n C.T q 0 bp s o w v k) (RBg C m e)) (n2 : fm S = -1 → EN C L S q e o) (n3 : fm S ≠ 21 → fm S ≠ 22 → fm S ≠ -1 → FL C 1 q) : RB C L S q e o := by
  have hn := h.hn
  have hN := h.hN
  refine rb_go h (by omega) hno ?_
  intro m bp s w v k hx hqq hm hv hw hk
  have mk := w_mark h.hN hw hS hk
  unfold G8 iM_goesOn_b118
  rw [wp_bd2]
  refine w_sign hN hn hx hqq (by decide) (fun t => absurd t hq.1) (fun t => ?_)
  show wp (if (0 : Int) = 0 then _ else _) _
  rw [if_pos rfl, wp_bd2]
  refine w_sign hN hn hx hqq (by decide) (fun t => absurd t hq.2.1) (fun t => ?_)
  show wp (if (0 : Int) = 0 then _ else _) _
  rw [if_pos rfl, wp_bd2]
  refine w_sign hN hn hx hqq (by decide) (fun t => absurd t hq.2.2.1) (fun t => ?_)
  show wp (if (0 : Int) = 0 then _ else _) _
  rw [if_pos rfl, wp_bd2]
  refine w_sign hN hn hx hqq (by decide) (fun t => absurd t hq.2.2.2) (fun t => ?_)
  show wp (if (0 : Int) = 0 then _ else _) _
  rw [if_pos rfl, wp_bd1, mk, wp_some]
  by_cases c1 : fm S = 21
  · rw [if_pos c1]
    exact n1 (Or.inl c1) m bp s w v k hx hqq hm hv hw hk
  · rw [if_neg c1, wp_bd1, wp_some]
    by_cases c2 : fm S = 22
    · rw [if_pos c2]
      exact n1 (Or.inr c2) m bp s w v k hx hqq hm hv hw hk
    · rw [if_neg c2, wp_bd1, wp_some]
      by_cases c3 : fm S = -1
      · rw [if_pos c3, wp_some]
        show wp (if (0 : Int) = 0 then _ else _) C.Q
        rw [if_pos rfl]
        exact sl_0 (by omega) (n2 c3 bp s w v k hv hw hk)
      · rw [if_neg c3, if_pos rfl, wp_bd2]
        unfold iM_fail
        rw [if_pos rfl, wp_some, wp_some]
        exact rb_f (n3 c1 c2 c3) (show (1 : Int) ≠ 0 by decide) (cod_s hv hL) (by omega)
theorem rb_end [Inhabited Frm] {C : Rx} (h : okR C) {L S : List Int} {q : Nat} {e o : Int} (hS : (S ++ C.B).length ≤ 700) (hL : L.length ≤ 600) (hq : nOp C.T C.n q) (hf : fm S = -1) (nx : EN C L S q e o) : RB C L S q e o := rb_sg h hS hL hq (fun _ => ⟨by omega, by omega, by omega⟩) (fun g => by omega) (fun _ => nx) (fun _ _ g => absurd hf g)
theorem rb_fail [Inhabited Frm] {C : Rx} (h : okR C) {L S : List Int} {q : Nat} {e o : Int} (hS : (S ++ C.B).length ≤ 700) (hL : L.length ≤ 600) (hq : nOp C.T C.n q) (hf : fm S ≠ -1) (h41 : fm S = 20 ∨ fm S = 23 ∨ fm S = 24 → ¬ tM C.T C.n q 41) (h44 : fm S = 21 ∨ fm S = 22 → ¬ tM C.T C.n q 44) (nx : FL C 1 q) : RB C L S q e o := by
  refine rb_sg h hS hL hq (fun t => ⟨fun g => h41 (Or.inl g) t, fun g => h41 (Or.inr (Or.inl g)) t, fun g => h41 (Or.inr (Or.inr g)) t⟩) (fun g => ?_) (fun g => absurd g hf) (fun _ _ _ => nx)
  intro m bp s w v k hx hqq hm hv hw hk
  have n44 := h44 g
  unfold iM_goesOn_b322 iM_asksSign
  rw [wp_bd3, if_pos rfl, wp_bd2]
  refine w_sign h.hN h.hn hx hqq (by decide) (fun t => absurd t n44) (fun t => ?_)
  show wp (if (0 : Int) = 0 then _ else _) _
  rw [if_pos rfl, wp_bd2]
  unfold iM_fail
  rw [if_pos rfl, wp_some, wp_some]
  show wp (if (1 : Int) = 0 then _ else _) _
  rw [if_neg (by decide), wp_some]
  exact rb_f nx (show (1 : Int) ≠ 0 by decide) (cod_s hv hL) (by omega)
theorem rb_comma [Inhabited Frm] {C : Rx} (h : okR C) {L S S2 : List Int} {q : Nat} {e o c : Int} (hS : (S ++ C.B).length ≤ 700) (hL : L.length ≤ 600) (hq : tM C.T C.n q 44) (hc : c = 21 ∨ c = 22) (hf : fm S = c) (hd : drw nmB S = c :: S2) (nx : RA C (L ++ tkw nmB S) ((c + 2) :: S2) (tSk C.T C.n (q + 1)) e o) : RB C L S q e o := by
  have hN := h.hN
  have hn := h.hn
  have hqn : q < C.n := hq.1
  have hsb : S.length ≤ (S ++ C.B).length := by rw [List.length_append]; omega
  refine rb_sg h hS hL ⟨tM_u hq (by decide), tM_u hq (by decide), tM_u hq (by decide), tM_u hq (by decide)⟩ (fun t => absurd t (tM_u hq (by decide))) (fun _ => ?_) (fun g => by omega) (fun g1 g2 _ => by omega)
  intro m bp s w v k hx hqq hm hv hw hk
  have g0 : q + 1 ≤ tSk C.T C.n (q + 1) := lR_ge
  unfold iM_goesOn_b322 iM_asksSign
  rw [wp_bd3, if_pos rfl, wp_bd2]
  refine w_sign h.hN h.hn hx hqq (by decide) (fun t => ?_) (fun t => absurd hq t)
  show wp (if (1 : Int) = 0 then _ else _) _
  rw [if_neg (by decide), wp_some]
  show wp (if (0 : Int) = 0 then _ else _) _
  rw [if_pos rfl, wp_bd3]
  unfold iM_dropsToMark
  refine w_dtm S L C.N s w v (by omega) hS (by omega) hw hk hv (fun s' v' h' => ?_)
  have hk2 : stk k ((c :: S2) ++ C.B) := by rw [← hd]; exact stk_drw hk
  have hl2 : (drw nmB S).length ≤ S.length := drw_le S
  rw [hd] at hl2 ⊢
  have hl3 : S2.length + 1 ≤ S.length := hl2
  have ea : ((((c :: S2) ++ C.B).length : Nat) : Int) - 1 = ((S2 ++ C.B).length : Int) := by
    show (((S2 ++ C.B).length + 1 : Nat) : Int) - 1 = _
    omega
  have hl5 : (S2 ++ C.B).length < 700 := by
    rw [List.length_append] at hS ⊢
    omega
  have eb : ((S2 ++ C.B).length : Int).toNat = (S2 ++ C.B).length := rfl
  have ex : k (S2 ++ C.B).length = c := hk2.1
  show wp (gd (jr (((((c :: S2) ++ C.B).length : Nat) : Int) - 1)) (gd (jb (((((c :: S2) ++ C.B).length : Nat) : Int) - 1) 700) (gd (jr (k ((((((c :: S2) ++ C.B).length : Nat) : Int) - 1).toNat) + 2)) (some ((1 : Int), (q : Int) + 1, (0 : Int), (bp : Int), s', o, ((((c :: S2) ++ C.B).length : Nat) : Int), v', va_up k ((((((c :: S2) ++ C.B).length : Nat) : Int) - 1).toNat) (k ((((((c :: S2) ++ C.B).length : Nat) : Int) - 1).toNat) + 2)))))) _
  rw [ea, eb, ex, wp_gd, wp_gd, wp_gd, wp_some]
  refine ⟨jr_iff.mpr (by omega), jb_iff.mpr (by omega), jr_iff.mpr (by omega), ?_⟩
  show wp (if (1 : Int) = 0 then _ else _) C.Q
  rw [if_neg (by decide)]
  exact sl_1 hN nx hn (x := q + 1) (by omega) rfl (by omega) h' rfl (stk_set (W := S2 ++ C.B) hk2)
