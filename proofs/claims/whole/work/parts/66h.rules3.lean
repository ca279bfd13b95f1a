set_option maxHeartbeats 4000000
set_option maxRecDepth 100000
theorem kS_b : ∀ a, a < 21 → kS_len a ≤ 100 := by decide
theorem okR.wd {C : Rx} (h : okR C) {a len : Nat} (ha : a < 21) (hl : len = kS_len a) : wd a len (C.w a) := ⟨hl, kS_b a ha, h.hw a ha⟩
theorem tW_l {T : Nat → Int} {n a b q : Nat} {e : Int} (h : tW T n a q e) (g : tW T n b q e) : kS_len a = kS_len b := by
  have h1 := h.2.2.2.1
  have h2 := g.2.2.2.1
  omega
theorem tW_m {T : Nat → Int} {n a q : Nat} {e c : Int} (h : tW T n a q e) (hc : cMk c) : ¬ tM T n q c := fun g => by
  have h1 := h.2.1
  rw [g.2, hc.1] at h1
  exact absurd h1 (by decide)
theorem p2_bad [Inhabited Frm] {C : Rx} {m n1 : Nat} {kd p a s e o w : Int} {v k : Nat → Int} (h : FL C kd p) (hk : kd ≠ 0) (hs : frS v s) (hm : 0 < m) (hn : 0 < n1) : wp (P2 C s v n1 1 a kd p e o w k) (RAg C m) := by
  obtain ⟨n2, rfl⟩ : ∃ n2, n1 = n2 + 1 := ⟨n1 - 1, by omega⟩
  show wp (iM_part_b2_F C.N C.n (C.w 8) (C.w 5) (C.w 4) (C.w 9) (C.w 3) (C.w 1) (C.w 2) C.T (C.w 6) (C.w 7) s v (P6 C s v) (P2 C s v n2) 1 a kd p e o w k) (RAg C m)
  unfold iM_part_b2_F
  rw [if_neg (by decide), if_neg hk]
  unfold P6 iM_part_b146
  rw [if_neg hk, wp_some]
  exact ra_f h hk hs hm
theorem w_opn {a1 a2 bp o w : Int} {k : Nat → Int} {W : List Int} {Q : R_iM_opens → Prop} (hw : w = W.length) (hl : W.length < 700) (h : stk k W) (ho : 0 ≤ o ∧ o ≤ 6) (h1 : o = 6 → Q (3, a2, o, w, k)) (h2 : o ≠ 6 → ∀ k', stk k' (a1 :: W) → Q (0, bp, o + 1, ((a1 :: W).length : Int), k')) : wp (iM_opens a1 a2 0 bp o w k) Q := by
  unfold iM_opens iM_fail
  rw [wp_ite]
  refine ⟨fun c => ?_, fun c => ?_⟩
  · rw [wp_bd2, if_pos rfl, wp_some, wp_some]
    exact h1 c
  · rw [wp_gd, wp_gd, wp_gd, wp_some]
    refine ⟨jb_iff.mpr (by omega), jr_iff.mpr (by omega), jr_iff.mpr (by omega), ?_⟩
    have := h2 c _ (w_pushE (x := a1) h hw)
    rw [len_c, ← hw] at this
    exact this
theorem ra_open [Inhabited Frm] {C : Rx} (h : okR C) {L S : List Int} {q : Nat} {e o : Int} (hS : (S ++ C.B).length < 700) (hL : L.length ≤ 600) (ho : 0 ≤ o ∧ o ≤ 6) (hq : tM C.T C.n q 40) (n1 : o = 6 → FL C 3 q) (n2 : o ≠ 6 → RA C L (20 :: S) (tSk C.T C.n (q + 1)) e (o + 1)) : RA C L S q e o := by
  intro x m p1 bp s w v k hx hxq hm hp hv hw hk
  obtain ⟨p2, rfl⟩ : ∃ p2, p1 = p2 + 1 := ⟨p1 - 1, by omega⟩
  have hqn : q < C.n := hq.1
  have hn := h.hn
  have g0 : q + 1 ≤ tSk C.T C.n (q + 1) := lR_ge
  show wp (iM_part_b2_F C.N C.n (C.w 8) (C.w 5) (C.w 4) (C.w 9) (C.w 3) (C.w 1) (C.w 2) C.T (C.w 6) (C.w 7) s v (P6 C s v) (P2 C s v p2) 1 x 0 bp e o w k) (RAg C m)
  unfold iM_part_b2_F
  rw [if_neg (by decide), if_pos rfl, wp_bd2, w_lookM h.hN h.hn hx, wp_some, hxq, if_pos hq.1, hq.2, if_pos rfl, wp_bd5]
  refine w_opn hw hS hk ho (fun c => ?_) (fun c k' hk' => ?_)
  · rw [wp_gd]
    exact ⟨jr_iff.mpr (by show _ ∧ (q : Int) + 1 < _; omega), p2_bad (n1 c) (show (3 : Int) ≠ 0 by decide) (cod_s hv hL) (by omega) (by omega)⟩
  · rw [wp_gd]
    exact ⟨jr_iff.mpr (by show _ ∧ (q : Int) + 1 < _; omega), n2 c (q + 1) m p2 bp s _ v k' hqn rfl (by omega) (by omega) hv rfl hk'⟩
theorem lk_l {T : Nat → Int} {n q : Nat} {e c : Int} {a : Nat} (h : tW T n a q e) (hc : cMk c) : ¬ (if q < n then T q else -1) = c := fun g => by
  rw [if_pos h.1] at g
  exact tW_m h hc ⟨h.1, g⟩
theorem lk_n {T : Nat → Int} {n q : Nat} {c : Int} (h : ¬ tM T n q c) (hc : c ≠ -1) : ¬ (if q < n then T q else -1) = c := fun g => by
  by_cases d : q < n
  · rw [if_pos d] at g
    exact h ⟨d, g⟩
  · rw [if_neg d] at g
    exact hc g.symm
theorem lk_p {T : Nat → Int} {n q : Nat} {c : Int} (h : tM T n q c) : (if q < n then T q else -1) = c := by rw [if_pos h.1]; exact h.2
theorem cM40 : cMk 40 := by unfold cMk; decide
theorem ra_two [Inhabited Frm] {C : Rx} (h : okR C) {L S : List Int} {q q2 : Nat} {e e2 o c : Int} (hS : (S ++ C.B).length < 700) (hL : L.length ≤ 600) (ho : 0 ≤ o ∧ o ≤ 6) (hq : tW C.T C.n 4 q e ∧ c = 21 ∨ ¬ tW C.T C.n 4 q e ∧ tW C.T C.n 5 q e ∧ c = 22) (he : e2 = tS C.T C.n q) (hq2 : q2 = tSk C.T C.n (tS C.T C.n q)) (n1 : ¬ tM C.T C.n q2 40 → FL C 1 q2) (n2 : tM C.T C.n q2 40 → o = 6 → FL C 3 q2) (n3 : tM C.T C.n q2 40 → o ≠ 6 → RA C L (c :: S) (tSk C.T C.n (q2 + 1)) e2 (o + 1)) : RA C L S q e o := by
  intro x m p1 bp s w v k hx hxq hm hp hv hw hk
  obtain ⟨p2, rfl⟩ : ∃ p2, p1 = p2 + 1 := ⟨p1 - 1, by omega⟩
  have hn := h.hn
  have hN := h.hN
  have n40 : ¬ tM C.T C.n q 40 := by
    rcases hq with g | g
    · exact tW_m g.1 cM40
    · exact tW_m g.2.1 cM40
  have hqn : q < C.n := by
    rcases hq with g | g
    · exact g.1.1
    · exact g.2.1.1
  have hqq : tSk C.T C.n q = q := by rw [← hxq]; exact lR_id
  have t0 := tS_le (T := C.T) (n := C.n) (q := q) (by omega)
  have t1 := t0.2.2 hqn
  have t2 := t0.2.1
  have t3 : tSk C.T C.n (tS C.T C.n q) ≤ C.n := lR_le t2
  have t4 : tS C.T C.n q ≤ tSk C.T C.n (tS C.T C.n q) := lR_ge
  show wp (iM_part_b2_F C.N C.n (C.w 8) (C.w 5) (C.w 4) (C.w 9) (C.w 3) (C.w 1) (C.w 2) C.T (C.w 6) (C.w 7) s v (P6 C s v) (P2 C s v p2) 1 x 0 bp e o w k) (RAg C m)
  have b132 : ∀ (bd pl oo ww : Int) (kk : Nat → Int), (bd = 0 → pl = bp) → (bd = 0 → tM C.T C.n q2 40 → oo = o + 1 ∧ o ≠ 6 ∧ ww = ((c :: S ++ C.B).length : Int) ∧ stk kk (c :: S ++ C.B)) → (bd ≠ 0 → bd = 3 ∧ pl = q2 ∧ tM C.T C.n q2 40 ∧ o = 6) → wp (iM_part_b132 C.N C.n (C.w 8) (C.w 5) (C.w 4) (C.w 9) (C.w 3) (C.w 1) (C.w 2) C.T (C.w 6) (C.w 7) (P2 C s v p2) (P6 C s v) 1 q2 bd pl s e2 oo ww v kk) (RAg C m) := by
    intro bd pl oo ww kk g9 g1 g2
    unfold iM_part_b132 iM_asksSign
    rw [wp_bd3]
    by_cases cb : bd = 0
    · rw [if_pos cb, cb, wp_bd2]
      have q22 : tSk C.T C.n q2 = q2 := by rw [hq2]; exact lR_id
      refine w_sign hN hn (by omega) q22 (by decide) (fun t => ?_) (fun t => ?_)
      · show wp (if (1 : Int) = 0 then _ else _) _
        rw [if_neg (by decide), wp_some]
        obtain ⟨a1, a2, a3, a4⟩ := g1 cb t
        have g0 : q2 + 1 ≤ tSk C.T C.n (q2 + 1) := lR_ge
        show wp (P2 C s v p2 1 ((q2 : Int) + 1) 0 pl e2 oo ww kk) _
        rw [a1, g9 cb]
        exact n3 t a2 (q2 + 1) m p2 bp s ww v kk t.1 rfl (by omega) (by omega) hv a3 a4
      · show wp (if (0 : Int) = 0 then _ else _) _
        rw [if_pos rfl, wp_bd2]
        unfold iM_fail
        rw [if_pos rfl, wp_some, wp_some]
        exact p2_bad (n1 t) (show (1 : Int) ≠ 0 by decide) (cod_s hv hL) (by omega) (by omega)
    · rw [if_neg cb, wp_some]
      obtain ⟨a1, a2, a3, a4⟩ := g2 cb
      rw [a1, a2]
      exact p2_bad (n2 a3 a4) (show (3 : Int) ≠ 0 by decide) (cod_s hv hL) (by omega) (by omega)
  have b90 : ∀ x3 : Int, (x3 = 0 ↔ c = 22) → c = 21 ∨ c = 22 → wp (iM_part_b90 C.N C.n (C.w 8) (C.w 5) (C.w 4) (C.w 9) (C.w 3) (C.w 1) (C.w 2) C.T (C.w 6) (C.w 7) (P2 C s v p2) (P6 C s v) 1 x3 (tS C.T C.n q : Nat) 0 bp s e2 o w v k) (RAg C m) := fun x3 hx3 hc => by
    unfold iM_part_b90
    rw [wp_bd2, w_lookM hN hn t2, wp_some, ← hq2]
    by_cases t : tM C.T C.n q2 40
    · rw [lk_p t, if_pos rfl]
      unfold iM_part_b107
      rw [if_neg (by show ¬ (q2 : Int) = -1; omega)]
      have fin : wp (iM_part_b127 C.N C.n (C.w 8) (C.w 5) (C.w 4) (C.w 9) (C.w 3) (C.w 1) (C.w 2) C.T (C.w 6) (C.w 7) (P2 C s v p2) (P6 C s v) 1 q2 c q2 0 bp s e2 o w v k) (RAg C m) := by
        unfold iM_part_b127
        rw [wp_bd5]
        exact w_opn hw hS hk ho (fun d => b132 3 q2 o w k (fun g => absurd g (by decide)) (fun g _ => absurd g (by decide)) (fun _ => ⟨rfl, rfl, t, d⟩)) (fun d k' hk' => b132 0 bp (o + 1) _ k' (fun _ => rfl) (fun _ _ => ⟨rfl, d, rfl, hk'⟩) (fun g => absurd rfl g))
      rcases hc with d | d
      · rw [if_neg (by omega)]
        rw [d] at fin
        exact fin
      · rw [if_pos (hx3.mpr d)]
        rw [d] at fin
        exact fin
    · rw [if_neg (lk_n t (by decide))]
      unfold iM_part_b107
      rw [if_pos rfl]
      exact b132 0 bp o w k (fun _ => rfl) (fun _ g => absurd g t) (fun g => absurd rfl g)
  have b69 : wp (iM_part_b69 C.N C.n (C.w 8) (C.w 5) (C.w 4) (C.w 9) (C.w 3) (C.w 1) (C.w 2) C.T (C.w 6) (C.w 7) (P2 C s v p2) (P6 C s v) 1 q 0 bp s e o w v k) (RAg C m) := by
    unfold iM_part_b69
    rw [wp_bd3]
    refine w_takes hN hn (by omega) (h.wd (a := 4) (by decide) rfl) (fun t => ?_) (fun t => ?_)
    · rw [hqq] at t ⊢
      show wp (if (1 : Int) = 0 then _ else _) _
      rw [if_neg (by decide)]
      have hc : c = 21 := by
        rcases hq with g | g
        · exact g.2
        · exact absurd t g.1
      have := b90 1 ⟨fun g => absurd g (by decide), fun g => by omega⟩ (Or.inl hc)
      rw [he] at this
      exact this
    · rw [hqq] at t ⊢
      show wp (if (0 : Int) = 0 then _ else _) _
      have hc : tW C.T C.n 5 q e ∧ c = 22 := by
        rcases hq with g | g
        · exact absurd g.1 t
        · exact g.2
      rw [if_pos rfl, wp_bd4]
      unfold iM_asks
      rw [if_pos rfl, wp_bd3]
      refine w_takes hN hn (by omega) (h.wd (a := 5) (by decide) rfl) (fun t2 => ?_) (fun t2 => ?_)
      · rw [hqq] at t2 ⊢
        show wp (if (1 : Int) = 0 then _ else _) _
        rw [if_neg (by decide), wp_some]
        have := b90 0 ⟨fun _ => hc.2, fun _ => rfl⟩ (Or.inr hc.2)
        rw [he] at this
        exact this
      · rw [hqq] at t2
        exact absurd hc.1 t2
  unfold iM_part_b2_F
  rw [if_neg (by decide), if_pos rfl, wp_bd2, w_lookM hN hn hx, wp_some, hxq, if_neg (lk_n n40 (by decide)), wp_bd2]
  obtain ⟨b, b1, b2, b3⟩ := w_isHere hN (e := e) hn (x := q) (by omega) (h.wd (a := 4) (len := 3) (by decide) rfl)
  rw [hqq] at b2 b3
  show wp (iM_isHere C.N 3 (C.w 4) q 0 C.n e C.T) _
  rw [b3, wp_some]
  by_cases cb : b = 0
  · show wp (if b = 0 then _ else _) _
    rw [if_pos cb, wp_bd2]
    obtain ⟨d, d1, d2, d3⟩ := w_isHere hN (e := e) hn (x := q) (by omega) (h.wd (a := 5) (len := 3) (by decide) rfl)
    rw [hqq] at d2 d3
    show wp (iM_isHere C.N 3 (C.w 5) q 0 C.n e C.T) _
    rw [d3, wp_some]
    show wp (if d = 0 then _ else _) _
    have hd : tW C.T C.n 5 q e := by
      rcases hq with g | g
      · have := b2.mpr g.1
        omega
      · exact g.2.1
    have := d2.mpr hd
    rw [if_neg (by omega)]
    exact b69
  · show wp (if b = 0 then _ else _) _
    rw [if_neg cb]
    exact b69
