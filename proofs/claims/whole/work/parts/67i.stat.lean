set_option maxHeartbeats 4000000
set_option maxRecDepth 100000
/-! a whole statement -/
theorem cM59 : cMk 59 := cM_.2.2.2.2.2.2.2.2.2.2.2
theorem cM91' : cMk 91 := cM_.2.2.2.2.2.2.1
theorem jNew_row (D : DynI) : jNew D 0 = jRow (jNew D 0) D.1 (fun _ => 0) := by
  show jNew D 0 = (D.1 + 1, va_up D.2.1 D.1 0, D.2.2.1, va_up (va_up D.2.2.2.1 D.1 (fun _ => 0)) D.1 (fun _ => 0), va_up D.2.2.2.2 D.1 (fun _ => none))
  rw [up_up]
  rfl
theorem jNew_ok (D : DynI) (c : Nat) : jOk (jNew D c) D.1 c := ⟨Nat.lt_succ_self _, va_up_self _ _ _⟩
def KSok (N : Nat) (T : Nat → Int) (n q : Nat) (e : Int) (q2 : Nat) (e2 kd bl f1 f2 : Int) (l t : List Int) : Prop := ∀ (D : DynI) (i : Nat) (L : List Int) (fa fp s : Int) (v : Nat → Int) (stm : Nat → Option Nat) (Q : R_iReader_readStatement → Prop), i < 24 → s ≤ q → cdk v s (trl L) → (∀ g s2 v2, (g 0 = kd ∧ g 1 = bl ∧ g 2 = f1 ∧ g 3 = f2 ∧ g 4 = s ∧ g 5 = s + (trl l).length ∧ g 6 = s + (trl l).length + (trl t).length) → cdk v2 s2 (trl (L ++ (l ++ t))) → Q (1, jRow (jNew D 0) D.1 g, (q2 : Int), fa, fp, tK T n q2 e2, 0, s2, (tS T n q2 : Int), v2, va_up stm i (some D.1))) → wp (iReader_readStatement N D q i fa fp (tK T n q e) n 0 s (tS T n q) v stm T) Q
def KSbad (N : Nat) (T : Nat → Int) (n q : Nat) (e k p : Int) : Prop := ∀ (D : DynI) (i : Nat) (L : List Int) (fa fp s : Int) (v : Nat → Int) (stm : Nat → Option Nat) (Q : R_iReader_readStatement → Prop), i < 24 → s ≤ q → cdk v s (trl L) → (∀ g a kd op s2 st v2 stm2, Q (0, jRow (jNew D 0) D.1 g, a, k, p, kd, op, s2, st, v2, stm2)) → wp (iReader_readStatement N D q i fa fp (tK T n q e) n 0 s (tS T n q) v stm T) Q
theorem ks_pre {N n : Nat} {T : Nat → Int} {q i : Nat} {e fa fp s : Int} {D : DynI} {v : Nat → Int} {stm : Nat → Option Nat} {Q : R_iReader_readStatement → Prop} (hi : i < 24) (h : wp (bd10 (iReader_readDuty N (some D.1) (jRow (jNew D 0) D.1 (va_up (fun _ => 0) 4 s)) q fa fp (tK T n q e) n 0 s (tS T n q) v T) fun rc6 v_D_c6 v_at_c6 v_fault_c6 v_faultAt_c6 v_kind_c6 v_open_c6 v_size_c6 v_stop_c6 v_code_c6 => bd1 (jPI v_D_c6 D.1 0 5 v_size_c6) fun v_D7 => if rc6 = 0 then iReader_readStatement_b65 N i n T D.1 0 v_D7 v_at_c6 v_fault_c6 v_faultAt_c6 v_kind_c6 v_open_c6 v_size_c6 v_stop_c6 v_code_c6 (va_up stm i (some D.1)) else bd6 (iReader_needWord N 15 v_at_c6 v_fault_c6 v_faultAt_c6 v_kind_c6 n v_stop_c6 T) fun rc8 v_at_c8 v_fault_c8 v_faultAt_c8 v_kind_c8 v_stop_c8 => if rc8 = 0 then iReader_readStatement_b65 N i n T D.1 0 v_D7 v_at_c8 v_fault_c8 v_faultAt_c8 v_kind_c8 v_open_c6 v_size_c6 v_stop_c8 v_code_c6 (va_up stm i (some D.1)) else bd9 (iReader_readTest N v_at_c8 v_fault_c8 v_faultAt_c8 v_kind_c8 n v_open_c6 v_size_c6 v_stop_c8 v_code_c6 T) fun rc9 v_at_c9 v_fault_c9 v_faultAt_c9 v_kind_c9 v_open_c9 v_size_c9 v_stop_c9 v_code_c9 => if rc9 = 0 then iReader_readStatement_b65 N i n T D.1 0 v_D7 v_at_c9 v_fault_c9 v_faultAt_c9 v_kind_c9 v_open_c9 v_size_c9 v_stop_c9 v_code_c9 (va_up stm i (some D.1)) else iReader_readStatement_b65 N i n T D.1 1 v_D7 v_at_c9 v_fault_c9 v_faultAt_c9 v_kind_c9 v_open_c9 v_size_c9 v_stop_c9 v_code_c9 (va_up stm i (some D.1))) Q) : wp (iReader_readStatement N D q i fa fp (tK T n q e) n 0 s (tS T n q) v stm T) Q := by
  unfold iReader_readStatement iStatement_init
  rw [wp_bd1, wp_some, wp_bd0, wp_some, wp_gd, wp_gd]
  refine ⟨decide_eq_true (jNew_ok D 0), jb_iff.mpr (by omega), ?_⟩
  have e1 : jPI (jNew D 0) D.1 0 4 s = some (jRow (jNew D 0) D.1 (va_up (fun _ => 0) 4 s)) := by
    have := jPI_row (D := jNew D 0) (y := D.1) (k := 4) (g := fun _ => 0) (x := s) (jNew_ok D 0)
    rw [← jNew_row] at this
    exact this
  rw [wp_bd1, e1, wp_some]
  exact h
theorem ks_ok {N n : Nat} {T : Nat → Int} {q q1 q3 : Nat} {e e1 e3 kd bl f1 f2 : Int} {l t : List Int} (hN : 5000 ≤ N) (hn : n ≤ 600) (h : KDok N T n q e q1 e1 kd bl f1 f2 l) (hp : plc T n q q1 e1 l) (h15 : tW T n 15 q1 e1) (ht : CLok T n (g2 N n T 40 2) (tSk T n (tS T n q1)) (tS T n q1 : Nat) 0 q3 e3 t) (hp3 : plc T n (tSk T n (tS T n q1)) q3 e3 t) (h59 : tM T n q3 59) : KSok N T n q e (tSk T n (q3 + 1)) e3 kd bl f1 f2 l t := by
  intro D i L fa fp s v stm Q hi hs hv hQ
  obtain ⟨p1, p2, p3, p4⟩ := hp
  have z0 := tS_le (T := T) (n := n) (q := q1) p1
  have z1 : tS T n q1 ≤ tSk T n (tS T n q1) := lR_ge
  have hvl := hv.1
  refine ks_pre hi ?_
  rw [wp_bd10]
  refine h (jNew D 0) D.1 (va_up (fun _ => 0) 4 s) L fa fp s v _ (jNew_ok D 0) ⟨va_up_ne _ _ (by decide), va_up_ne _ _ (by decide), va_up_ne _ _ (by decide), va_up_ne _ _ (by decide)⟩ hs hv (fun g s2 v2 ⟨b0, b1, b2, b3, b4⟩ h2 => ?_)
  have h2l := h2.1
  rw [trl_app, List.length_append] at h2l
  show wp (bd1 (jPI (jRow (jNew D 0) D.1 g) D.1 0 5 s2) _) Q
  rw [wp_bd1, jPI_row (jNew_ok D 0), wp_some]
  show wp (if (1 : Int) = 0 then _ else _) Q
  rw [if_neg (by decide), wp_bd6]
  unfold iReader_needWord
  rw [wp_bd4]
  refine w_takeWord hN hn p1 (by decide) (fun _ => ?_) (fun w => absurd h15 w)
  show wp (if (1 : Int) = 0 then _ else _) _
  rw [if_neg (by decide), wp_some]
  show wp (if (1 : Int) = 0 then _ else _) Q
  rw [if_neg (by decide), wp_bd9]
  show wp (g2 N n T 40 2 (tSk T n (tS T n q1) : Nat) fa fp (tK T n (tSk T n (tS T n q1)) (tS T n q1 : Nat)) 0 s2 (tS T n (tSk T n (tS T n q1)) : Nat) v2) _
  refine ht (L ++ l) fa fp s2 v2 _ (by omega) h2 (fun s3 v3 h3 => ?_)
  have h3l := h3.1
  rw [trl_app, trl_app, List.length_append, List.length_append] at h3l
  show wp (if (1 : Int) = 0 then _ else _) Q
  rw [if_neg (by decide)]
  unfold iReader_readStatement_b65
  rw [wp_bd1]
  show wp (jPI (jRow (jNew D 0) D.1 (va_up g 5 s2)) D.1 0 6 s3) _
  rw [jPI_row (jNew_ok D 0), wp_some, if_neg (by decide), wp_bd6]
  refine w_needM hN hn hp3.2.2.1 cM59 (fun _ => ?_) (fun w => absurd h59 w)
  show wp (if (1 : Int) = 0 then _ else _) Q
  rw [if_neg (by decide), wp_some]
  refine hQ _ s3 v3 ⟨?_, ?_, ?_, ?_, ?_, ?_, ?_⟩ (by rw [← List.append_assoc]; exact h3)
  · rw [va_up_ne _ _ (by decide), va_up_ne _ _ (by decide), b0]
  · rw [va_up_ne _ _ (by decide), va_up_ne _ _ (by decide), b1]
  · rw [va_up_ne _ _ (by decide), va_up_ne _ _ (by decide), b2]
  · rw [va_up_ne _ _ (by decide), va_up_ne _ _ (by decide), b3]
  · rw [va_up_ne _ _ (by decide), va_up_ne _ _ (by decide), b4, va_up_self]
  · rw [va_up_ne _ _ (by decide), va_up_self]
    omega
  · rw [va_up_self]
    omega
theorem ks_b1 {N n : Nat} {T : Nat → Int} {q : Nat} {e kd p : Int} (h : KDbad N T n q e kd p) : KSbad N T n q e kd p := by
  intro D i L fa fp s v stm Q hi hs hv hQ
  refine ks_pre hi ?_
  rw [wp_bd10]
  refine h (jNew D 0) D.1 (va_up (fun _ => 0) 4 s) L fa fp s v _ (jNew_ok D 0) ⟨va_up_ne _ _ (by decide), va_up_ne _ _ (by decide), va_up_ne _ _ (by decide), va_up_ne _ _ (by decide)⟩ hs hv (fun g a k2 o2 s2 t2 v2 => ?_)
  show wp (bd1 (jPI (jRow (jNew D 0) D.1 g) D.1 0 5 s2) _) Q
  rw [wp_bd1, jPI_row (jNew_ok D 0), wp_some]
  show wp (if (0 : Int) = 0 then _ else _) Q
  rw [if_pos rfl]
  unfold iReader_readStatement_b65
  rw [wp_bd1]
  show wp (jPI (jRow (jNew D 0) D.1 (va_up g 5 s2)) D.1 0 6 s2) _
  rw [jPI_row (jNew_ok D 0), wp_some, if_pos rfl, wp_some]
  exact hQ _ _ _ _ _ _ _ _
theorem ks_b2 {N n : Nat} {T : Nat → Int} {q q1 : Nat} {e e1 kd bl f1 f2 : Int} {l : List Int} (hN : 5000 ≤ N) (hn : n ≤ 600) (h : KDok N T n q e q1 e1 kd bl f1 f2 l) (hp : plc T n q q1 e1 l) (h15 : ¬ tW T n 15 q1 e1) : KSbad N T n q e 1 q1 := by
  intro D i L fa fp s v stm Q hi hs hv hQ
  refine ks_pre hi ?_
  rw [wp_bd10]
  refine h (jNew D 0) D.1 (va_up (fun _ => 0) 4 s) L fa fp s v _ (jNew_ok D 0) ⟨va_up_ne _ _ (by decide), va_up_ne _ _ (by decide), va_up_ne _ _ (by decide), va_up_ne _ _ (by decide)⟩ hs hv (fun g s2 v2 _ h2 => ?_)
  show wp (bd1 (jPI (jRow (jNew D 0) D.1 g) D.1 0 5 s2) _) Q
  rw [wp_bd1, jPI_row (jNew_ok D 0), wp_some]
  show wp (if (1 : Int) = 0 then _ else _) Q
  rw [if_neg (by decide), wp_bd6]
  unfold iReader_needWord
  rw [wp_bd4]
  refine w_takeWord hN hn hp.1 (by decide) (fun w => absurd w h15) (fun _ => ?_)
  show wp (if (0 : Int) = 0 then _ else _) _
  unfold iReader_fail
  rw [if_pos rfl, wp_bd3, wp_some, if_pos rfl, wp_some]
  show wp (if (0 : Int) = 0 then _ else _) Q
  rw [if_pos rfl]
  unfold iReader_readStatement_b65
  rw [wp_bd1]
  show wp (jPI (jRow (jNew D 0) D.1 (va_up g 5 s2)) D.1 0 6 s2) _
  rw [jPI_row (jNew_ok D 0), wp_some, if_pos rfl, wp_some]
  exact hQ _ _ _ _ _ _ _ _
theorem ks_b3 {N n : Nat} {T : Nat → Int} {q q1 : Nat} {e e1 kd bl f1 f2 k p : Int} {l : List Int} (hN : 5000 ≤ N) (hn : n ≤ 600) (h : KDok N T n q e q1 e1 kd bl f1 f2 l) (hp : plc T n q q1 e1 l) (h15 : tW T n 15 q1 e1) (ht : CLbad T n (g2 N n T 40 2) (tSk T n (tS T n q1)) (tS T n q1 : Nat) 0 k p) : KSbad N T n q e k p := by
  intro D i L fa fp s v stm Q hi hs hv hQ
  obtain ⟨p1, p2, p3, p4⟩ := hp
  have z0 := tS_le (T := T) (n := n) (q := q1) p1
  have z1 : tS T n q1 ≤ tSk T n (tS T n q1) := lR_ge
  have hvl := hv.1
  refine ks_pre hi ?_
  rw [wp_bd10]
  refine h (jNew D 0) D.1 (va_up (fun _ => 0) 4 s) L fa fp s v _ (jNew_ok D 0) ⟨va_up_ne _ _ (by decide), va_up_ne _ _ (by decide), va_up_ne _ _ (by decide), va_up_ne _ _ (by decide)⟩ hs hv (fun g s2 v2 _ h2 => ?_)
  have h2l := h2.1
  rw [trl_app, List.length_append] at h2l
  show wp (bd1 (jPI (jRow (jNew D 0) D.1 g) D.1 0 5 s2) _) Q
  rw [wp_bd1, jPI_row (jNew_ok D 0), wp_some]
  show wp (if (1 : Int) = 0 then _ else _) Q
  rw [if_neg (by decide), wp_bd6]
  unfold iReader_needWord
  rw [wp_bd4]
  refine w_takeWord hN hn p1 (by decide) (fun _ => ?_) (fun w => absurd h15 w)
  show wp (if (1 : Int) = 0 then _ else _) _
  rw [if_neg (by decide), wp_some]
  show wp (if (1 : Int) = 0 then _ else _) Q
  rw [if_neg (by decide), wp_bd9]
  show wp (g2 N n T 40 2 (tSk T n (tS T n q1) : Nat) fa fp (tK T n (tSk T n (tS T n q1)) (tS T n q1 : Nat)) 0 s2 (tS T n (tSk T n (tS T n q1)) : Nat) v2) _
  refine ht (L ++ l) fa fp s2 v2 _ (by omega) h2 (fun a k2 o2 s3 t3 v3 => ?_)
  show wp (if (0 : Int) = 0 then _ else _) Q
  rw [if_pos rfl]
  unfold iReader_readStatement_b65
  rw [wp_bd1]
  show wp (jPI (jRow (jNew D 0) D.1 (va_up g 5 s2)) D.1 0 6 s3) _
  rw [jPI_row (jNew_ok D 0), wp_some, if_pos rfl, wp_some]
  exact hQ _ _ _ _ _ _ _ _
theorem ks_b4 {N n : Nat} {T : Nat → Int} {q q1 q3 : Nat} {e e1 e3 kd bl f1 f2 : Int} {l t : List Int} (hN : 5000 ≤ N) (hn : n ≤ 600) (h : KDok N T n q e q1 e1 kd bl f1 f2 l) (hp : plc T n q q1 e1 l) (h15 : tW T n 15 q1 e1) (ht : CLok T n (g2 N n T 40 2) (tSk T n (tS T n q1)) (tS T n q1 : Nat) 0 q3 e3 t) (hp3 : plc T n (tSk T n (tS T n q1)) q3 e3 t) (h59 : ¬ tM T n q3 59) : KSbad N T n q e 1 q3 := by
  intro D i L fa fp s v stm Q hi hs hv hQ
  obtain ⟨p1, p2, p3, p4⟩ := hp
  have z0 := tS_le (T := T) (n := n) (q := q1) p1
  have z1 : tS T n q1 ≤ tSk T n (tS T n q1) := lR_ge
  have hvl := hv.1
  refine ks_pre hi ?_
  rw [wp_bd10]
  refine h (jNew D 0) D.1 (va_up (fun _ => 0) 4 s) L fa fp s v _ (jNew_ok D 0) ⟨va_up_ne _ _ (by decide), va_up_ne _ _ (by decide), va_up_ne _ _ (by decide), va_up_ne _ _ (by decide)⟩ hs hv (fun g s2 v2 _ h2 => ?_)
  have h2l := h2.1
  rw [trl_app, List.length_append] at h2l
  show wp (bd1 (jPI (jRow (jNew D 0) D.1 g) D.1 0 5 s2) _) Q
  rw [wp_bd1, jPI_row (jNew_ok D 0), wp_some]
  show wp (if (1 : Int) = 0 then _ else _) Q
  rw [if_neg (by decide), wp_bd6]
  unfold iReader_needWord
  rw [wp_bd4]
  refine w_takeWord hN hn p1 (by decide) (fun _ => ?_) (fun w => absurd h15 w)
  show wp (if (1 : Int) = 0 then _ else _) _
  rw [if_neg (by decide), wp_some]
  show wp (if (1 : Int) = 0 then _ else _) Q
  rw [if_neg (by decide), wp_bd9]
  show wp (g2 N n T 40 2 (tSk T n (tS T n q1) : Nat) fa fp (tK T n (tSk T n (tS T n q1)) (tS T n q1 : Nat)) 0 s2 (tS T n (tSk T n (tS T n q1)) : Nat) v2) _
  refine ht (L ++ l) fa fp s2 v2 _ (by omega) h2 (fun s3 v3 h3 => ?_)
  show wp (if (1 : Int) = 0 then _ else _) Q
  rw [if_neg (by decide)]
  unfold iReader_readStatement_b65
  rw [wp_bd1]
  show wp (jPI (jRow (jNew D 0) D.1 (va_up g 5 s2)) D.1 0 6 s3) _
  rw [jPI_row (jNew_ok D 0), wp_some, if_neg (by decide), wp_bd6]
  refine w_needM hN hn hp3.2.2.1 cM59 (fun w => absurd w h59) (fun _ => ?_)
  show wp (if (0 : Int) = 0 then _ else _) Q
  rw [if_pos rfl, wp_some]
  exact hQ _ _ _ _ _ _ _ _
/-! the reference's -/
def RQok [Inhabited Frm] (T : Nat → Int) (n q : Nat) (e : Int) (q2 : Nat) (e2 kd bl f1 f2 : Int) (l t : List Int) : Prop := ∀ (N : Nat) (W : Nat → Nat → Int) (x i : Nat) (bp : MOne) (bs s o w : Int) (v fi ib mn se so sE sF tE wt : Nat → Int) (L : List Int) (Q : R_iM_statement → Prop), 5000 ≤ N → (∀ a, a < 21 → ∀ i, i < kS_len a → W a i = jch a i) → x ≤ n → tSk T n x = q → mn 0 = i → i < 24 → cod v s L → L.length ≤ q → (∀ (x2 : Nat) (bp2 : MOne) bs2 s2 v2 fi2 ib2 mn2 se2 so2 sE2 sF2 tE2 wt2, x2 ≤ n → tSk T n x2 = q2 → cod v2 s2 (L ++ (l ++ t)) → updI fi fi2 i f1 → updI ib ib2 i bl → updI mn mn2 0 ((i : Int) + 1) → updI se se2 i f2 → updI so so2 i (kd - 1) → updI sE sE2 i (s + l.length) → updI sF sF2 i s → updI tE tE2 i (s + l.length + t.length) → Q ((x2 : Int), 0, bp2, bs2, s2, e2, 0, 0, v2, fi2, ib2, mn2, se2, so2, sE2, sF2, tE2, wt2)) → wp (RSt N W n T x bp bs s e o w v fi ib mn se so sE sF tE wt) Q
def RQbad [Inhabited Frm] (T : Nat → Int) (n q : Nat) (e kd p : Int) : Prop := ∀ (N : Nat) (W : Nat → Nat → Int) (x i : Nat) (bp : MOne) (bs s o w : Int) (v fi ib mn se so sE sF tE wt : Nat → Int) (L : List Int) (Q : R_iM_statement → Prop), 5000 ≤ N → (∀ a, a < 21 → ∀ i, i < kS_len a → W a i = jch a i) → x ≤ n → tSk T n x = q → mn 0 = i → i < 24 → cod v s L → L.length ≤ q → (kd ≠ 0 → ∀ a bs2 s2 e2 o2 w2 v2 fi2 ib2 mn2 se2 so2 sE2 sF2 tE2 wt2, frT v2 s2 → kpt fi fi2 i → kpt ib ib2 i → kpt mn mn2 0 → kpt se se2 i → kpt so so2 i → kpt sE sE2 i → kpt sF sF2 i → kpt tE tE2 i → Q (a, kd, p, bs2, s2, e2, o2, w2, v2, fi2, ib2, mn2, se2, so2, sE2, sF2, tE2, wt2)) → wp (RSt N W n T x bp bs s e o w v fi ib mn se so sE sF tE wt) Q
theorem updI.k {f f2 : Nat → Int} {i : Nat} {x : Int} (h : updI f f2 i x) : kpt f f2 i := h.2
/-- what fails behind the duty -/
theorem rq_279 {N n : Nat} {W : Nat → Nat → Int} {T : Nat → Int} {i : Nat} {a kd p bs s e o w : Int} {v fi ib mn se so sE sF tE wt : Nat → Int} {Q : R_iM_statement → Prop} (hk : kd ≠ 0) (hi : i < 24) (hm : mn 0 = i) (h : ∀ mn2 tE2, kpt mn mn2 0 → kpt tE tE2 i → Q (a, kd, p, bs, s, e, o, w, v, fi, ib, mn2, se, so, sE, sF, tE2, wt)) : wp (iM_statement_b279 N n (W 17) (W 11) (W 19) (W 10) (W 8) (W 0) (W 15) (W 13) (W 5) (W 4) (W 16) (W 20) (W 9) (W 12) (W 3) (W 1) (W 2) (W 18) (W 14) T (W 6) (W 7) i a kd p bs s e o w v fi ib mn se so sE sF tE wt) Q := by
  unfold iM_statement_b279 iM_asksSign
  rw [wp_gd, wp_bd3, if_neg hk, wp_some, wp_gd, wp_some]
  exact ⟨jb_iff.mpr (by omega), jr_iff.mpr (by rw [hm]; omega), h _ _ (kpt_1 _ _ _) (kpt_1 _ _ _)⟩
theorem rq_b1 [Inhabited Frm] {n : Nat} {T : Nat → Int} {q : Nat} {e kd p : Int} (h : RDbad T n q e kd p) : RQbad T n q e kd p := by
  intro N W x i bp bs s o w v fi ib mn se so sE sF tE wt L Q hN hW hx hxq hmn hi hv hL hQ
  refine h N W x i bp bs s o w v fi ib mn se so sE sF tE wt L _ hN hW hx hxq hmn hi hv hL (fun hk a bs2 s2 e2 o2 w2 v2 fi2 ib2 se2 so2 wt2 a1 a2 a3 a4 a5 => ?_)
  unfold B250 iM_statement_b250 iM_asks
  rw [wp_gd, wp_bd4, if_neg hk, wp_some]
  refine ⟨jb_iff.mpr (by omega), ?_⟩
  show wp (if kd = 0 then _ else _) Q
  rw [if_neg hk]
  exact rq_279 hk hi hmn (fun mn2 tE2 b1 b2 => hQ hk _ _ _ _ _ _ _ _ _ _ _ _ _ _ _ _ a1 a2 a3 b1 a4 a5 (kpt_1 _ _ _) (kpt_1 _ _ _) b2)
theorem rq_b2 [Inhabited Frm] {n : Nat} {T : Nat → Int} {q q1 : Nat} {e e1 kd bl f1 f2 : Int} {l : List Int} (hn : n ≤ 600) (h : RDok T n q e q1 e1 kd bl f1 f2 l) (hp : plc T n q q1 e1 l) (h15 : ¬ tW T n 15 q1 e1) : RQbad T n q e 1 q1 := by
  intro N W x i bp bs s o w v fi ib mn se so sE sF tE wt L Q hN hW hx hxq hmn hi hv hL hQ
  obtain ⟨p1, p2, p3, p4⟩ := hp
  have ll : l.length ≤ (trl l).length := trl_len l
  refine h N W x i bp bs s o w v fi ib mn se so sE sF tE wt L _ hN hW hx hxq hmn hi hv hL (fun x2 bp2 bs2 s2 v2 fi2 ib2 se2 so2 wt2 a1 a2 a3 a4 a5 a6 a7 => ?_)
  unfold B250 iM_statement_b250 iM_asks
  rw [wp_gd, wp_bd4, if_pos rfl, wp_bd3]
  refine ⟨jb_iff.mpr (by omega), ?_⟩
  refine w_takes hN hn a1 (wdk hW (a := 15) (by decide) rfl) (fun w => absurd (by rw [a2] at w; exact w) h15) (fun _ => ?_)
  rw [a2]
  show wp (if (0 : Int) = 0 then _ else _) _
  rw [if_pos rfl, wp_bd2]
  unfold iM_fail
  rw [if_pos rfl, wp_some, wp_some]
  show wp (if (1 : Int) = 0 then _ else _) Q
  rw [if_neg (by decide)]
  exact rq_279 (show (1 : Int) ≠ 0 by decide) hi hmn (fun mn2 tE2 b1 b2 => hQ (by decide) _ _ _ _ _ _ _ _ _ _ _ _ _ _ _ _ (cod_t a3 (by rw [List.length_append]; omega)) a4.k a5.k b1 a6.k a7.k (kpt_1 _ _ _) (kpt_1 _ _ _) b2)
theorem rq_b3 [Inhabited Frm] {n : Nat} {T : Nat → Int} {q q1 : Nat} {e e1 kd bl f1 f2 k p : Int} {l : List Int} (hn : n ≤ 600) (h : RDok T n q e q1 e1 kd bl f1 f2 l) (hp : plc T n q q1 e1 l) (h15 : tW T n 15 q1 e1) (ht : RTbad T n (tSk T n (tS T n q1)) (tS T n q1 : Nat) k p) : RQbad T n q e k p := by
  intro N W x i bp bs s o w v fi ib mn se so sE sF tE wt L Q hN hW hx hxq hmn hi hv hL hQ
  obtain ⟨p1, p2, p3, p4⟩ := hp
  have ll : l.length ≤ (trl l).length := trl_len l
  have z0 := tS_le (T := T) (n := n) (q := q1) p1
  have z1 : tS T n q1 ≤ tSk T n (tS T n q1) := lR_ge
  refine h N W x i bp bs s o w v fi ib mn se so sE sF tE wt L _ hN hW hx hxq hmn hi hv hL (fun x2 bp2 bs2 s2 v2 fi2 ib2 se2 so2 wt2 a1 a2 a3 a4 a5 a6 a7 => ?_)
  unfold B250 iM_statement_b250 iM_asks
  rw [wp_gd, wp_bd4, if_pos rfl, wp_bd3]
  refine ⟨jb_iff.mpr (by omega), ?_⟩
  refine w_takes hN hn a1 (wdk hW (a := 15) (by decide) rfl) (fun _ => ?_) (fun w => absurd h15 (by rw [a2] at w; exact w))
  rw [a2]
  show wp (if (1 : Int) = 0 then _ else _) _
  rw [if_neg (by decide), wp_some]
  show wp (if (0 : Int) = 0 then _ else _) Q
  rw [if_pos rfl, wp_bd10]
  refine ht N W (tS T n q1) bp2 bs2 s2 v2 wt2 (L ++ l) _ hN hW z0.2.1 rfl a3 (by rw [List.length_append]; omega) (fun hk a3 bs3 s3 e3 o3 w3 v3 k3 g1 => ?_)
  exact rq_279 hk hi hmn (fun mn2 tE2 b1 b2 => hQ hk _ _ _ _ _ _ _ _ _ _ _ _ _ _ _ _ g1 a4.k a5.k b1 a6.k a7.k (kpt_1 _ _ _) (kpt_1 _ _ _) b2)
theorem rq_b4 [Inhabited Frm] {n : Nat} {T : Nat → Int} {q q1 q3 : Nat} {e e1 e3 kd bl f1 f2 : Int} {l t : List Int} (hn : n ≤ 600) (h : RDok T n q e q1 e1 kd bl f1 f2 l) (hp : plc T n q q1 e1 l) (h15 : tW T n 15 q1 e1) (ht : RTok T n (tSk T n (tS T n q1)) (tS T n q1 : Nat) q3 e3 t) (hp3 : plc T n (tSk T n (tS T n q1)) q3 e3 t) (h59 : ¬ tM T n q3 59) : RQbad T n q e 1 q3 := by
  intro N W x i bp bs s o w v fi ib mn se so sE sF tE wt L Q hN hW hx hxq hmn hi hv hL hQ
  obtain ⟨p1, p2, p3, p4⟩ := hp
  obtain ⟨u1, u2, u3, u4⟩ := hp3
  have ll : l.length ≤ (trl l).length := trl_len l
  have lt : t.length ≤ (trl t).length := trl_len t
  have z0 := tS_le (T := T) (n := n) (q := q1) p1
  have z1 : tS T n q1 ≤ tSk T n (tS T n q1) := lR_ge
  refine h N W x i bp bs s o w v fi ib mn se so sE sF tE wt L _ hN hW hx hxq hmn hi hv hL (fun x2 bp2 bs2 s2 v2 fi2 ib2 se2 so2 wt2 a1 a2 a3 a4 a5 a6 a7 => ?_)
  unfold B250 iM_statement_b250 iM_asks
  rw [wp_gd, wp_bd4, if_pos rfl, wp_bd3]
  refine ⟨jb_iff.mpr (by omega), ?_⟩
  refine w_takes hN hn a1 (wdk hW (a := 15) (by decide) rfl) (fun _ => ?_) (fun w => absurd h15 (by rw [a2] at w; exact w))
  rw [a2]
  show wp (if (1 : Int) = 0 then _ else _) _
  rw [if_neg (by decide), wp_some]
  show wp (if (0 : Int) = 0 then _ else _) Q
  rw [if_pos rfl, wp_bd10]
  refine ht N W (tS T n q1) bp2 bs2 s2 v2 wt2 (L ++ l) _ hN hW z0.2.1 rfl a3 (by rw [List.length_append]; omega) (fun bp3 bs3 s3 v3 k3 g1 => ?_)
  unfold iM_statement_b279
  rw [wp_gd, wp_bd3]
  refine ⟨jb_iff.mpr (by omega), ?_⟩
  show wp (iM_asksSign N 59 q3 0 bp3 n T) _
  unfold iM_asksSign
  rw [if_pos rfl, wp_bd2]
  refine w_sign hN hn u1 u2 (by decide) (fun w => absurd w h59) (fun _ => ?_)
  show wp (if (0 : Int) = 0 then _ else _) _
  rw [if_pos rfl, wp_bd2]
  unfold iM_fail
  rw [if_pos rfl, wp_some, wp_some]
  show wp (gd (jr (mn 0 + 1)) _) Q
  rw [wp_gd, wp_some]
  exact ⟨jr_iff.mpr (by rw [hmn]; omega), hQ (by decide) _ _ _ _ _ _ _ _ _ _ _ _ _ _ _ _ (cod_t g1 (by rw [List.length_append, List.length_append]; omega)) a4.k a5.k (kpt_1 _ _ _) a6.k a7.k (kpt_1 _ _ _) (kpt_1 _ _ _) (kpt_1 _ _ _)⟩
theorem rq_ok [Inhabited Frm] {n : Nat} {T : Nat → Int} {q q1 q3 : Nat} {e e1 e3 kd bl f1 f2 : Int} {l t : List Int} (hn : n ≤ 600) (h : RDok T n q e q1 e1 kd bl f1 f2 l) (hp : plc T n q q1 e1 l) (h15 : tW T n 15 q1 e1) (ht : RTok T n (tSk T n (tS T n q1)) (tS T n q1 : Nat) q3 e3 t) (hp3 : plc T n (tSk T n (tS T n q1)) q3 e3 t) (h59 : tM T n q3 59) : RQok T n q e (tSk T n (q3 + 1)) e3 kd bl f1 f2 l t := by
  intro N W x i bp bs s o w v fi ib mn se so sE sF tE wt L Q hN hW hx hxq hmn hi hv hL hQ
  obtain ⟨p1, p2, p3, p4⟩ := hp
  obtain ⟨u1, u2, u3, u4⟩ := hp3
  have ll : l.length ≤ (trl l).length := trl_len l
  have lt : t.length ≤ (trl t).length := trl_len t
  have z0 := tS_le (T := T) (n := n) (q := q1) p1
  have z1 : tS T n q1 ≤ tSk T n (tS T n q1) := lR_ge
  refine h N W x i bp bs s o w v fi ib mn se so sE sF tE wt L _ hN hW hx hxq hmn hi hv hL (fun x2 bp2 bs2 s2 v2 fi2 ib2 se2 so2 wt2 a1 a2 a3 a4 a5 a6 a7 => ?_)
  unfold B250 iM_statement_b250 iM_asks
  rw [wp_gd, wp_bd4, if_pos rfl, wp_bd3]
  refine ⟨jb_iff.mpr (by omega), ?_⟩
  refine w_takes hN hn a1 (wdk hW (a := 15) (by decide) rfl) (fun _ => ?_) (fun w => absurd h15 (by rw [a2] at w; exact w))
  rw [a2]
  show wp (if (1 : Int) = 0 then _ else _) _
  rw [if_neg (by decide), wp_some]
  show wp (if (0 : Int) = 0 then _ else _) Q
  rw [if_pos rfl, wp_bd10]
  refine ht N W (tS T n q1) bp2 bs2 s2 v2 wt2 (L ++ l) _ hN hW z0.2.1 rfl a3 (by rw [List.length_append]; omega) (fun bp3 bs3 s3 v3 k3 g1 => ?_)
  have c1 := cod_l hv
  have c2 := cod_l a3
  have c3 := cod_l g1
  rw [List.length_append] at c2
  rw [List.length_append, List.length_append] at c3
  unfold iM_statement_b279
  rw [wp_gd, wp_bd3]
  refine ⟨jb_iff.mpr (by omega), ?_⟩
  show wp (iM_asksSign N 59 q3 0 bp3 n T) _
  unfold iM_asksSign
  rw [if_pos rfl, wp_bd2]
  refine w_sign hN hn u1 u2 (by decide) (fun _ => ?_) (fun w => absurd h59 w)
  show wp (if (1 : Int) = 0 then _ else _) _
  rw [if_neg (by decide), wp_some]
  show wp (gd (jr (mn 0 + 1)) _) Q
  rw [wp_gd, wp_some]
  refine ⟨jr_iff.mpr (by rw [hmn]; omega), hQ (q3 + 1) bp3 bs3 s3 v3 fi2 ib2 _ se2 so2 _ _ _ k3 h59.1 rfl (by rw [← List.append_assoc]; exact g1) a4 a5 (by rw [hmn]; exact updI_1 _ _ _) a6 a7 ?_ (updI_1 _ _ _) ?_⟩
  · rw [show s + (l.length : Int) = s2 by omega]
    exact updI_1 _ _ _
  · rw [show s + (l.length : Int) + (t.length : Int) = s3 by omega]
    exact updI_1 _ _ _
theorem stat_both [Inhabited Frm] {N n : Nat} {T : Nat → Int} {q : Nat} {e : Int} (hN : 5000 ≤ N) (hn : n ≤ 600) (hTT : ∀ k, 0 ≤ T k ∧ T k ≤ 255) (hq : q ≤ n) (hqq : tSk T n q = q) (he : e ≤ (q : Int)) : (∃ (q2 : Nat) (e2 kd bl f1 f2 : Int) (l t : List Int), KSok N T n q e q2 e2 kd bl f1 f2 l t ∧ plc T n q q2 e2 (l ++ t) ∧ (trl (l ++ t)).length + q < q2 ∧ stOk kd bl f1 f2 l ∧ EvT t 36 ∧ RQok T n q e q2 e2 kd bl f1 f2 l t) ∨ ∃ kd p, KSbad N T n q e kd p ∧ RQbad T n q e kd p := by
  rcases duty_both (q := q) (e := e) hN hn hTT hq hqq he with ⟨q1, e1, kd, bl, f1, f2, l, r1, r2, r3, r4, r5⟩ | ⟨kd, p, r1, r2⟩
  · have r2' := r2
    obtain ⟨p1, p2, p3, p4⟩ := r2'
    have z0 := tS_le (T := T) (n := n) (q := q1) p1
    have z1 : tS T n q1 ≤ tSk T n (tS T n q1) := lR_ge
    have z2 : tSk T n (tS T n q1) ≤ n := lR_le z0.2.1
    have z3 : tSk T n (tSk T n (tS T n q1)) = tSk T n (tS T n q1) := lR_id
    by_cases h15 : tW T n 15 q1 e1
    · have z4 := z0.2.2 h15.1
      rcases test_both hn hTT (test_at (N := N) hN hn hTT z2 z3 (show ((tS T n q1 : Nat) : Int) ≤ _ by omega)) with ⟨q3, e3, t, s1, s2, s3, s4, s5⟩ | ⟨k, p, s1, s2⟩
      · have s2' := s2
        obtain ⟨u1, u2, u3, u4⟩ := s2'
        by_cases h59 : tM T n q3 59
        · have y1 : q3 + 1 ≤ tSk T n (q3 + 1) := lR_ge
          have y2 : tSk T n (q3 + 1) ≤ n := lR_le h59.1
          have y3 : tSk T n (tSk T n (q3 + 1)) = tSk T n (q3 + 1) := lR_id
          exact Or.inl ⟨_, e3, kd, bl, f1, f2, l, t, ks_ok hN hn r1 r2 h15 s1 s2 h59, ⟨y2, y3, by omega, by rw [trl_app, List.length_append]; omega⟩, by rw [trl_app, List.length_append]; omega, r4, s4, rq_ok hn r5 r2 h15 s5 s2 h59⟩
        · exact Or.inr ⟨1, q3, ks_b4 hN hn r1 r2 h15 s1 s2 h59, rq_b4 hn r5 r2 h15 s5 s2 h59⟩
      · exact Or.inr ⟨k, p, ks_b3 hN hn r1 r2 h15 s1, rq_b3 hn r5 r2 h15 s2⟩
    · exact Or.inr ⟨1, q1, ks_b2 hN hn r1 r2 h15, rq_b2 hn r5 r2 h15⟩
  · exact Or.inr ⟨kd, p, ks_b1 r1, rq_b1 r2⟩
