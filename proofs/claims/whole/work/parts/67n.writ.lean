set_option maxHeartbeats 4000000
set_option maxRecDepth 100000
/-! writ -/
def wsOk (V : List St) : Prop := V.length ≤ 24 ∧ (trl (cat V)).length ≤ 600 ∧ ∀ w, w ∈ V → wOk w
/-- the writs of both sides: Wf k are the statements of act k -/
def IW (c : Nat) (ki : Nat → Int) (wr : Nat → Option Nat) (D : DynI) (v fi ib mn se so sE sF tE : Nat → Int) (Wf : Nat → List St) : Prop := ∀ k, 1 ≤ k → k ≤ c → ki k = 1 → (∃ w, wr k = some w ∧ KWr D w (Wf k)) ∧ RWr k v fi ib mn se so sE sF tE (Wf k) ∧ wsOk (Wf k)
theorem RWr.keep {a : Nat} {v fi ib mn se so sE sF tE v2 fi2 ib2 mn2 se2 so2 sE2 sF2 tE2 : Nat → Int} {V : List St} (h : RWr a v fi ib mn se so sE sF tE V) (hV : V.length ≤ 24) (hl : (cat V).length ≤ 640) (hm : mn2 a = mn a) (hv : ∀ j, j < 640 → v2 (640 * a + j) = v (640 * a + j)) (hk : ∀ j, j < 24 → fi2 (24 * a + j) = fi (24 * a + j) ∧ ib2 (24 * a + j) = ib (24 * a + j) ∧ se2 (24 * a + j) = se (24 * a + j) ∧ so2 (24 * a + j) = so (24 * a + j) ∧ sE2 (24 * a + j) = sE (24 * a + j) ∧ sF2 (24 * a + j) = sF (24 * a + j) ∧ tE2 (24 * a + j) = tE (24 * a + j)) : RWr a v2 fi2 ib2 mn2 se2 so2 sE2 sF2 tE2 V := by
  obtain ⟨h1, h2, h3⟩ := h
  refine ⟨h1.up (fun j hj => (hk j (by omega)).1) (fun j hj => (hk j (by omega)).2.1) (fun j hj => (hk j (by omega)).2.2.1) (fun j hj => (hk j (by omega)).2.2.2.1) (fun j hj => (hk j (by omega)).2.2.2.2.1) (fun j hj => (hk j (by omega)).2.2.2.2.2.1) (fun j hj => (hk j (by omega)).2.2.2.2.2.2), by rw [hm]; exact h2, fun j hj => by rw [hv j (by omega)]; exact h3 j hj⟩
/-- what was read, failing or not, leaves the acts' writs -/
theorem IW.read {c : Nat} {ki : Nat → Int} {wr : Nat → Option Nat} {D E : DynI} {v fi ib mn se so sE sF tE v2 fi2 ib2 mn2 se2 so2 sE2 sF2 tE2 : Nat → Int} {Wf : Nat → List St} (h : IW c ki wr D v fi ib mn se so sE sF tE Wf) (x : DExt D E) (hv : ∀ j, 640 ≤ j → v2 j = v j) (h1 : k24 fi fi2) (h2 : k24 ib ib2) (hm : kpt mn mn2 0) (h3 : k24 se se2) (h4 : k24 so so2) (h5 : k24 sE sE2) (h6 : k24 sF sF2) (h7 : k24 tE tE2) : IW c ki wr E v2 fi2 ib2 mn2 se2 so2 sE2 sF2 tE2 Wf := by
  intro k k1 k2 k3
  obtain ⟨⟨w, a, b⟩, d, e1, e2, e3⟩ := h k k1 k2 k3
  have ll := trl_len (cat (Wf k))
  exact ⟨⟨w, a, b.ext x⟩, d.keep e1 (by omega) (hm k (by omega)) (fun j hj => hv _ (by omega)) (fun j hj => ⟨h1 _ (by omega), h2 _ (by omega), h3 _ (by omega), h4 _ (by omega), h5 _ (by omega), h6 _ (by omega), h7 _ (by omega)⟩), e1, e2, e3⟩
def RWt (N : Nat) (W : Nat → Nat → Int) (T : Nat → Int) (a1 c at_ bd bp bs s en e f fp o le w : Int) (aK aN aS aT aV v fi ib mn se so sE sF tE wt : Nat → Int) : Option R_iM_writ := iM_writ N a1 c at_ bd bp bs s en e f fp o le w aK aN aS aT (W 17) (W 11) (W 19) (W 10) v (W 8) (W 0) fi (W 15) (W 13) ib mn (W 5) (W 4) (W 16) (W 20) (W 9) (W 12) (W 3) (W 1) se (W 2) (W 18) so (W 14) sE sF T (W 6) tE aV wt (W 7)
theorem bl_ok {V : List St} {ib : Nat → Int} (hw : ∀ w, w ∈ V → wOk w) {fi se so sE sF tE : Nat → Int} (hr : RStm 0 fi ib se so sE sF tE V) : ∀ j, j < V.length → ib j = 0 ∨ ib j = 1 := by
  intro j hj
  obtain ⟨A, w, B, e, l⟩ := split_at V j hj
  have h := (hr A w B e).2.1
  rw [Nat.zero_add, l] at h
  have hm : w ∈ V := by
    rw [e]
    exact List.mem_append_right _ (List.mem_cons_self ..)
  rw [h]
  rcases (hw w hm).1 with g | g | g | g
  · exact g.2.1
  · exact Or.inl g.2.1
  · exact Or.inl g.2.1
  · exact Or.inl g.2.1
theorem ag_writ {N n c : Nat} {T : Nat → Int} {W : Nat → Nat → Int} (hN : 5000 ≤ N) (hn : n ≤ 600) (hT : ∀ k, 0 ≤ T k ∧ T k ≤ 255) (hW : ∀ a, a < 21 → ∀ i, i < kS_len a → W a i = jch a i) {a1 pay : Int} {D : DynI} {am ki sh te vb aK aN aS aT aV : Nat → Int} {wr : Nat → Option Nat} {at1 cn1 f1 fa1 kd1 o1 s1 st1 : Int} {v1 : Nat → Int} {stm1 : Nat → Option Nat} {at_ bd bp bs s en e f fp o w : Int} {v fi ib mn se so sE sF tE wt : Nat → Int} {Wf : Nat → List St} (hA : IA c pay am ki sh te vb aK aN aS aT aV) (hI : IW c ki wr D v fi ib mn se so sE sF tE Wf) {P : R_iK_writ → R_iM_writ → Prop}
    (h1 : P (-2, D, (c : Int), am, ki, sh, te, wr, at1, cn1, f1, fa1, kd1, 0, o1, s1, st1, v1, stm1) (-2, (c : Int), at_, bd, bp, bs, s, en, e, f, fp, o, 0, w, aK, aN, aS, aT, v, fi, ib, mn, se, so, sE, sF, tE, aV, wt))
    (h2 : ∀ (E : DynI) (k p at2 cn2 kd2 o2 s2 st2 : Int) (v2 : Nat → Int) (stm2 : Nat → Option Nat) (at3 bs3 s3 e3 o3 w3 : Int) (v3 fi3 ib3 mn3 se3 so3 sE3 sF3 tE3 wt3 : Nat → Int), DExt D E → E.1 ≤ D.1 + 24 → IW c ki wr E v3 fi3 ib3 mn3 se3 so3 sE3 sF3 tE3 Wf → P (-1, E, (c : Int), am, ki, sh, te, wr, at2, cn2, k, p, kd2, 0, o2, s2, st2, v2, stm2) (-1, (c : Int), at3, k, p, bs3, s3, (n : Int), e3, k, p, o3, 0, w3, aK, aN, aS, aT, v3, fi3, ib3, mn3, se3, so3, sE3, sF3, tE3, aV, wt3))
    (h3 : ∀ (E : DynI) (V : List St) (wn : Nat) (at2 cn2 kd2 o2 s2 st2 : Int) (v2 : Nat → Int) (stm2 : Nat → Option Nat) (at3 bs3 s3 e3 o3 w3 : Int) (v3 fi3 ib3 mn3 se3 so3 sE3 sF3 tE3 wt3 : Nat → Int), 0 ≤ a1 ∧ a1 < 40 → c < 200 → DExt D E → E.1 ≤ D.1 + 27 → IA (c + 1) pay (va_up am (c + 1) 0) (va_up ki (c + 1) 1) (va_up sh (c + 1) (-1)) (va_up te (c + 1) a1) vb (va_up aK (c + 1) 1) (va_up aN (c + 1) 0) (va_up aS (c + 1) 0) (va_up aT (c + 1) a1) (va_up aV (c + 1) 0) → IW (c + 1) (va_up ki (c + 1) 1) (va_up wr (c + 1) (some wn)) E v3 fi3 ib3 mn3 se3 so3 sE3 sF3 tE3 (va_up Wf (c + 1) V) → P (((c + 1 : Nat) : Int), E, ((c + 1 : Nat) : Int), va_up am (c + 1) 0, va_up ki (c + 1) 1, va_up sh (c + 1) (-1), va_up te (c + 1) a1, va_up wr (c + 1) (some wn), at2, cn2, 0, -1, kd2, 0, o2, s2, st2, v2, stm2) (((c + 1 : Nat) : Int), ((c + 1 : Nat) : Int), at3, 0, -1, bs3, s3, (n : Int), e3, 0, -1, o3, 0, w3, va_up aK (c + 1) 1, va_up aN (c + 1) 0, va_up aS (c + 1) 0, va_up aT (c + 1) a1, v3, fi3, ib3, mn3, se3, so3, sE3, sF3, tE3, va_up aV (c + 1) 0, wt3)) :
    wp (iK_writ N a1 D c am ki sh te wr at1 cn1 f1 fa1 kd1 n o1 s1 st1 v1 stm1 T) (fun r => wp (RWt N W T a1 c at_ bd bp bs s en e f fp o n w aK aN aS aT aV v fi ib mn se so sE sF tE wt) (fun q => P r q)) := by
  have hA2 := hA
  obtain ⟨g1, g2, g3, g4, g5⟩ := hA
  unfold iK_writ iActs_isFull
  rw [wp_bd1, w_isTerm]
  refine ⟨fun x => ?_, fun x => ?_⟩
  · rw [if_neg (by decide), wp_bd1, wp_ite]
    refine ⟨fun y => ?_, fun y => ?_⟩
    · rw [wp_some, if_pos rfl, wp_bd13]
      have mpre : ∀ Q : R_iM_writ → Prop, wp (RRd N W T at_ bd bp bs s en e f fp o n w v fi ib mn se so sE sF tE wt) (fun r => wp (if r.1 = 0 then some ((-1 : Int), (c : Int), r.2.1, r.2.2.1, r.2.2.2.1, r.2.2.2.2.1, r.2.2.2.2.2.1, r.2.2.2.2.2.2.1, r.2.2.2.2.2.2.2.1, r.2.2.2.2.2.2.2.2.1, r.2.2.2.2.2.2.2.2.2.1, r.2.2.2.2.2.2.2.2.2.2.1, r.2.2.2.2.2.2.2.2.2.2.2.1, r.2.2.2.2.2.2.2.2.2.2.2.2.1, aK, aN, aS, aT, r.2.2.2.2.2.2.2.2.2.2.2.2.2.1, r.2.2.2.2.2.2.2.2.2.2.2.2.2.2.1, r.2.2.2.2.2.2.2.2.2.2.2.2.2.2.2.1, r.2.2.2.2.2.2.2.2.2.2.2.2.2.2.2.2.1, r.2.2.2.2.2.2.2.2.2.2.2.2.2.2.2.2.2.1, r.2.2.2.2.2.2.2.2.2.2.2.2.2.2.2.2.2.2.1, r.2.2.2.2.2.2.2.2.2.2.2.2.2.2.2.2.2.2.2.1, r.2.2.2.2.2.2.2.2.2.2.2.2.2.2.2.2.2.2.2.2.1, r.2.2.2.2.2.2.2.2.2.2.2.2.2.2.2.2.2.2.2.2.2.1, aV, r.2.2.2.2.2.2.2.2.2.2.2.2.2.2.2.2.2.2.2.2.2.2) else bd7 (iM_act 1 0 a1 0 c aK aN aS aT aV) fun rc3 c3 K3 N3 S3 T3 V3 => bd9 (iM_copies N rc3 r.2.2.2.2.2.1 r.2.2.2.2.2.2.2.2.2.2.2.2.2.1 r.2.2.2.2.2.2.2.2.2.2.2.2.2.2.1 r.2.2.2.2.2.2.2.2.2.2.2.2.2.2.2.1 r.2.2.2.2.2.2.2.2.2.2.2.2.2.2.2.2.1 r.2.2.2.2.2.2.2.2.2.2.2.2.2.2.2.2.2.1 r.2.2.2.2.2.2.2.2.2.2.2.2.2.2.2.2.2.2.1 r.2.2.2.2.2.2.2.2.2.2.2.2.2.2.2.2.2.2.2.1 r.2.2.2.2.2.2.2.2.2.2.2.2.2.2.2.2.2.2.2.2.1 r.2.2.2.2.2.2.2.2.2.2.2.2.2.2.2.2.2.2.2.2.2.1) fun v4 fi4 ib4 mn4 se4 so4 sE4 sF4 tE4 => some (rc3, c3, r.2.1, r.2.2.1, r.2.2.2.1, r.2.2.2.2.1, r.2.2.2.2.2.1, r.2.2.2.2.2.2.1, r.2.2.2.2.2.2.2.1, r.2.2.2.2.2.2.2.2.1, r.2.2.2.2.2.2.2.2.2.1, r.2.2.2.2.2.2.2.2.2.2.1, r.2.2.2.2.2.2.2.2.2.2.2.1, r.2.2.2.2.2.2.2.2.2.2.2.2.1, K3, N3, S3, T3, v4, fi4, ib4, mn4, se4, so4, sE4, sF4, tE4, V3, r.2.2.2.2.2.2.2.2.2.2.2.2.2.2.2.2.2.2.2.2.2.2)) Q) → wp (RWt N W T a1 c at_ bd bp bs s en e f fp o n w aK aN aS aT aV v fi ib mn se so sE sF tE wt) Q := by
        intro Q h
        unfold RWt iM_writ
        rw [wp_bd1, w_M_isTerm]
        refine ⟨fun _ => ?_, fun z => absurd x z⟩
        rw [if_neg (by decide), if_neg (by omega), wp_bd23]
        exact h
      rcases read_both hN hn hT v with ⟨V, r1, r2, r3, r4, r5⟩ | ⟨k, p, r1, r2⟩
      · refine r1 D at1 cn1 f1 fa1 kd1 o1 s1 st1 v1 stm1 _ (fun E a2 s2 st2 v2 stm2 e1 e2 e3 e4 => ?_)
        show wp (opn (some (D.1 + V.length)) _ _) _
        rw [wp_opn]
        refine ⟨fun z => (by cases z), fun y5 z => ?_⟩
        cases z
        unfold iActs_addWrit
        rw [wp_bd7, wp_bd6, w_add_acts g1, wp_some, if_pos (show c < 200 by omega)]
        have nm : ¬ ((c + 1 : Nat) : Int) = -1 := by omega
        rw [if_neg nm, wp_gd, wp_gd, wp_some, wp_some]
        refine ⟨decide_eq_true e3.1, jb_iff.mpr (by show _ ∧ ((c + 1 : Nat) : Int) < _; omega), ?_⟩
        refine mpre _ (r2 N W at_ bd bp bs s en e f fp o w fi ib mn se so sE sF tE wt _ hN hW (fun a b3 e5 o3 w3 v3 fi3 ib3 mn3 se3 so3 sE3 sF3 tE3 wt3 x1 x2 x3 x4 x5 x6 x7 x8 x9 y1 y2 y3 => ?_))
        show wp (if (1 : Int) = 0 then _ else _) _
        rw [if_neg (by decide), wp_bd7, w_act g1, wp_some, if_pos (show c < 200 by omega), wp_bd9]
        have ll := trl_len (cat V)
        refine w_copies hN (show 1 ≤ c + 1 ∧ c + 1 ≤ 200 by omega) r3 (by omega) x3 x4 (bl_ok r5 x3) x1 (fun v4 fi4 ib4 mn4 se4 so4 sE4 sF4 tE4 z1 z2 z3 z4 => ?_)
        rw [wp_some]
        have ec : ((c + 1 : Nat) : Int).toNat = c + 1 := rfl
        show P (((c + 1 : Nat) : Int), E, ((c + 1 : Nat) : Int), va_up am (c + 1) 0, va_up ki (c + 1) 1, va_up sh (c + 1) (-1), va_up te (c + 1) a1, va_up wr (c + 1) (some (D.1 + V.length)), a2, V.length, 0, -1, 0, 0, 0, s2, st2, v2, stm2) _
        refine h3 E V _ a2 V.length 0 0 s2 st2 v2 stm2 a b3 _ e5 o3 w3 v4 fi4 ib4 mn4 se4 so4 sE4 sF4 tE4 wt3 x (by omega) e1 (by omega) ?_ ?_
        · have ad := IA_add hA2 (show c < 200 by omega) (K := 1) (s := -1) (s2 := 0) (t := a1) (a := 0) (by omega) (by omega) (fun _ => rfl) (fun q => by omega) (fun q => by omega) (fun q => by omega) (fun q => by omega) (fun q => by omega)
          rw [if_neg (by omega), Int.add_zero] at ad
          exact ad
        · intro k k1 k2 k3
          by_cases kc : k = c + 1
          · subst kc
            rw [va_up_self Wf (c + 1) V]
            exact ⟨⟨_, va_up_self _ _ _, e3⟩, z1, r3, r4, r5⟩
          · rw [va_up_ne _ _ kc] at k3
            rw [va_up_ne _ _ kc, va_up_ne _ _ kc]
            have old := (hI.read e1 x2 x5 x6 x7 x8 x9 y1 y2 y3) k k1 (by omega) k3
            obtain ⟨o1, o2, o3, o4, o5⟩ := old
            have l2 := trl_len (cat (Wf k))
            exact ⟨o1, o2.keep o3 (by omega) (z2 k kc) (fun j hj => z3 _ (by omega)) (fun j hj => z4 _ (by omega)), o3, o4, o5⟩
      · refine r1 D at1 cn1 f1 fa1 kd1 o1 s1 st1 v1 stm1 _ (fun E a2 c2 kd2 o2 s2 st2 v2 stm2 e1 e2 => ?_)
        show wp (opn none _ _) _
        rw [wp_opn]
        refine ⟨fun _ => ?_, fun y5 z => by cases z⟩
        rw [wp_some]
        refine mpre _ (r2 N W at_ bd bp bs s en e f fp o w fi ib mn se so sE sF tE wt _ hN hW (fun a b3 s3 e5 o3 w3 v3 fi3 ib3 mn3 se3 so3 sE3 sF3 tE3 wt3 x2 x5 x6 x7 x8 x9 y1 y2 y3 => ?_))
        show wp (if (0 : Int) = 0 then _ else _) _
        rw [if_pos rfl, wp_some]
        exact h2 E k p a2 c2 kd2 o2 s2 st2 v2 stm2 a b3 s3 e5 o3 w3 v3 fi3 ib3 mn3 se3 so3 sE3 sF3 tE3 wt3 e1 e2 (hI.read e1 x2 x5 x6 x7 x8 x9 y1 y2 y3)
    · rw [wp_some, if_neg (by decide)]
      unfold iK_writ_b17 iReader_wipe
      rw [wp_bd1, wp_some, wp_some]
      unfold RWt iM_writ
      rw [wp_bd1, w_M_isTerm]
      refine ⟨fun _ => ?_, fun z => absurd x z⟩
      rw [if_neg (by decide), if_pos (by omega)]
      unfold iM_writ_b17
      rw [wp_some]
      exact h1
  · rw [if_pos rfl]
    unfold iK_writ_b17 iReader_wipe
    rw [wp_bd1, wp_some, wp_some]
    unfold RWt iM_writ
    rw [wp_bd1, w_M_isTerm]
    refine ⟨fun z => absurd z x, fun _ => ?_⟩
    rw [if_pos rfl]
    unfold iM_writ_b17
    rw [wp_some]
    exact h1
