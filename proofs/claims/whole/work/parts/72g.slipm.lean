set_option maxHeartbeats 4000000
set_option maxRecDepth 100000
/-! slip: the reference -/
theorem w_isPayM {c : Nat} {ki te sh am vb gw : Nat → Int} {Wf : Nat → List St} {aK aN aS aT aV : Nat → Int} (hA : (mkA c ki te sh am vb Wf gw).ok) (hr : AWr (mkA c ki te sh am vb Wf gw) aK aN aS aT aV) {k : Nat} (h1 : 1 ≤ k) (h2 : k ≤ c) : iM_isPayment k aK = some (if ki k = 2 ∨ ki k = 3 then 1 else 0) := by
  have hc := hA.1
  change c ≤ 200 at hc
  have e := (hr k h1 h2).1
  change aK k = ki k at e
  have ek : (k : Int).toNat = k := rfl
  unfold iM_isPayment
  rw [gd, if_pos (jb_iff.mpr (by omega)), ek, e]
  by_cases k2 : ki k = 2
  · rw [if_pos k2, if_pos (Or.inl k2)]
  · rw [if_neg k2]
    by_cases k3 : ki k = 3
    · rw [if_pos k3, if_pos (Or.inr k3)]
    · rw [if_neg k3, if_neg (fun h => h.elim k2 k3)]
/-- what slip answers, and the moved term -/
def slP (A : AW) (K : Int) (s : Nat) (M : Int) (a : Nat) (r mt : Int) : Prop := ((roll s (wld A K (-1) (-1) 0 s) (a + 1)).d = M ∧ r = 0 ∧ mt = -1) ∨ ((roll s (wld A K (-1) (-1) 0 s) (a + 1)).d ≠ M ∧ ((r ≠ -1 ∧ firstL (Lo A K s M a) A.c r ∧ mt = -1) ∨ (firstL (Lo A K s M a) A.c (-1) ∧ firstM (Mo A K s M a) A.c r mt)))
theorem slP_u {A : AW} {K : Int} {s : Nat} {M : Int} {a : Nat} {r mt q nt : Int} (h : slP A K s M a r mt) (g : slP A K s M a q nt) : r = q ∧ mt = nt := by
  rcases h with ⟨h0, h1, h2⟩ | ⟨h0, h⟩
  · rcases g with ⟨g0, g1, g2⟩ | ⟨g0, g⟩
    · exact ⟨by rw [h1, g1], by rw [h2, g2]⟩
    · exact absurd h0 g0
  · rcases g with ⟨g0, g1, g2⟩ | ⟨g0, g⟩
    · exact absurd g0 h0
    · rcases h with ⟨h1, h2, h3⟩ | ⟨h1, h2⟩
      · rcases g with ⟨g1, g2, g3⟩ | ⟨g1, g2⟩
        · exact ⟨firstL_u h2 g2, by rw [h3, g3]⟩
        · exact absurd (firstL_u h2 g1) h1
      · rcases g with ⟨g1, g2, g3⟩ | ⟨g1, g2⟩
        · exact absurd (firstL_u g2 h1) g1
        · exact firstM_u h2 g2
theorem w_slipM {N : Nat} (hN : 5000 ≤ N) {c : Nat} {ki te sh am vb : Nat → Int} {Wf : Nat → List St} {D : DynI} {aw : Nat → Option Nat} {aK aN aS aT aV v fi ib mn se so sE sF tE pe : Nat → Int} (hC : AuC N c ki te sh am vb Wf D aw aK aN aS aT aV v fi ib mn se so sE sF tE pe) {g lo lim : Int} {P W S ma gw : Nat → Int} (ok : fOk g lo P W S) (hl : 0 ≤ lim ∧ lim ≤ 500) (h : cM g lo lim P W S ma gw) {ka M : Int} {s a : Nat} (hs : s < 8) (ha : a ≤ 39) {al md mf mb mk me mv mt nw pd pt pn pl sn wo : Int} {be co ft mm off pile : Nat → Int} {Q : R_iM_slip → Prop} (hQ : ∀ (r al md mf mb mk me mv mt nw pd pt pn pl sn wo : Int) (be co ft mm off pile : Nat → Int), slP (mkA c ki te sh am vb Wf gw) (if ka = -1 then (c : Int) else ka) s M a r me → Q (r, al, md, mf, mb, mk, me, mv, mt, nw, pd, pt, pn, pl, sn, wo, be, co, ft, mm, off, pile)) : wp (iM_slip N s a M c al ka md mf g mb mk lim lo me mv mt nw pd pt pn pl sn wo aK aN aS aT be v co P W S fi ft ib mn mm off pe pile se so sE sF tE aV) Q := by
  have hA := mkA_ok hC.1 ok h
  have hr := hC.2.2.1 gw
  have hc := hC.1.1
  unfold iM_slip
  rw [wp_bd1, w_M_isShire]
  refine ⟨fun _ => ?_, fun z => absurd (show (0 : Int) ≤ s ∧ (s : Int) < 8 by omega) z⟩
  rw [if_neg (by decide), wp_bd1, w_M_isTerm]
  refine ⟨fun _ => ?_, fun z => absurd (show (0 : Int) ≤ a ∧ (a : Int) < 40 by omega) z⟩
  rw [if_neg (by decide), wp_bd4]
  refine wp_mono (w_matches hN ok hl) (fun q ⟨_, q2⟩ => ?_)
  obtain ⟨be2, co2, ft2, mm2⟩ := q
  change mR lim (mF g lo P W S) mm2 at q2
  show wp (bd1 (iM_asNow c ka) _) Q
  rw [wp_bd1, w_asNow.1, wp_some, wp_bd3]
  generalize (if ka = -1 then (c : Int) else ka) = K at *
  unfold iM_tellsAsKnown
  rw [wp_some, wp_bd13]
  refine w_rollsK (K := K) (wo := -1) (mv := -1) (mt := mt) (s := s) hN hC ok h q2 ha (fun al2 d2 fa2 bl now paid pt2 pa2 pl sn off pile e1 e2 e3 e4 e5 e6 => ?_)
  rw [mt_roll] at e2
  show wp (if d2 = M then _ else _) Q
  rw [wp_ite]
  refine ⟨fun y => ?_, fun y => ?_⟩
  · rw [wp_some]
    exact hQ _ _ _ _ _ _ _ _ _ _ _ _ _ _ _ _ _ _ _ _ _ _ (Or.inl ⟨by rw [← e2]; exact y, rfl, rfl⟩)
  have d0 : (roll s (wld (mkA c ki te sh am vb Wf gw) K (-1) (-1) 0 s) (a + 1)).d ≠ M := by
    rw [← e2]
    exact y
  -- behind the acts left out
  have b113 : ∀ (al md mf mb nw pd pt pn pl sn wo : Int) (off pile : Nat → Int), (∀ j, 1 ≤ j → j ≤ c → ¬ Lo (mkA c ki te sh am vb Wf gw) K s M a j) → wp (iM_slip_b113 N s a M c ka g lim lo aK aN aS aT v P W S fi ib mn pe se so sE sF tE aV al md mf mb K (-1) (-1) mt nw pd pt pn pl sn wo be2 co2 ft2 mm2 off pile) Q := by
    intro al md mf mb nw pd pt pn pl sn wo off pile hno
    unfold iM_slip_b113 iM_slip_b121
    refine wp_zlp15 (fun (m : Nat) (x5 _ _ _ _ _ _ _ _ _ _ _ _ : Int) (_ _ : Nat → Int) => ∃ k : Nat, x5 = k ∧ 1 ≤ k ∧ k + m = c + 1 ∧ ∀ j t, 1 ≤ j → j < k → t < 40 → ¬ Mo (mkA c ki te sh am vb Wf gw) K s M a j t) ?_ N c 1 al md mf mb (-1) mt nw pd pt pn pl sn off pile (by omega) ⟨1, rfl, Nat.le_refl _, by omega, fun j t j1 j2 => by omega⟩
    intro self m x5 al md mf mb mv mt nw pd pt pn pl sn off pile ⟨k, k1, k2, k3, k4⟩ ih
    subst k1
    have ek : (k : Int).toNat = k := rfl
    unfold iM_slip_b121_F
    rw [wp_ite]
    refine ⟨fun z => ?_, fun z => ?_⟩
    · rw [wp_some]
      exact hQ _ _ _ _ _ _ _ _ _ _ _ _ _ _ _ _ _ _ _ _ _ _ (Or.inr ⟨d0, Or.inr ⟨Or.inl ⟨rfl, hno⟩, Or.inl ⟨rfl, rfl, fun j t j1 (j2 : j ≤ c) jt => k4 j t j1 (by omega) jt⟩⟩⟩)
    · have kc : k ≤ c := by omega
      have b225 : ∀ (al md mf mb mv mt nw pd pt pn pl sn : Int) (off pile : Nat → Int), (∀ t, t < 40 → ¬ Mo (mkA c ki te sh am vb Wf gw) K s M a k t) → wp (iM_slip_b225 N s a M c ka g lim lo aK aN aS aT v P W S fi ib mn pe se so sE sF tE aV self k al md mf mb K (-1) mv mt nw pd pt pn pl sn (-1) be2 co2 ft2 mm2 off pile) Q := fun al md mf mb mv mt nw pd pt pn pl sn off pile hk => by
        unfold iM_slip_b225
        rw [wp_gd]
        refine ⟨jr_iff.mpr (by omega), ih (m - 1) _ _ _ _ _ _ _ _ _ _ _ _ _ _ _ (by omega) ⟨k + 1, by omega, by omega, by omega, fun j t j1 j2 jt => ?_⟩⟩
        by_cases e : j = k
        · rw [e]
          exact hk t jt
        · exact k4 j t j1 (by omega) jt
      rw [wp_bd1, w_isPayM hA hr k2 kc, wp_some]
      by_cases c1 : ki k = 2 ∨ ki k = 3
      · rw [if_pos c1, if_neg (by decide), wp_bd1, w_isKnownM hA hr K (-1) k2 kc, wp_some]
        by_cases c2 : knw (mkA c ki te sh am vb Wf gw) K (-1) k
        · rw [if_pos c2, if_neg (by decide), wp_gd, wp_ite, ek]
          have eS : aS k = sh k := (hr k k2 kc).2.2.2.2 c1
          have eT : aT k = te k := (hr k k2 kc).2.2.2.1 (by show ki k ≠ 5; omega)
          refine ⟨jb_iff.mpr (by omega), fun c3 => ?_, fun c3 => ?_⟩
          · unfold iM_slip_b165
            refine wp_zlp15 (fun (m : Nat) (x6 _ _ _ _ _ _ _ _ _ _ _ _ : Int) (_ _ : Nat → Int) => ∃ t : Nat, x6 = t ∧ t + m = 40 ∧ ∀ u, u < t → ¬ Mo (mkA c ki te sh am vb Wf gw) K s M a k u) ?_ N 40 0 al md mf mb mv mt nw pd pt pn pl sn off pile (by omega) ⟨0, rfl, rfl, fun u hu => absurd hu (Nat.not_lt_zero u)⟩
            intro self6 m6 x6 al md mf mb mv mt nw pd pt pn pl sn off pile ⟨t, t1, t2, t3⟩ ih6
            subst t1
            unfold iM_slip_b165_F
            rw [wp_ite]
            refine ⟨fun z6 => ?_, fun z6 => ?_⟩
            · exact b225 _ _ _ _ _ _ _ _ _ _ _ _ _ _ (fun u hu => t3 u (by omega))
            · have step : ∀ (al md mf mb nw pd pt pn pl sn : Int) (off pile : Nat → Int), ¬ Mo (mkA c ki te sh am vb Wf gw) K s M a k t → wp (gd (jr ((t : Int) + 1)) (self6 ((t : Int) + 1) al md mf mb k t nw pd pt pn pl sn off pile)) Q := fun al md mf mb nw pd pt pn pl sn off pile hno => by
                rw [wp_gd]
                refine ⟨jr_iff.mpr (by omega), ih6 (m6 - 1) _ _ _ _ _ _ _ _ _ _ _ _ _ _ _ (by omega) ⟨t + 1, by omega, by omega, fun u hu => ?_⟩⟩
                by_cases e : u = t
                · rw [e]
                  exact hno
                · exact t3 u (by omega)
              rw [wp_gd, wp_ite, ek, eT]
              refine ⟨jb_iff.mpr (by omega), fun c4 => ?_, fun c4 => ?_⟩
              · exact step _ _ _ _ _ _ _ _ _ _ _ _ (fun q => q.2.2.2.1 c4)
              · rw [wp_bd13]
                refine w_rollsK (K := K) (wo := -1) (mv := k) (mt := t) (s := s) hN hC ok h q2 ha (fun al2 d3 fa2 bl now paid pt2 pa2 pl sn off pile e1 e3 e4 e5 e6 e7 => ?_)
                show wp (if d3 = M then _ else _) Q
                rw [wp_ite]
                refine ⟨fun y3 => ?_, fun y3 => ?_⟩
                · rw [wp_some]
                  refine hQ _ _ _ _ _ _ _ _ _ _ _ _ _ _ _ _ _ _ _ _ _ _ (Or.inr ⟨d0, Or.inr ⟨Or.inl ⟨rfl, hno⟩, Or.inr ⟨k, t, rfl, rfl, ⟨k2, kc⟩, by omega, ⟨c1, c2, ?_, c4, ?_⟩, fun j u j1 j2 ju => k4 j u j1 j2 ju, t3⟩⟩⟩)
                  · show sh k = s
                    rw [← eS]
                    exact c3
                  · rw [← e3]
                    exact y3
                · refine step _ _ _ _ _ _ _ _ _ _ _ _ (fun q => y3 ?_)
                  rw [e3]
                  exact q.2.2.2.2
          · exact b225 _ _ _ _ _ _ _ _ _ _ _ _ _ _ (fun u hu q => c3 (by rw [eS]; exact q.2.2.1))
        · rw [if_neg c2, if_pos rfl]
          exact b225 _ _ _ _ _ _ _ _ _ _ _ _ _ _ (fun u hu q => c2 q.2.1)
      · rw [if_neg c1, if_pos rfl]
        exact b225 _ _ _ _ _ _ _ _ _ _ _ _ _ _ (fun u hu q => c1 q.1)
  show wp (iM_slip_b50 N s a M c ka g lim lo aK aN aS aT v P W S fi ib mn pe se so sE sF tE aV K (-1) (-1) mt be2 co2 ft2 mm2 (fun v_allowed_k1 v_debt_k2 v_farms_k3 v_isBlanchedNow_k4 v_now_k5 v_paid_k6 v_paidTold_k7 v_pardoned_k8 v_piled_k9 v_shireNow_k10 v_without_k11 e46_ e47_ => iM_slip_b113 N s a M c ka g lim lo aK aN aS aT v P W S fi ib mn pe se so sE sF tE aV v_allowed_k1 v_debt_k2 v_farms_k3 v_isBlanchedNow_k4 K (-1) (-1) mt v_now_k5 v_paid_k6 v_paidTold_k7 v_pardoned_k8 v_piled_k9 v_shireNow_k10 v_without_k11 be2 co2 ft2 mm2 e46_ e47_) N 1 al2 d2 fa2 bl now paid pt2 pa2 pl sn (-1) off pile) Q
  unfold iM_slip_b50
  refine wp_zlp14 (fun (m : Nat) (x5 _ _ _ _ _ _ _ _ _ _ _ : Int) (_ _ : Nat → Int) => ∃ k : Nat, x5 = k ∧ 1 ≤ k ∧ k + m = c + 1 ∧ ∀ j, 1 ≤ j → j < k → ¬ Lo (mkA c ki te sh am vb Wf gw) K s M a j) ?_ N c 1 al2 d2 fa2 bl now paid pt2 pa2 pl sn (-1) off pile (by omega) ⟨1, rfl, Nat.le_refl _, by omega, fun j j1 j2 => by omega⟩
  intro self m x5 al md mf mb nw pd pt pn pl sn wo off pile ⟨k, k1, k2, k3, k4⟩ ih
  subst k1
  have ek : (k : Int).toNat = k := rfl
  unfold iM_slip_b50_F
  rw [wp_ite]
  refine ⟨fun z => ?_, fun z => ?_⟩
  · exact b113 _ _ _ _ _ _ _ _ _ _ _ _ _ (fun j j1 j2 => k4 j j1 (by omega))
  · have kc : k ≤ c := by omega
    have eK : aK k = ki k := (hr k k2 kc).1
    have step : ∀ (al md mf mb nw pd pt pn pl sn wo : Int) (off pile : Nat → Int), ¬ Lo (mkA c ki te sh am vb Wf gw) K s M a k → wp (gd (jr ((k : Int) + 1)) (self ((k : Int) + 1) al md mf mb nw pd pt pn pl sn wo off pile)) Q := fun al md mf mb nw pd pt pn pl sn wo off pile hno => by
      rw [wp_gd]
      refine ⟨jr_iff.mpr (by omega), ih (m - 1) _ _ _ _ _ _ _ _ _ _ _ _ _ _ (by omega) ⟨k + 1, by omega, by omega, by omega, fun j j1 j2 => ?_⟩⟩
      by_cases e : j = k
      · rw [e]
        exact hno
      · exact k4 j j1 (by omega)
    rw [wp_gd, wp_ite, ek, eK]
    refine ⟨jb_iff.mpr (by omega), fun c5 => ?_, fun c5 => ?_⟩
    · exact step _ _ _ _ _ _ _ _ _ _ _ _ _ (fun q => q.1 c5)
    · rw [wp_bd1, w_isKnownM hA hr K (-1) k2 kc, wp_some]
      by_cases c2 : knw (mkA c ki te sh am vb Wf gw) K (-1) k
      · rw [if_pos c2, if_neg (by decide), wp_bd13]
        refine w_rollsK (K := K) (wo := k) (mv := -1) (mt := mt) (s := s) hN hC ok h q2 ha (fun al2 d3 fa2 bl now paid pt2 pa2 pl sn off pile e1 e3 e4 e5 e6 e7 => ?_)
        have e8 : roll s (wld (mkA c ki te sh am vb Wf gw) K k (-1) mt s) (a + 1) = roll s (wld (mkA c ki te sh am vb Wf gw) K k (-1) 0 s) (a + 1) := roll_same (fun y _ => wld_mt y)
        rw [e8] at e3
        show wp (if d3 = M then _ else _) Q
        rw [wp_ite]
        refine ⟨fun y3 => ?_, fun y3 => ?_⟩
        · rw [wp_some]
          exact hQ _ _ _ _ _ _ _ _ _ _ _ _ _ _ _ _ _ _ _ _ _ _ (Or.inr ⟨d0, Or.inl ⟨by omega, Or.inr ⟨k, rfl, ⟨k2, kc⟩, ⟨c5, c2, by rw [← e3]; exact y3⟩, k4⟩, rfl⟩⟩)
        · refine step _ _ _ _ _ _ _ _ _ _ _ _ _ (fun q => y3 ?_)
          rw [e3]
          exact q.2.2
      · rw [if_neg c2, if_pos rfl]
        exact step _ _ _ _ _ _ _ _ _ _ _ _ _ (fun q => c2 q.2.1)
