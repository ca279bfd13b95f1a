set_option maxHeartbeats 4000000
set_option maxRecDepth 100000
/-! since -/
theorem w_sinceM {N : Nat} (hN : 5000 ≤ N) {c : Nat} {ki te sh am vb : Nat → Int} {Wf : Nat → List St} {D : DynI} {aw : Nat → Option Nat} {aK aN aS aT aV v fi ib mn se so sE sF tE pe : Nat → Int} (hC : AuC N c ki te sh am vb Wf D aw aK aN aS aT aV v fi ib mn se so sE sF tE pe) {g lo lim : Int} {P W S ma gw : Nat → Int} (ok : fOk g lo P W S) (hl : 0 ≤ lim ∧ lim ≤ 500) (h : cM g lo lim P W S ma gw) {s a : Nat} (hs : s < 8) (ha : a ≤ 39) {al md mf mb mk mv mt nw pd pt pn pl sn wo : Int} {be co ft mm off pile : Nat → Int} {Q : R_iM_since → Prop} (hQ : ∀ (r al md mf mb mk mv nw pd pt pn pl sn wo : Int) (be co ft mm off pile : Nat → Int), sinceR (dA (mkA c ki te sh am vb Wf gw) s a) c r → Q (r, al, md, mf, mb, mk, mv, nw, pd, pt, pn, pl, sn, wo, be, co, ft, mm, off, pile)) : wp (iM_since N s a c al md mf g mb mk lim lo mv mt nw pd pt pn pl sn wo aK aN aS aT be v co P W S fi ft ib mn mm off pe pile se so sE sF tE aV) Q := by
  have hA := mkA_ok hC.1 ok h
  have hc := hC.1.1
  unfold iM_since
  rw [wp_bd1, w_M_isShire]
  refine ⟨fun _ => ?_, fun z => absurd (show (0 : Int) ≤ s ∧ (s : Int) < 8 by omega) z⟩
  rw [if_neg (by decide), wp_bd1, w_M_isTerm]
  refine ⟨fun _ => ?_, fun z => absurd (show (0 : Int) ≤ a ∧ (a : Int) < 40 by omega) z⟩
  rw [if_neg (by decide), wp_bd4]
  refine wp_mono (w_matches hN ok hl) (fun q ⟨_, q2⟩ => ?_)
  obtain ⟨be2, co2, ft2, mm2⟩ := q
  change mR lim (mF g lo P W S) mm2 at q2
  rw [wp_bd3]
  unfold iM_tellsAsKnown
  rw [wp_some, wp_bd13]
  refine w_rollsK (K := c) (wo := -1) (mv := -1) (mt := mt) (s := s) hN hC ok h q2 ha (fun al2 d2 fa2 bl now paid pt2 pa2 pl sn off pile e1 e2 e3 e4 e5 e6 => ?_)
  rw [mt_roll] at e2
  change d2 = dA (mkA c ki te sh am vb Wf gw) s a c at e2
  show wp (iM_since_b44 N s a c g lim lo mt aK aN aS aT v P W S fi ib mn pe se so sE sF tE aV d2 be2 co2 ft2 mm2 N c 1 al2 d2 fa2 bl c (-1) now paid pt2 pa2 pl sn (-1) off pile) Q
  unfold iM_since_b44
  refine wp_zlp17 (fun (m : Nat) (x5 x6 _ _ _ _ _ _ _ _ _ _ _ _ _ : Int) (_ _ : Nat → Int) => ∃ k : Nat, x5 = k ∧ k ≤ c ∧ (m = k + 1 ∧ x6 = 1 ∧ (∀ j, k ≤ j → j ≤ c → dA (mkA c ki te sh am vb Wf gw) s a j = d2) ∨ m = k ∧ x6 = 0 ∧ 1 ≤ k ∧ dA (mkA c ki te sh am vb Wf gw) s a (k - 1) ≠ d2 ∧ ∀ j, k ≤ j → j ≤ c → dA (mkA c ki te sh am vb Wf gw) s a j = d2)) ?_ N (c + 1) c 1 al2 d2 fa2 bl c (-1) now paid pt2 pa2 pl sn (-1) off pile (by omega) ⟨c, rfl, Nat.le_refl _, Or.inl ⟨rfl, rfl, fun j h1 h2 => ?_⟩⟩
  · intro self m x5 x6 al md mf mb mk mv nw pd pt pn pl sn wo off pile ⟨k, k1, k2, k3⟩ ih
    subst k1
    unfold iM_since_b44_F
    rcases k3 with ⟨m1, m2, m3⟩ | ⟨m1, m2, m3, m4, m5⟩
    · subst m2
      rw [if_neg (by decide), wp_ite]
      refine ⟨fun z => ?_, fun z => ?_⟩
      · have k0 : k = 0 := by omega
        subst k0
        rw [wp_some]
        refine hQ _ _ _ _ _ _ _ _ _ _ _ _ _ _ _ _ _ _ _ _ (Or.inl ⟨rfl, fun j hj => ?_⟩)
        rw [m3 j (Nat.zero_le _) hj, m3 c (Nat.zero_le _) (Nat.le_refl _)]
      · obtain ⟨i, rfl⟩ : ∃ i, k = i + 1 := ⟨k - 1, by omega⟩
        have ei : ((i + 1 : Nat) : Int) - 1 = i := by omega
        rw [wp_gd, ei, wp_bd3]
        refine ⟨jr_iff.mpr (by omega), ?_⟩
        unfold iM_tellsAsKnown
        rw [wp_some, wp_bd13]
        refine w_rollsK (K := i) (wo := -1) (mv := -1) (mt := mt) (s := s) hN hC ok h q2 ha (fun al2 d3 fa2 bl now paid pt2 pa2 pl sn off pile e1 e3 e4 e5 e6 e7 => ?_)
        rw [mt_roll] at e3
        change d3 = dA (mkA c ki te sh am vb Wf gw) s a i at e3
        show wp (if d3 = d2 then _ else _) Q
        unfold iM_since_b78
        rw [wp_ite]
        refine ⟨fun y => ?_, fun y => ?_⟩
        · have e9 : ((i + 1 : Nat) : Int) + (-1) = i := by omega
          rw [if_neg (by decide), wp_gd, e9]
          refine ⟨jr_iff.mpr (by omega), ih (i + 1) _ _ _ _ _ _ _ _ _ _ _ _ _ _ _ _ _ (by omega) ⟨i, rfl, by omega, Or.inl ⟨rfl, rfl, fun j j1 j2 => ?_⟩⟩⟩
          by_cases ej : j = i
          · rw [ej, ← e3, y]
          · exact m3 j (by omega) j2
        · rw [if_pos rfl]
          refine ih (i + 1) _ _ _ _ _ _ _ _ _ _ _ _ _ _ _ _ _ (by omega) ⟨i + 1, rfl, k2, Or.inr ⟨rfl, rfl, by omega, ?_, m3⟩⟩
          show dA (mkA c ki te sh am vb Wf gw) s a i ≠ d2
          rw [← e3]
          exact y
    · subst m2
      obtain ⟨i, rfl⟩ : ∃ i, k = i + 1 := ⟨k - 1, by omega⟩
      rw [if_pos rfl, wp_some]
      refine hQ _ _ _ _ _ _ _ _ _ _ _ _ _ _ _ _ _ _ _ _ (Or.inr ⟨i, rfl, k2, ?_, fun j j1 j2 => ?_⟩)
      · rw [m5 c k2 (Nat.le_refl _)]
        exact m4
      · rw [m5 j (by omega) j2, m5 c k2 (Nat.le_refl _)]
  · have : j = c := by omega
    rw [this, ← e2]
theorem ag_since {N : Nat} (hN : 5000 ≤ N) {c : Nat} {ki te sh am vb : Nat → Int} {Wf : Nat → List St} {D : DynI} {aw : Nat → Option Nat} {aK aN aS aT aV v fi' ib mn se so sE sF tE pe : Nat → Int} (hC : AuC N c ki te sh am vb Wf D aw aK aN aS aT aV v fi' ib mn se so sE sF tE pe) {n g lo lim ch isM : Int} {P W S ab fi gw cf cp ga re ma ro rq rw_ : Nat → Int} {C : Nat → Nat → Int} (hH : IH n g lo lim ch isM P W S fi gw ma) {cA kA : Int} {kfi kfp knx kwr rsh rto : Nat → Int} {ral rde rfa rpa rpu rpy : Nat → Nat → Int} (hAu : AuI (mkA c ki te sh am vb Wf gw) ch isM cA kA kfi kfp knx kwr rsh rto ral rde rfa rpa rpu rpy) {a1 a2 jd jp js jt tbl td tp tsh tto : Int} {jst ofi ofp onx owr rbl rd rp tal tde tfa tpa tpy tpu : Nat → Int} {al md mf mb mk mv mt nw pd pt pn pl sn wo : Int} {be co ft mm off pile : Nat → Int} {Pp : R_iK_since → R_iM_since → Prop} (hQ : ∀ (r cA jd jp js jt kA : Int) (jst kfi kfp knx kwr ofi ofp onx owr rbl rd rp rsh rto : Nat → Int) (ral rde rfa rpa rpy rpu : Nat → Nat → Int) (tbl td tp tsh tto : Int) (tal tde tfa tpa tpy tpu : Nat → Int) (isM : Int) (ab fi gw cf cp : Nat → Int) (C : Nat → Nat → Int) (ga re ma ro rq rw_ : Nat → Int) (al md mf mb mk mv nw pd pt pn pl sn wo : Int) (be co ft mm off pile : Nat → Int), IH n g lo lim ch isM P W S fi gw ma → AuI (mkA c ki te sh am vb Wf gw) ch isM cA kA kfi kfp knx kwr rsh rto ral rde rfa rpa rpu rpy → Pp (r, cA, kA, jd, jp, js, jt, jst, kfi, kfp, knx, kwr, ofi, ofp, onx, owr, rbl, rd, rp, rsh, rto, ral, rde, rfa, rpa, rpy, rpu, tbl, td, tp, tsh, tto, tal, tde, tfa, tpa, tpy, tpu, isM, ab, fi, gw, cf, cp, C, ga, re, ma, ro, rq, rw_) (r, al, md, mf, mb, mk, mv, nw, pd, pt, pn, pl, sn, wo, be, co, ft, mm, off, pile)) : wp (iK_since N a1 a2 D c am ki sh te vb aw cA kA jd jp js jt jst kfi kfp knx kwr ofi ofp onx owr rbl rd rp rsh rto ral rde rfa rpa rpy rpu tbl td tp tsh tto tal tde tfa tpa tpy tpu ch g isM lim lo ab fi gw cf cp C ga re ma ro rq P rw_ S W) (fun r => wp (iM_since N a1 a2 c al md mf g mb mk lim lo mv mt nw pd pt pn pl sn wo aK aN aS aT be v co P W S fi' ft ib mn mm off pe pile se so sE sF tE aV) (Pp r)) := by
  have h1 := hH.1
  have h2 := hH.2.1
  unfold iK_since
  rw [wp_bd1, w_isShire]
  refine ⟨fun hs => ?_, fun hs => ?_⟩
  · obtain ⟨s, rfl⟩ : ∃ s : Nat, a1 = s := ⟨a1.toNat, by omega⟩
    rw [if_neg (by decide), wp_bd1, w_isTerm]
    refine ⟨fun ha => ?_, fun ha => ?_⟩
    · obtain ⟨a, rfl⟩ : ∃ a : Nat, a2 = a := ⟨a2.toNat, by omega⟩
      unfold iActs_size
      rw [if_neg (by decide), wp_bd1, wp_some, wp_bd36]
      have kb : (0 : Int) ≤ (c : Int) ∧ (c : Int) ≤ c := by omega
      refine w_rollOf hN hC.1 hH kb hAu hC.2.1 (show s < 8 by omega) (show a ≤ 39 by omega) (fun ab2 fi2 gw2 cf2 cp2 C2 ga2 re2 ma2 ro2 rp2 rw2 jd2 jp2 js2 jt2 jst2 kfi2 kfp2 knx2 kwr2 rbl2 rd2 rpp2 rsh2 rto2 ral2 rde2 rfa2 rpa2 rpy2 rpu2 p1 p2 p3 => ?_)
      obtain ⟨i1, i2, i3, i4⟩ := p1
      obtain ⟨t, t1, t2, t3, t4, t5⟩ := p2
      have es : (s : Int).toNat = s := rfl
      show wp (gd (jb s 8) _) _
      rw [wp_gd, wp_bd21, es]
      refine ⟨jb_iff.mpr (by omega), ?_⟩
      show wp (iAudit_sameSince N a (rsh2 s) (rto2 s) (ral2 s) (rde2 s) (rfa2 s) (rpa2 s) (rpy2 s) (rpu2 s) (mkA c ki te sh am vb Wf gw2).c (mkA c ki te sh am vb Wf gw2).am (mkA c ki te sh am vb Wf gw2).ki (mkA c ki te sh am vb Wf gw2).sh (mkA c ki te sh am vb Wf gw2).te (mkA c ki te sh am vb Wf gw2).vb aw gw2 D c jd2 jp2 js2 jt2 jst2 ofi ofp onx owr tbl td tp tsh tto tal tde tfa tpa tpy tpu) _
      rw [p3, t1]
      refine w_sameS hN (show a ≤ 39 by omega) ⟨i3, fun _ _ => rfl, hC.2.1 gw2⟩ (Kt := c) (Nat.le_refl c) t4 t2 t3 (fun r hr jd3 jp3 js3 jt3 jst3 fi3 fp3 nx3 wr3 bl3 db3 pd3 sh3 to3 al3 de3 fa3 pa3 py3 pu3 => ?_)
      rw [wp_some]
      refine w_sinceM hN hC h1 h2 i2 (show s < 8 by omega) (show a ≤ 39 by omega) (fun q al md mf mb mk mv nw pd pt pn pl sn wo be co ft mm off pile hq => ?_)
      have e : q = r := sinceR_u hq hr
      subst e
      exact hQ _ _ _ _ _ _ _ _ _ _ _ _ _ _ _ _ _ _ _ _ _ _ _ _ _ _ _ _ _ _ _ _ _ _ _ _ _ _ _ _ _ _ _ _ _ _ _ _ _ _ _ _ _ _ _ _ _ _ _ _ _ _ _ _ _ _ _ _ _ _ i1 ⟨Int.le_refl _, fun _ => ⟨rfl, kb, i4⟩⟩
    · rw [if_pos rfl, wp_some]
      unfold iM_since
      rw [wp_bd1, w_M_isShire]
      refine ⟨fun _ => ?_, fun z => absurd (show (0 : Int) ≤ s ∧ (s : Int) < 8 by omega) z⟩
      rw [if_neg (by decide), wp_bd1, w_M_isTerm]
      refine ⟨fun z => absurd z ha, fun _ => ?_⟩
      rw [if_pos rfl, wp_some]
      exact hQ _ _ _ _ _ _ _ _ _ _ _ _ _ _ _ _ _ _ _ _ _ _ _ _ _ _ _ _ _ _ _ _ _ _ _ _ _ _ _ _ _ _ _ _ _ _ _ _ _ _ _ _ _ _ _ _ _ _ _ _ _ _ _ _ _ _ _ _ _ _ hH hAu
  · rw [if_pos rfl, wp_some]
    unfold iM_since
    rw [wp_bd1, w_M_isShire]
    refine ⟨fun z => absurd z hs, fun _ => ?_⟩
    rw [if_pos rfl, wp_some]
    exact hQ _ _ _ _ _ _ _ _ _ _ _ _ _ _ _ _ _ _ _ _ _ _ _ _ _ _ _ _ _ _ _ _ _ _ _ _ _ _ _ _ _ _ _ _ _ _ _ _ _ _ _ _ _ _ _ _ _ _ _ _ _ _ _ _ _ _ _ _ _ _ hH hAu
