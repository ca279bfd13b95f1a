set_option maxHeartbeats 4000000
set_option maxRecDepth 100000
/-! slip, moved -/
theorem ag_moved {me : Int} : wp (iK_moved me) (fun r => wp (iM_moved me) (fun q => r = q)) := by
  unfold iK_moved iAudit_movedTo iM_moved
  rw [wp_bd1, wp_some, wp_some, wp_some]
theorem ag_slip {N : Nat} (hN : 5000 ≤ N) {c : Nat} {ki te sh am vb : Nat → Int} {Wf : Nat → List St} {D : DynI} {aw : Nat → Option Nat} {aK aN aS aT aV v fi' ib mn se so sE sF tE pe : Nat → Int} (hC : AuC N c ki te sh am vb Wf D aw aK aN aS aT aV v fi' ib mn se so sE sF tE pe) {n g lo lim ch isM : Int} {P W S ab fi gw cf cp ga re ma ro rq rw_ : Nat → Int} {C : Nat → Nat → Int} (hH : IH n g lo lim ch isM P W S fi gw ma) {cA kA : Int} {kfi kfp knx kwr rsh rto : Nat → Int} {ral rde rfa rpa rpu rpy : Nat → Nat → Int} (hAu : AuI (mkA c ki te sh am vb Wf gw) ch isM cA kA kfi kfp knx kwr rsh rto ral rde rfa rpa rpu rpy) {ka : Int} (hka : -1 ≤ ka ∧ ka ≤ c) {a1 a2 M me jd jp js jt tbl td tp tsh tto wbl wd wp_ wsh wto : Int} {jst ofi ofp onx owr rbl rd rp tal tde tfa tpa tpy tpu wal wde wfa wpa wpy wpu : Nat → Int} {al md mf mb mk mv mt nw pd pt pn pl sn wo : Int} {be co ft mm off pile : Nat → Int} {Pp : R_iK_slip → R_iM_slip → Prop} (hQ : ∀ (r me cA jd jp js jt kA : Int) (jst kfi kfp knx kwr ofi ofp onx owr rbl rd rp rsh rto : Nat → Int) (ral rde rfa rpa rpy rpu : Nat → Nat → Int) (tbl td tp tsh tto : Int) (tal tde tfa tpa tpy tpu : Nat → Int) (wbl wd wp_ wsh wto : Int) (wal wde wfa wpa wpy wpu : Nat → Int) (isM : Int) (ab fi gw cf cp : Nat → Int) (C : Nat → Nat → Int) (ga re ma ro rq rw_ : Nat → Int) (al md mf mb mk mv mt nw pd pt pn pl sn wo : Int) (be co ft mm off pile : Nat → Int), IH n g lo lim ch isM P W S fi gw ma → AuI (mkA c ki te sh am vb Wf gw) ch isM cA kA kfi kfp knx kwr rsh rto ral rde rfa rpa rpu rpy → Pp (r, cA, kA, me, jd, jp, js, jt, jst, kfi, kfp, knx, kwr, ofi, ofp, onx, owr, rbl, rd, rp, rsh, rto, ral, rde, rfa, rpa, rpy, rpu, tbl, td, tp, tsh, tto, tal, tde, tfa, tpa, tpy, tpu, wbl, wd, wp_, wsh, wto, wal, wde, wfa, wpa, wpy, wpu, isM, ab, fi, gw, cf, cp, C, ga, re, ma, ro, rq, rw_) (r, al, md, mf, mb, mk, me, mv, mt, nw, pd, pt, pn, pl, sn, wo, be, co, ft, mm, off, pile)) : wp (iK_slip N a1 a2 M D ka c am ki sh te vb aw cA kA me jd jp js jt jst kfi kfp knx kwr ofi ofp onx owr rbl rd rp rsh rto ral rde rfa rpa rpy rpu tbl td tp tsh tto tal tde tfa tpa tpy tpu wbl wd wp_ wsh wto wal wde wfa wpa wpy wpu ch g isM lim lo ab fi gw cf cp C ga re ma ro rq P rw_ S W) (fun r => wp (iM_slip N a1 a2 M c al ka md mf g mb mk lim lo me mv mt nw pd pt pn pl sn wo aK aN aS aT be v co P W S fi' ft ib mn mm off pe pile se so sE sF tE aV) (Pp r)) := by
  have h1 := hH.1
  have h2 := hH.2.1
  unfold iK_slip
  rw [wp_bd1, w_isShire]
  refine ⟨fun hs => ?_, fun hs => ?_⟩
  · obtain ⟨s, rfl⟩ : ∃ s : Nat, a1 = s := ⟨a1.toNat, by omega⟩
    rw [if_neg (by decide), wp_bd1, w_isTerm]
    refine ⟨fun ht => ?_, fun ht => ?_⟩
    · obtain ⟨a, rfl⟩ : ∃ a : Nat, a2 = a := ⟨a2.toNat, by omega⟩
      have hs8 : s < 8 := by omega
      have ha : a ≤ 39 := by omega
      rw [if_neg (by decide), wp_bd1, w_asNow.2, wp_some, wp_bd36]
      refine w_rollOf hN hC.1 hH (now_b hka) hAu hC.2.1 hs8 ha (fun ab2 fi2 gw2 cf2 cp2 C2 ga2 re2 ma2 ro2 rp2 rw2 jd2 jp2 js2 jt2 jst2 kfi2 kfp2 knx2 kwr2 rbl2 rd2 rpp2 rsh2 rto2 ral2 rde2 rfa2 rpa2 rpy2 rpu2 p1 p2 p3 => ?_)
      obtain ⟨i1, i2, i3, i4⟩ := p1
      obtain ⟨t, t1, t2, t3, t4, t5⟩ := p2
      have es : (s : Int).toNat = s := rfl
      -- the reference answers as slP
      have ref : ∀ (r me2 : Int) (X : R_iK_slip), slP (mkA c ki te sh am vb Wf gw2) (if ka = -1 then (c : Int) else ka) s M a r me2 → (∀ (al md mf mb mk mv mt nw pd pt pn pl sn wo : Int) (be co ft mm off pile : Nat → Int), Pp X (r, al, md, mf, mb, mk, me2, mv, mt, nw, pd, pt, pn, pl, sn, wo, be, co, ft, mm, off, pile)) → wp (iM_slip N s a M c al ka md mf g mb mk lim lo me mv mt nw pd pt pn pl sn wo aK aN aS aT be v co P W S fi' ft ib mn mm off pe pile se so sE sF tE aV) (Pp X) := fun r me2 X hx hp => by
        refine w_slipM hN hC h1 h2 i2 hs8 ha (fun q al md mf mb mk me3 mv mt nw pd pt pn pl sn wo be co ft mm off pile hq => ?_)
        obtain ⟨z1, z2⟩ := slP_u hq hx
        subst z1 z2
        exact hp _ _ _ _ _ _ _ _ _ _ _ _ _ _ _ _ _ _ _ _
      obtain ⟨Kt, hKt, hKc⟩ : ∃ Kt : Nat, (if ka = -1 then (c : Int) else ka) = Kt ∧ Kt ≤ c := ⟨(if ka = -1 then (c : Int) else ka).toNat, by have := now_b hka; omega, by have := now_b hka; omega⟩
      have aui : AuI (mkA c ki te sh am vb Wf gw2) ch 1 ch (if ka = -1 then (c : Int) else ka) kfi2 kfp2 knx2 kwr2 rsh2 rto2 ral2 rde2 rfa2 rpa2 rpu2 rpy2 := ⟨Int.le_refl _, fun _ => ⟨rfl, now_b hka, i4⟩⟩
      rw [hKt] at ref aui t4 t5 ⊢
      show wp (gd (jb s 8) _) _
      rw [wp_gd, wp_bd1, es]
      unfold iAudit_forgetMoved
      rw [wp_some, wp_bd1]
      refine ⟨jb_iff.mpr (by omega), ?_⟩
      show wp (iRoll_entry N a 0 (ral2 s) (rde2 s) (rfa2 s) (rpa2 s) (rpy2 s) (rpu2 s)) _
      rw [w_entry0 ha, wp_some, (t4 a t2).1, wp_ite]
      refine ⟨fun y => ?_, fun y => ?_⟩
      · rw [wp_some]
        refine ref 0 (-1) _ (Or.inl ⟨y, rfl, rfl⟩) (fun al md mf mb mk mv mt nw pd pt pn pl sn wo be co ft mm off pile => ?_)
        exact hQ _ _ _ _ _ _ _ _ _ _ _ _ _ _ _ _ _ _ _ _ _ _ _ _ _ _ _ _ _ _ _ _ _ _ _ _ _ _ _ _ _ _ _ _ _ _ _ _ _ _ _ _ _ _ _ _ _ _ _ _ _ _ _ _ _ _ _ _ _ _ _ _ _ _ _ _ _ _ _ _ _ _ _ i1 aui
      · rw [wp_bd21]
        show wp (iAudit_findLeftOut N a M (rsh2 s) (rto2 s) (rde2 s) (rpu2 s) (mkA c ki te sh am vb Wf gw2).c (mkA c ki te sh am vb Wf gw2).am (mkA c ki te sh am vb Wf gw2).ki (mkA c ki te sh am vb Wf gw2).sh (mkA c ki te sh am vb Wf gw2).te (mkA c ki te sh am vb Wf gw2).vb aw gw2 D Kt jd2 jp2 js2 jt2 jst2 ofi ofp onx owr tbl td tp tsh tto tal tde tfa tpa tpy tpu) _
        rw [p3, t1]
        refine w_leftOut hN ha ⟨i3, fun _ _ => rfl, hC.2.1 gw2⟩ hKc t4 t2 t3 y (fun r hr jd3 jp3 js3 jt3 jst3 fi3 fp3 nx3 wr3 bl3 db3 pd3 sh3 to3 al3 de3 fa3 pa3 py3 pu3 => ?_)
        show wp (if r = -1 then _ else _) _
        rw [wp_ite]
        refine ⟨fun y1 => ?_, fun y1 => ?_⟩
        · subst y1
          have hno : ∀ j, 1 ≤ j → j ≤ c → ¬ Lo (mkA c ki te sh am vb Wf gw2) Kt s M a j := by
            rcases hr with ⟨_, q⟩ | ⟨k, q, _⟩
            · exact q
            · omega
          rw [wp_bd33]
          show wp (iAudit_findMoved N a M (rsh2 s) (rto2 s) (rde2 s) (rpu2 s) (mkA c ki te sh am vb Wf gw2).c (mkA c ki te sh am vb Wf gw2).am (mkA c ki te sh am vb Wf gw2).ki (mkA c ki te sh am vb Wf gw2).sh (mkA c ki te sh am vb Wf gw2).te (mkA c ki te sh am vb Wf gw2).vb aw gw2 D Kt (-1) jd3 jp3 js3 jt3 jst3 fi3 fp3 nx3 wr3 bl3 db3 pd3 sh3 to3 al3 de3 fa3 pa3 py3 pu3 wbl wd wp_ wsh wto wal wde wfa wpa wpy wpu) _
          rw [p3, t1]
          refine w_movedK hN ha ⟨i3, fun _ _ => rfl, hC.2.1 gw2⟩ hKc t4 t2 t3 y hno (fun r2 mt2 hr2 jd4 jp4 js4 jt4 jst4 fi4 fp4 nx4 wr4 bl4 db4 pd4 sh4 to4 al4 de4 fa4 pa4 py4 pu4 wbl4 wdb4 wpd4 wsh4 wto4 wal4 wde4 wfa4 wpa4 wpy4 wpu4 => ?_)
          rw [wp_some]
          refine ref r2 mt2 _ (Or.inr ⟨y, Or.inr ⟨hr, hr2⟩⟩) (fun al md mf mb mk mv mt nw pd pt pn pl sn wo be co ft mm off pile => ?_)
          exact hQ _ _ _ _ _ _ _ _ _ _ _ _ _ _ _ _ _ _ _ _ _ _ _ _ _ _ _ _ _ _ _ _ _ _ _ _ _ _ _ _ _ _ _ _ _ _ _ _ _ _ _ _ _ _ _ _ _ _ _ _ _ _ _ _ _ _ _ _ _ _ _ _ _ _ _ _ _ _ _ _ _ _ _ i1 aui
        · rw [wp_some]
          refine ref r (-1) _ (Or.inr ⟨y, Or.inl ⟨y1, hr, rfl⟩⟩) (fun al md mf mb mk mv mt nw pd pt pn pl sn wo be co ft mm off pile => ?_)
          exact hQ _ _ _ _ _ _ _ _ _ _ _ _ _ _ _ _ _ _ _ _ _ _ _ _ _ _ _ _ _ _ _ _ _ _ _ _ _ _ _ _ _ _ _ _ _ _ _ _ _ _ _ _ _ _ _ _ _ _ _ _ _ _ _ _ _ _ _ _ _ _ _ _ _ _ _ _ _ _ _ _ _ _ _ i1 aui
    · rw [if_pos rfl, wp_some]
      unfold iM_slip
      rw [wp_bd1, w_M_isShire]
      refine ⟨fun _ => ?_, fun z => absurd (show (0 : Int) ≤ s ∧ (s : Int) < 8 by omega) z⟩
      rw [if_neg (by decide), wp_bd1, w_M_isTerm]
      refine ⟨fun z => absurd z ht, fun _ => ?_⟩
      rw [if_pos rfl, wp_some]
      exact hQ _ _ _ _ _ _ _ _ _ _ _ _ _ _ _ _ _ _ _ _ _ _ _ _ _ _ _ _ _ _ _ _ _ _ _ _ _ _ _ _ _ _ _ _ _ _ _ _ _ _ _ _ _ _ _ _ _ _ _ _ _ _ _ _ _ _ _ _ _ _ _ _ _ _ _ _ _ _ _ _ _ _ _ hH hAu
  · rw [if_pos rfl, wp_some]
    unfold iM_slip
    rw [wp_bd1, w_M_isShire]
    refine ⟨fun z => absurd z hs, fun _ => ?_⟩
    rw [if_pos rfl, wp_some]
    exact hQ _ _ _ _ _ _ _ _ _ _ _ _ _ _ _ _ _ _ _ _ _ _ _ _ _ _ _ _ _ _ _ _ _ _ _ _ _ _ _ _ _ _ _ _ _ _ _ _ _ _ _ _ _ _ _ _ _ _ _ _ _ _ _ _ _ _ _ _ _ _ _ _ _ _ _ _ _ _ _ _ _ _ _ hH hAu
