set_option maxHeartbeats 4000000
set_option maxRecDepth 100000
/-! owed, force -/
def owS (A : AW) (K : Int) (a : Nat) : Nat → Int
  | 0 => 0
  | n + 1 => owS A K a n + (if 0 < (roll n (wld A K (-1) (-1) 0 n) (a + 1)).d then (roll n (wld A K (-1) (-1) 0 n) (a + 1)).d else 0)
theorem owS_b {A : AW} (hA : A.ok) {K : Int} {a : Nat} (ha : a ≤ 39) : ∀ n : Nat, 0 ≤ owS A K a n ∧ owS A K a n ≤ 7000000000000 * (n : Int)
  | 0 => ⟨Int.le_refl 0, by show (0 : Int) ≤ 7000000000000 * ((0 : Nat) : Int); omega⟩
  | n + 1 => by
    have ih := owS_b hA (K := K) ha n
    have rb := (roll_b (sh := n) (wld_ok hA K (-1) (-1) 0 n) (show a + 1 ≤ 40 by omega)).1
    show 0 ≤ owS A K a n + _ ∧ owS A K a n + _ ≤ _
    have r2 := rb.2
    split <;> omega
theorem w_debts {N : Nat} (hN : 5000 ≤ N) {c : Nat} {ki te sh am vb : Nat → Int} {Wf : Nat → List St} (hA : AOk c ki te sh am vb Wf) {n g lo lim ch isM : Int} {P W S ab fi gw cf cp ga re ma ro rq rw_ : Nat → Int} {C : Nat → Nat → Int} (hH : IH n g lo lim ch isM P W S fi gw ma) {K cA kA : Int} (hK : 0 ≤ K ∧ K ≤ c) {kfi kfp knx kwr rsh rto : Nat → Int} {ral rde rfa rpa rpu rpy : Nat → Nat → Int} (hAu : AuI (mkA c ki te sh am vb Wf gw) ch isM cA kA kfi kfp knx kwr rsh rto ral rde rfa rpa rpu rpy) {D : DynI} {aw : Nat → Option Nat} (hw : ∀ gw, KWs (mkA c ki te sh am vb Wf gw) D aw) {a : Nat} (ha : a ≤ 39) {jd jp js jt : Int} {jst rbl rd rp : Nat → Int} {Q : R_iAudit_debtsAboveNothing → Prop} (hQ : ∀ (ab2 fi2 gw2 cf2 cp2 : Nat → Int) (C2 : Nat → Nat → Int) (ga2 re2 ma2 ro2 rp2 rw2 : Nat → Int) (jd2 jp2 js2 jt2 : Int) (jst2 kfi2 kfp2 knx2 kwr2 rbl2 rd2 rpp2 rsh2 rto2 : Nat → Int) (ral2 rde2 rfa2 rpa2 rpy2 rpu2 : Nat → Nat → Int), AuP c ki te sh am vb Wf n g lo lim ch P W S K fi2 gw2 ma2 kfi2 kfp2 knx2 kwr2 rsh2 rto2 ral2 rde2 rfa2 rpa2 rpu2 rpy2 → Q (owS (mkA c ki te sh am vb Wf gw2) K a 8, 1, ab2, fi2, gw2, cf2, cp2, C2, ga2, re2, ma2, ro2, rp2, rw2, ch, K, jd2, jp2, js2, jt2, jst2, kfi2, kfp2, knx2, kwr2, rbl2, rd2, rpp2, rsh2, rto2, ral2, rde2, rfa2, rpa2, rpy2, rpu2)) : wp (iAudit_debtsAboveNothing N a K c am ki sh te vb aw ch g isM lim lo ab fi gw cf cp C ga re ma ro rq P rw_ S W D cA kA jd jp js jt jst kfi kfp knx kwr rbl rd rp rsh rto ral rde rfa rpa rpy rpu) Q := by
  unfold iAudit_debtsAboveNothing
  rw [wp_bd21]
  refine w_knowAt hN hA hH hK hAu (fun ab2 fi2 gw2 cf2 cp2 C2 ga2 re2 ma2 ro2 rp2 rw2 kfi2 kfp2 knx2 kwr2 rsh2 rto2 p1 p2 p3 p4 => ?_)
  show wp (iAudit_debtsAboveNothing_b10 N a K c am ki sh te vb aw ch g lim lo P S W D 1 ab2 fi2 gw2 cf2 cp2 C2 ga2 re2 ma2 ro2 rp2 rw2 ch K kfi2 kfp2 knx2 kwr2 rsh2 N 0 0 jd jp js jt jst rbl rd rp rto2 ral rde rfa rpa rpy rpu) Q
  unfold iAudit_debtsAboveNothing_b10
  refine wp_zlp17 (fun (m : Nat) (x3 x5 _ _ _ _ : Int) (_ _ _ _ rto : Nat → Int) (ral rde rfa rpa rpy rpu : Nat → Nat → Int) => ∃ s : Nat, s + m = 8 ∧ x5 = s ∧ x3 = owS (mkA c ki te sh am vb Wf gw2) K a s ∧ AuV (mkA c ki te sh am vb Wf gw2) K kfi2 kfp2 knx2 kwr2 rsh2 rto ral rde rfa rpa rpu rpy) ?_ N 8 0 0 jd jp js jt jst rbl rd rp rto2 ral rde rfa rpa rpy rpu (by omega) ⟨0, rfl, rfl, rfl, p4⟩
  intro self m x3 x5 jd jp js jt jst rbl rd rp rto ral rde rfa rpa rpy rpu ⟨s, s1, s2, s3, s4⟩ ih
  subst s2
  have es : (s : Int).toNat = s := rfl
  unfold iAudit_debtsAboveNothing_b10_F
  rw [wp_ite]
  refine ⟨fun c8 => ?_, fun c8 => ?_⟩
  · have e8 : s = 8 := by omega
    subst e8
    rw [wp_some, s3]
    exact hQ _ _ _ _ _ _ _ _ _ _ _ _ _ _ _ _ _ _ _ _ _ _ _ _ _ _ _ _ _ _ _ _ ⟨p1, p2, p3, s4⟩
  · rw [wp_gd, wp_bd15, es]
    refine ⟨jb_iff.mpr (by omega), ?_⟩
    show wp (iRoll_goTo N a (mkA c ki te sh am vb Wf gw2).c (mkA c ki te sh am vb Wf gw2).am (mkA c ki te sh am vb Wf gw2).ki (mkA c ki te sh am vb Wf gw2).sh aw (mkA c ki te sh am vb Wf gw2).gw D jd jp js jt jst kfi2 kfp2 knx2 kwr2 (rbl s) (rd s) (rp s) (rsh2 s) (rto s) (ral s) (rde s) (rfa s) (rpa s) (rpy s) (rpu s)) _
    refine w_tell hN p3 s4 (hw gw2) (show s < 8 by omega) ha (fun jd2 jp2 js2 jt2 jst2 bl2 d2 p2 tl2 al2 de2 fa2 pa2 py2 pu2 q1 q2 q3 q4 q5 => ?_)
    have de := (q3 a q1).1
    have ob := owS_b p3 (K := K) ha s
    have rb := (roll_b (sh := s) (wld_ok p3 K (-1) (-1) 0 s) (show a + 1 ≤ 40 by omega)).1.2
    have sum : owS (mkA c ki te sh am vb Wf gw2) K a s + jmax 0 (de2 a) = owS (mkA c ki te sh am vb Wf gw2) K a (s + 1) := by
      rw [de]
      unfold jmax
      have e : owS (mkA c ki te sh am vb Wf gw2) K a (s + 1) = owS (mkA c ki te sh am vb Wf gw2) K a s + (if 0 < (roll s (wld (mkA c ki te sh am vb Wf gw2) K (-1) (-1) 0 s) (a + 1)).d then (roll s (wld (mkA c ki te sh am vb Wf gw2) K (-1) (-1) 0 s) (a + 1)).d else 0) := rfl
      rw [e]
    have ob1 := owS_b p3 (K := K) ha (s + 1)
    rw [wp_bd1]
    simp only [va_up_self]
    rw [w_entry0 ha, wp_some, s3, sum, wp_gd, wp_gd]
    refine ⟨jR_iff.mpr (by omega), jr_iff.mpr (by omega), ih (m - 1) _ _ _ _ _ _ _ _ _ _ _ _ _ _ _ _ _ (by omega) ⟨s + 1, by omega, by omega, rfl, q5⟩⟩
theorem ag_owed {N : Nat} (hN : 5000 ≤ N) {c : Nat} {ki te sh am vb : Nat → Int} {Wf : Nat → List St} {D : DynI} {aw : Nat → Option Nat} {aK aN aS aT aV v fi' ib mn se so sE sF tE pe : Nat → Int} (hC : AuC N c ki te sh am vb Wf D aw aK aN aS aT aV v fi' ib mn se so sE sF tE pe) {n g lo lim ch isM : Int} {P W S ab fi gw cf cp ga re ma ro rq rw_ : Nat → Int} {C : Nat → Nat → Int} (hH : IH n g lo lim ch isM P W S fi gw ma) {cA kA : Int} {kfi kfp knx kwr rsh rto : Nat → Int} {ral rde rfa rpa rpu rpy : Nat → Nat → Int} (hAu : AuI (mkA c ki te sh am vb Wf gw) ch isM cA kA kfi kfp knx kwr rsh rto ral rde rfa rpa rpu rpy) {ka : Int} (hka : -1 ≤ ka ∧ ka ≤ c) {a1 jd jp js jt : Int} {jst rbl rd rp : Nat → Int} {al md mf mb mk mv mt nw pd pt pn pl sn wo : Int} {be co ft mm off pile : Nat → Int} {Pp : R_iK_owed → R_iM_owed → Prop} (hQ : ∀ (r cA jd jp js jt kA : Int) (jst kfi kfp knx kwr rbl rd rp rsh rto : Nat → Int) (ral rde rfa rpa rpy rpu : Nat → Nat → Int) (isM : Int) (ab fi gw cf cp : Nat → Int) (C : Nat → Nat → Int) (ga re ma ro rq rw_ : Nat → Int) (al md mf mb mk mv nw pd pt pn pl sn wo : Int) (be co ft mm off pile : Nat → Int), IH n g lo lim ch isM P W S fi gw ma → AuI (mkA c ki te sh am vb Wf gw) ch isM cA kA kfi kfp knx kwr rsh rto ral rde rfa rpa rpu rpy → Pp (r, cA, kA, jd, jp, js, jt, jst, kfi, kfp, knx, kwr, rbl, rd, rp, rsh, rto, ral, rde, rfa, rpa, rpy, rpu, isM, ab, fi, gw, cf, cp, C, ga, re, ma, ro, rq, rw_) (r, al, md, mf, mb, mk, mv, nw, pd, pt, pn, pl, sn, wo, be, co, ft, mm, off, pile)) : wp (iK_owed N a1 D ka c am ki sh te vb aw cA kA jd jp js jt jst kfi kfp knx kwr rbl rd rp rsh rto ral rde rfa rpa rpy rpu ch g isM lim lo ab fi gw cf cp C ga re ma ro rq P rw_ S W) (fun r => wp (iM_owed N a1 c al ka md mf g mb mk lim lo mv mt nw pd pt pn pl sn wo aK aN aS aT be v co P W S fi' ft ib mn mm off pe pile se so sE sF tE aV) (Pp r)) := by
  have h1 := hH.1
  have h2 := hH.2.1
  unfold iK_owed
  rw [wp_bd1, w_isTerm]
  refine ⟨fun ht => ?_, fun ht => ?_⟩
  · obtain ⟨a, rfl⟩ : ∃ a : Nat, a1 = a := ⟨a1.toNat, by omega⟩
    have ha : a ≤ 39 := by omega
    rw [if_neg (by decide), wp_bd1, w_asNow.2, wp_some, wp_bd36]
    refine w_debts hN hC.1 hH (now_b hka) hAu hC.2.1 ha (fun ab2 fi2 gw2 cf2 cp2 C2 ga2 re2 ma2 ro2 rp2 rw2 jd2 jp2 js2 jt2 jst2 kfi2 kfp2 knx2 kwr2 rbl2 rd2 rpp2 rsh2 rto2 ral2 rde2 rfa2 rpa2 rpy2 rpu2 p1 => ?_)
    obtain ⟨i1, i2, i3, i4⟩ := p1
    rw [wp_some]
    unfold iM_owed
    rw [wp_bd1, w_M_isTerm]
    refine ⟨fun _ => ?_, fun z => absurd ht z⟩
    rw [if_neg (by decide), wp_bd4]
    refine wp_mono (w_matches hN h1 h2) (fun q ⟨_, q2⟩ => ?_)
    obtain ⟨be2, co2, ft2, mm2⟩ := q
    show wp (bd1 (iM_asNow c ka) _) _
    rw [wp_bd1, w_asNow.1, wp_some, wp_bd3]
    unfold iM_tellsAsKnown
    rw [wp_some]
    generalize hKe : (if ka = -1 then (c : Int) else ka) = K at *
    show wp (iM_owed_b28 N a c ka g lim lo mt aK aN aS aT v P W S fi' ib mn pe se so sE sF tE aV K (-1) (-1) be2 co2 ft2 mm2 N 0 0 al md mf mb nw pd pt pn pl sn off pile) _
    unfold iM_owed_b28
    refine wp_zlp14 (fun (m : Nat) (x2 x4 _ _ _ _ _ _ _ _ _ _ : Int) (_ _ : Nat → Int) => ∃ s : Nat, s + m = 8 ∧ x4 = s ∧ x2 = owS (mkA c ki te sh am vb Wf gw2) K a s) ?_ N 8 0 0 al md mf mb nw pd pt pn pl sn off pile (by omega) ⟨0, rfl, rfl, rfl⟩
    intro self m x2 x4 al md mf mb nw pd pt pn pl sn off pile ⟨s, s1, s2, s3⟩ ih
    subst s2
    unfold iM_owed_b28_F
    rw [wp_ite]
    refine ⟨fun c8 => ?_, fun c8 => ?_⟩
    · have e8 : s = 8 := by omega
      subst e8
      rw [wp_some, s3]
      exact hQ _ _ _ _ _ _ _ _ _ _ _ _ _ _ _ _ _ _ _ _ _ _ _ _ _ _ _ _ _ _ _ _ _ _ _ _ _ _ _ _ _ _ _ _ _ _ _ _ _ _ _ _ _ _ _ i1 ⟨Int.le_refl _, fun _ => ⟨rfl, by rw [← hKe]; exact now_b hka, i4⟩⟩
    · rw [wp_bd13]
      refine w_rollsK (K := K) (wo := -1) (mv := -1) (mt := mt) (s := s) hN hC h1 i2 q2 ha (fun al2 d2 fa2 bl now paid pt2 pa2 pl sn off pile e1 e2 e3 e4 e5 e6 => ?_)
      rw [mt_roll] at e2
      have ob := owS_b i3 (K := K) ha s
      have ob1 := owS_b i3 (K := K) ha (s + 1)
      have e : owS (mkA c ki te sh am vb Wf gw2) K a (s + 1) = owS (mkA c ki te sh am vb Wf gw2) K a s + (if 0 < (roll s (wld (mkA c ki te sh am vb Wf gw2) K (-1) (-1) 0 s) (a + 1)).d then (roll s (wld (mkA c ki te sh am vb Wf gw2) K (-1) (-1) 0 s) (a + 1)).d else 0) := rfl
      rw [← e2] at e
      show wp (if d2 ≤ 0 then _ else _) _
      rw [wp_ite]
      refine ⟨fun z => ?_, fun z => ?_⟩
      · rw [if_neg (show ¬ 0 < d2 by omega)] at e
        rw [wp_gd]
        exact ⟨jr_iff.mpr (by omega), ih (m - 1) _ _ _ _ _ _ _ _ _ _ _ _ _ _ (by omega) ⟨s + 1, by omega, by omega, by omega⟩⟩
      · rw [if_pos (show 0 < d2 by omega)] at e
        rw [wp_gd, wp_gd]
        exact ⟨jR_iff.mpr (by omega), jr_iff.mpr (by omega), ih (m - 1) _ _ _ _ _ _ _ _ _ _ _ _ _ _ (by omega) ⟨s + 1, by omega, by omega, by omega⟩⟩
  · rw [if_pos rfl, wp_some]
    unfold iM_owed
    rw [wp_bd1, w_M_isTerm]
    refine ⟨fun z => absurd z ht, fun _ => ?_⟩
    rw [if_pos rfl, wp_some]
    exact hQ _ _ _ _ _ _ _ _ _ _ _ _ _ _ _ _ _ _ _ _ _ _ _ _ _ _ _ _ _ _ _ _ _ _ _ _ _ _ _ _ _ _ _ _ _ _ _ _ _ _ _ _ _ _ _ hH hAu
theorem w_KwritOf {A : AW} (hA : A.ok) {K wo mv mt : Int} {fi fp nx wr : Nat → Int} (hK : KnOk A K wo mv mt fi fp nx wr) {a : Nat} (ha : a ≤ 39) {aw : Nat → Option Nat} : iKnown_writOf a aw wr = some (aw (wA A K wo a A.c)) := by
  have hc := hA.1
  have wl := (wA_s A K wo a A.c).1
  have ek : (a : Int).toNat = a := rfl
  have e := hK.1 a (by omega)
  have et : ((wA A K wo a A.c : Nat) : Int).toNat = wA A K wo a A.c := rfl
  unfold iKnown_writOf iK_isTerm
  rw [if_neg (by omega), if_neg (by omega), bd1_v, if_neg (by decide), gd, if_pos (jb_iff.mpr (by omega)), ek, e, gd, if_pos (jb_iff.mpr (by omega)), et]
theorem ag_force {N : Nat} (hN : 5000 ≤ N) {c : Nat} {ki te sh am vb : Nat → Int} {Wf : Nat → List St} {D : DynI} {aw : Nat → Option Nat} {aK aN aS aT aV v fi' ib mn se so sE sF tE pe : Nat → Int} (hC : AuC N c ki te sh am vb Wf D aw aK aN aS aT aV v fi' ib mn se so sE sF tE pe) {n g lo lim ch isM : Int} {P W S ab fi gw cf cp ga re ma ro rq rw_ : Nat → Int} {C : Nat → Nat → Int} (hH : IH n g lo lim ch isM P W S fi gw ma) {cA kA : Int} {kfi kfp knx kwr rsh rto : Nat → Int} {ral rde rfa rpa rpu rpy : Nat → Nat → Int} (hAu : AuI (mkA c ki te sh am vb Wf gw) ch isM cA kA kfi kfp knx kwr rsh rto ral rde rfa rpa rpu rpy) {ka : Int} (hka : -1 ≤ ka ∧ ka ≤ c) {a1 mk mv wo : Int} {Pp : R_iK_force → R_iM_force → Prop} (hQ : ∀ (r cA kA : Int) (kfi kfp knx kwr rsh rto : Nat → Int) (isM : Int) (ab fi gw cf cp : Nat → Int) (C : Nat → Nat → Int) (ga re ma ro rq rw_ : Nat → Int) (mk mv wo : Int), IH n g lo lim ch isM P W S fi gw ma → AuI (mkA c ki te sh am vb Wf gw) ch isM cA kA kfi kfp knx kwr rsh rto ral rde rfa rpa rpu rpy → Pp (r, cA, kA, kfi, kfp, knx, kwr, rsh, rto, isM, ab, fi, gw, cf, cp, C, ga, re, ma, ro, rq, rw_) (r, mk, mv, wo)) : wp (iK_force N a1 D ka c ki te vb aw cA kA kfi kfp knx kwr rsh rto ch g isM lim lo ab fi gw cf cp C ga re ma ro rq P rw_ S W) (fun r => wp (iM_force N a1 c ka mk mv wo aK aT mn aV) (Pp r)) := by
  unfold iK_force
  rw [wp_bd1, w_isTerm]
  refine ⟨fun ht => ?_, fun ht => ?_⟩
  · obtain ⟨a, rfl⟩ : ∃ a : Nat, a1 = a := ⟨a1.toNat, by omega⟩
    have ha : a ≤ 39 := by omega
    rw [if_neg (by decide), wp_bd1, w_asNow.2, wp_some, wp_bd22]
    unfold iAudit_statementsIn
    rw [wp_bd21]
    refine w_knowAt hN hC.1 hH (now_b hka) hAu (fun ab2 fi2 gw2 cf2 cp2 C2 ga2 re2 ma2 ro2 rp2 rw2 kfi2 kfp2 knx2 kwr2 rsh2 rto2 p1 p2 p3 p4 => ?_)
    have hc := p3.1
    change c ≤ 200 at hc
    have hw := hC.2.1 gw2
    have nb := now_b hka
    have fin : ∀ r, (∀ (mk mv wo : Int), wp (iM_force N a c ka mk mv wo aK aT mn aV) (fun q => ∃ mk2 mv2 wo2, q = (r, mk2, mv2, wo2))) → wp (iM_force N a c ka mk mv wo aK aT mn aV) (Pp (r, ch, (if ka = -1 then (c : Int) else ka), kfi2, kfp2, knx2, kwr2, rsh2, rto2, 1, ab2, fi2, gw2, cf2, cp2, C2, ga2, re2, ma2, ro2, rp2, rw2)) := fun r hr => wp_mono (hr mk mv wo) (fun q ⟨mk2, mv2, wo2, e⟩ => by
      subst e
      exact hQ _ _ _ _ _ _ _ _ _ _ _ _ _ _ _ _ _ _ _ _ _ _ _ _ _ p1 ⟨Int.le_refl _, fun _ => ⟨rfl, nb, p4⟩⟩)
    have ref : ∀ r, (wA (mkA c ki te sh am vb Wf gw2) (if ka = -1 then (c : Int) else ka) (-1) a c = 0 → r = -1) → (wA (mkA c ki te sh am vb Wf gw2) (if ka = -1 then (c : Int) else ka) (-1) a c ≠ 0 → r = mn (wA (mkA c ki te sh am vb Wf gw2) (if ka = -1 then (c : Int) else ka) (-1) a c)) → ∀ (mk mv wo : Int), wp (iM_force N a c ka mk mv wo aK aT mn aV) (fun q => ∃ mk2 mv2 wo2, q = (r, mk2, mv2, wo2)) := by
      intro r r1 r2 mk mv wo
      unfold iM_force
      rw [wp_bd1, w_M_isTerm]
      refine ⟨fun _ => ?_, fun z => absurd ht z⟩
      rw [if_neg (by decide), wp_bd1, w_asNow.1, wp_some, wp_bd3]
      unfold iM_tellsAsKnown
      rw [wp_some, wp_bd1]
      refine wp_mono (w_writOfM hN p3 (hC.2.2.1 gw2) (if ka = -1 then (c : Int) else ka) (-1) (show a ≤ 60 by omega)) (fun q hq => ?_)
      have wl := (wA_s (mkA c ki te sh am vb Wf gw2) (if ka = -1 then (c : Int) else ka) (-1) a c).1
      change q = (wA (mkA c ki te sh am vb Wf gw2) (if ka = -1 then (c : Int) else ka) (-1) a c : Nat) at hq
      generalize wA (mkA c ki te sh am vb Wf gw2) (if ka = -1 then (c : Int) else ka) (-1) a c = w at *
      subst hq
      rw [wp_ite]
      refine ⟨fun z => ?_, fun z => ?_⟩
      · rw [wp_some, r1 (by omega)]
        exact ⟨_, _, _, rfl⟩
      · rw [wp_gd, wp_some, r2 (by omega)]
        exact ⟨jb_iff.mpr (by omega), _, _, _, rfl⟩
    show wp (bd1 (iKnown_writOf a aw kwr2) _) _
    rw [wp_bd1, w_KwritOf p3 p4.1 ha, wp_some]
    have ws := wA_s (mkA c ki te sh am vb Wf gw2) (if ka = -1 then (c : Int) else ka) (-1) a c
    change wp (opn (aw (wA (mkA c ki te sh am vb Wf gw2) (if ka = -1 then (c : Int) else ka) (-1) a c)) _ _) _
    generalize hwe : wA (mkA c ki te sh am vb Wf gw2) (if ka = -1 then (c : Int) else ka) (-1) a c = w at *
    by_cases z : w = 0
    · rw [z, hw.1, wp_opn]
      refine ⟨fun _ => ?_, fun y q => by cases q⟩
      rw [wp_some, wp_some]
      exact fin _ (ref _ (fun _ => rfl) (fun q => absurd z q))
    · have w1 := ws.2 z
      obtain ⟨y, e1, o1, y3, y7, k2, k3, k4, k5, k6, k7, k8, k9⟩ := hw.2 w (by omega) ws.1 w1.1
      have many := (hC.2.2.2.1 gw2 w (by omega) ws.1 w1.1).2.1
      have eGR : jGR D y 1 0 = some (some y3) := by
        unfold jGR
        rw [if_pos o1, k2]
      have eL : jLen D y3 2 = some (Wf w).length := by
        unfold jLen
        rw [if_pos k4, k5]
        rfl
      have h24 := (hC.1.2.2 w (by omega) ws.1 w1.1).1
      rw [e1, wp_opn]
      refine ⟨fun q => (by cases q), fun y2 q => ?_⟩
      cases q
      rw [wp_bd1, eGR, wp_some, wp_bd1, wp_some, wp_bd1, eL, wp_some, wp_gd, wp_some, wp_some]
      refine ⟨jr_iff.mpr (by omega), fin _ (ref _ (fun q => absurd q z) (fun _ => ?_))⟩
      exact many.symm
  · rw [if_pos rfl, wp_some]
    unfold iM_force
    rw [wp_bd1, w_M_isTerm]
    refine ⟨fun z => absurd z ht, fun _ => ?_⟩
    rw [if_pos rfl, wp_some]
    exact hQ _ _ _ _ _ _ _ _ _ _ _ _ _ _ _ _ _ _ _ _ _ _ _ _ _ hH hAu
