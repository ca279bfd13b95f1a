set_option maxHeartbeats 4000000
set_option maxRecDepth 100000
/-! roll -/
theorem mt_roll {A : AW} {K mt s : Int} {x : Nat} : roll s (wld A K (-1) (-1) mt s) x = roll s (wld A K (-1) (-1) 0 s) x := roll_same (fun y _ => wld_mt y)
theorem w_asNow {c : Nat} {ka : Int} : iM_asNow c ka = some (if ka = -1 then (c : Int) else ka) ∧ iK_presentAct ka c = some (if ka = -1 then (c : Int) else ka) := by
  unfold iM_asNow iK_presentAct iActs_size
  by_cases e : ka = -1
  · rw [if_pos e, if_pos e, if_pos e]
    exact ⟨rfl, rfl⟩
  · rw [if_neg e, if_neg e, if_neg e]
    exact ⟨rfl, rfl⟩
theorem now_b {c : Nat} {ka : Int} (h : -1 ≤ ka ∧ ka ≤ c) : 0 ≤ (if ka = -1 then (c : Int) else ka) ∧ (if ka = -1 then (c : Int) else ka) ≤ c := by
  split <;> omega
/-- the reference's roll: one call of rolls as known -/
theorem w_rollsK {N : Nat} (hN : 5000 ≤ N) {c : Nat} {ki te sh am vb : Nat → Int} {Wf : Nat → List St} {D : DynI} {aw : Nat → Option Nat} {aK aN aS aT aV v fi ib mn se so sE sF tE pe : Nat → Int} (hC : AuC N c ki te sh am vb Wf D aw aK aN aS aT aV v fi ib mn se so sE sF tE pe) {g lo lim : Int} {P W S ma gw mm : Nat → Int} (ok : fOk g lo P W S) (h : cM g lo lim P W S ma gw) (hm : mR lim (mF g lo P W S) mm) {K s wo mv mt : Int} {a : Nat} (ha : a ≤ 39) {al d fa bl now paid pt pa pl sn : Int} {off pile : Nat → Int} {Q : R_iM_rolls → Prop} (hQ : ∀ al2 d2 fa2 bl now paid pt2 pa2 pl sn off pile, al2 = (roll s (wld (mkA c ki te sh am vb Wf gw) K wo mv mt s) (a + 1)).al → d2 = (roll s (wld (mkA c ki te sh am vb Wf gw) K wo mv mt s) (a + 1)).d → fa2 = (roll s (wld (mkA c ki te sh am vb Wf gw) K wo mv mt s) (a + 1)).fa → pt2 = (roll s (wld (mkA c ki te sh am vb Wf gw) K wo mv mt s) (a + 1)).pd → pa2 = (roll s (wld (mkA c ki te sh am vb Wf gw) K wo mv mt s) (a + 1)).pa → OA a off (roll s (wld (mkA c ki te sh am vb Wf gw) K wo mv mt s) (a + 1)).o → Q (d2, al2, d2, fa2, bl, now, paid, pt2, pa2, pl, sn, off, pile)) : wp (iM_rolls N s a c al d fa bl K mv mt now paid pt pa pl sn wo aK aN aS aT v W S fi ib mn mm off pe pile se so sE sF tE aV) Q := by
  obtain ⟨h1, h2, h3, h4, h5⟩ := hC
  refine w_rolls (A := mkA c ki te sh am vb Wf gw) hN (mkA_ok h1 ok h) (h3 gw) (gwM_of hN ok h hm h5) (h4 gw) ha (fun bl now paid pl off pile ho => ?_)
  exact hQ _ _ _ _ _ _ _ _ _ _ _ _ rfl rfl rfl rfl rfl ho
theorem w_rollM {N : Nat} (hN : 5000 ≤ N) {c : Nat} {ki te sh am vb : Nat → Int} {Wf : Nat → List St} {D : DynI} {aw : Nat → Option Nat} {aK aN aS aT aV v fi ib mn se so sE sF tE pe : Nat → Int} (hC : AuC N c ki te sh am vb Wf D aw aK aN aS aT aV v fi ib mn se so sE sF tE pe) {g lo lim : Int} {P W S ma gw : Nat → Int} (ok : fOk g lo P W S) (hl : 0 ≤ lim ∧ lim ≤ 500) (h : cM g lo lim P W S ma gw) {ka a3 : Int} {s a : Nat} (hs : s < 8) (ha : a ≤ 39) {al md mf mb mk mv mt nw pd pt pn pl sn wo : Int} {be co ft mm off pile : Nat → Int} {Q : R_iM_roll → Prop} (hQ : ∀ (al md mf mb mk mv nw pd pt pn pl sn wo : Int) (be co ft mm off pile : Nat → Int), Q (enV a3 (roll s (wld (mkA c ki te sh am vb Wf gw) (if ka = -1 then (c : Int) else ka) (-1) (-1) 0 s) (a + 1)), al, md, mf, mb, mk, mv, nw, pd, pt, pn, pl, sn, wo, be, co, ft, mm, off, pile)) : wp (iM_roll N s a a3 c al ka md mf g mb mk lim lo mv mt nw pd pt pn pl sn wo aK aN aS aT be v co P W S fi ft ib mn mm off pe pile se so sE sF tE aV) Q := by
  have hA := mkA_ok hC.1 ok h
  unfold iM_roll
  rw [wp_bd1, w_M_isShire]
  refine ⟨fun _ => ?_, fun z => absurd (show (0 : Int) ≤ s ∧ (s : Int) < 8 by omega) z⟩
  rw [if_neg (by decide), wp_bd1, w_M_isTerm]
  refine ⟨fun _ => ?_, fun z => absurd (show (0 : Int) ≤ a ∧ (a : Int) < 40 by omega) z⟩
  rw [if_neg (by decide), wp_bd1, w_isIn]
  refine ⟨fun h6 => ?_, fun h6 => ?_⟩
  · rw [if_neg (by decide), wp_bd4]
    refine wp_mono (w_matches hN ok hl) (fun q ⟨_, q2⟩ => ?_)
    obtain ⟨be2, co2, ft2, mm2⟩ := q
    show wp (bd1 (iM_asNow c ka) _) Q
    rw [wp_bd1, w_asNow.1, wp_some, wp_bd3]
    unfold iM_tellsAsKnown
    rw [wp_some, wp_bd13]
    refine w_rollsK (K := if ka = -1 then (c : Int) else ka) (wo := -1) (mv := -1) (mt := mt) hN hC ok h q2 ha (fun al2 d2 fa2 bl now paid pt2 pa2 pl sn off pile e1 e2 e3 e4 e5 e6 => ?_)
    rw [mt_roll] at e1 e2 e3 e4 e5 e6
    have rok := roll_ok (sh := s) (wld_ok hA (if ka = -1 then (c : Int) else ka) (-1) (-1) 0 s) (show a + 1 ≤ 40 by omega)
    have ab := aB_s (roll s (wld (mkA c ki te sh am vb Wf gw) (if ka = -1 then (c : Int) else ka) (-1) (-1) 0 s) (a + 1)).d
    have o19 := rok.2
    have put := w_putM hN ha e6 rok.1 (by omega)
    clear o19 ab
    generalize roll s (wld (mkA c ki te sh am vb Wf gw) (if ka = -1 then (c : Int) else ka) (-1) (-1) 0 s) (a + 1) = R at *
    subst e1 e2 e3 e4 e5
    by_cases c0 : a3 = 0
    · subst c0
      rw [if_pos rfl, wp_some]
      exact hQ _ _ _ _ _ _ _ _ _ _ _ _ _ _ _ _ _ _ _
    rw [if_neg c0]
    by_cases c1 : a3 = 1
    · subst c1
      rw [if_pos rfl, wp_bd1]
      refine wp_mono put (fun r hr => ?_)
      subst hr
      rw [wp_some]
      exact hQ _ _ _ _ _ _ _ _ _ _ _ _ _ _ _ _ _ _ _
    rw [if_neg c1]
    by_cases c2 : a3 = 2
    · subst c2
      rw [if_pos rfl, wp_some]
      exact hQ _ _ _ _ _ _ _ _ _ _ _ _ _ _ _ _ _ _ _
    rw [if_neg c2]
    by_cases c3 : a3 = 3
    · subst c3
      rw [if_pos rfl, wp_some]
      exact hQ _ _ _ _ _ _ _ _ _ _ _ _ _ _ _ _ _ _ _
    rw [if_neg c3]
    by_cases c4 : a3 = 4
    · subst c4
      rw [if_pos rfl, wp_some]
      exact hQ _ _ _ _ _ _ _ _ _ _ _ _ _ _ _ _ _ _ _
    rw [if_neg c4]
    by_cases c5 : a3 = 5
    · subst c5
      rw [if_pos rfl, wp_some]
      exact hQ _ _ _ _ _ _ _ _ _ _ _ _ _ _ _ _ _ _ _
    rw [if_neg c5]
    have c6 : a3 = 6 := by omega
    subst c6
    have ev : enV 6 R = if 0 < R.d then 0 else if oS R.o 19 = 0 then 1 else 0 := rfl
    rw [ev] at hQ
    by_cases z : 0 < R.d
    · rw [if_pos z] at hQ ⊢
      rw [wp_some]
      exact hQ _ _ _ _ _ _ _ _ _ _ _ _ _ _ _ _ _ _ _
    · rw [if_neg z] at hQ ⊢
      rw [wp_bd1]
      refine wp_mono put (fun r hr => ?_)
      subst hr
      rw [wp_ite, wp_some, wp_some]
      refine ⟨fun y => ?_, fun y => ?_⟩
      · rw [if_pos y] at hQ
        exact hQ _ _ _ _ _ _ _ _ _ _ _ _ _ _ _ _ _ _ _
      · rw [if_neg y] at hQ
        exact hQ _ _ _ _ _ _ _ _ _ _ _ _ _ _ _ _ _ _ _
  · rw [if_pos rfl]
    unfold iM_roll_b26
    have ev : ∀ R, enV a3 R = -2000000000000 := fun R => by
      unfold enV
      rw [if_neg (by omega), if_neg (by omega), if_neg (by omega), if_neg (by omega), if_neg (by omega), if_neg (by omega), if_neg (by omega)]
    rw [ev] at hQ
    rw [wp_some]
    exact hQ _ _ _ _ _ _ _ _ _ _ _ _ _ _ _ _ _ _ _
theorem ag_roll {N : Nat} (hN : 5000 ≤ N) {c : Nat} {ki te sh am vb : Nat → Int} {Wf : Nat → List St} {D : DynI} {aw : Nat → Option Nat} {aK aN aS aT aV v fi' ib mn se so sE sF tE pe : Nat → Int} (hC : AuC N c ki te sh am vb Wf D aw aK aN aS aT aV v fi' ib mn se so sE sF tE pe) {n g lo lim ch isM : Int} {P W S ab fi gw cf cp ga re ma ro rq rw_ : Nat → Int} {C : Nat → Nat → Int} (hH : IH n g lo lim ch isM P W S fi gw ma) {cA kA : Int} {kfi kfp knx kwr rsh rto : Nat → Int} {ral rde rfa rpa rpu rpy : Nat → Nat → Int} (hAu : AuI (mkA c ki te sh am vb Wf gw) ch isM cA kA kfi kfp knx kwr rsh rto ral rde rfa rpa rpu rpy) {ka : Int} (hka : -1 ≤ ka ∧ ka ≤ c) {a1 a2 a3 jd jp js jt : Int} {jst rbl rd rp : Nat → Int} {al md mf mb mk mv mt nw pd pt pn pl sn wo : Int} {be co ft mm off pile : Nat → Int} {Pp : R_iK_roll → R_iM_roll → Prop} (hQ : ∀ (r cA jd jp js jt kA : Int) (jst kfi kfp knx kwr rbl rd rp rsh rto : Nat → Int) (ral rde rfa rpa rpy rpu : Nat → Nat → Int) (isM : Int) (ab fi gw cf cp : Nat → Int) (C : Nat → Nat → Int) (ga re ma ro rq rw_ : Nat → Int) (al md mf mb mk mv nw pd pt pn pl sn wo : Int) (be co ft mm off pile : Nat → Int), IH n g lo lim ch isM P W S fi gw ma → AuI (mkA c ki te sh am vb Wf gw) ch isM cA kA kfi kfp knx kwr rsh rto ral rde rfa rpa rpu rpy → Pp (r, cA, kA, jd, jp, js, jt, jst, kfi, kfp, knx, kwr, rbl, rd, rp, rsh, rto, ral, rde, rfa, rpa, rpy, rpu, isM, ab, fi, gw, cf, cp, C, ga, re, ma, ro, rq, rw_) (r, al, md, mf, mb, mk, mv, nw, pd, pt, pn, pl, sn, wo, be, co, ft, mm, off, pile)) : wp (iK_roll N a1 a2 a3 D ka c am ki sh te vb aw cA kA jd jp js jt jst kfi kfp knx kwr rbl rd rp rsh rto ral rde rfa rpa rpy rpu ch g isM lim lo ab fi gw cf cp C ga re ma ro rq P rw_ S W) (fun r => wp (iM_roll N a1 a2 a3 c al ka md mf g mb mk lim lo mv mt nw pd pt pn pl sn wo aK aN aS aT be v co P W S fi' ft ib mn mm off pe pile se so sE sF tE aV) (Pp r)) := by
  have h1 := hH.1
  have h2 := hH.2.1
  unfold iK_roll
  rw [wp_bd1, w_isShire]
  refine ⟨fun hs => ?_, fun hs => ?_⟩
  · obtain ⟨s, rfl⟩ : ∃ s : Nat, a1 = s := ⟨a1.toNat, by omega⟩
    rw [if_neg (by decide), wp_bd1, w_isTerm]
    refine ⟨fun ha => ?_, fun ha => ?_⟩
    · obtain ⟨a, rfl⟩ : ∃ a : Nat, a2 = a := ⟨a2.toNat, by omega⟩
      rw [if_neg (by decide), wp_bd1, w_asNow.2, wp_some, wp_bd36]
      refine w_rollOf hN hC.1 hH (now_b hka) hAu hC.2.1 (show s < 8 by omega) (show a ≤ 39 by omega) (fun ab2 fi2 gw2 cf2 cp2 C2 ga2 re2 ma2 ro2 rp2 rw2 jd2 jp2 js2 jt2 jst2 kfi2 kfp2 knx2 kwr2 rbl2 rd2 rpp2 rsh2 rto2 ral2 rde2 rfa2 rpa2 rpy2 rpu2 p1 p2 p3 => ?_)
      obtain ⟨i1, i2, i3, i4⟩ := p1
      obtain ⟨t, t1, t2, t3, t4, t5⟩ := p2
      have es : (s : Int).toNat = s := rfl
      have en := w_entry (a := a3) hN (show a ≤ 39 by omega) (wld_ok i3 (if ka = -1 then (c : Int) else ka) (-1) (-1) 0 s) t2 t4 (t5 a t2)
      show wp (gd (jb s 8) _) _
      rw [wp_gd, wp_bd1, es]
      refine ⟨jb_iff.mpr (by omega), wp_mono en (fun r hr => ?_)⟩
      subst hr
      rw [wp_some]
      refine w_rollM hN hC h1 h2 i2 (by omega) (by omega) (fun al md mf mb mk mv nw pd pt pn pl sn wo be co ft mm off pile => ?_)
      exact hQ _ _ _ _ _ _ _ _ _ _ _ _ _ _ _ _ _ _ _ _ _ _ _ _ _ _ _ _ _ _ _ _ _ _ _ _ _ _ _ _ _ _ _ _ _ _ _ _ _ _ _ _ _ _ _ i1 ⟨Int.le_refl _, fun _ => ⟨rfl, now_b hka, i4⟩⟩
    · rw [if_pos rfl]
      unfold iK_roll_b14
      rw [wp_some]
      unfold iM_roll
      rw [wp_bd1, w_M_isShire]
      refine ⟨fun _ => ?_, fun z => absurd (show (0 : Int) ≤ s ∧ (s : Int) < 8 by omega) z⟩
      rw [if_neg (by decide), wp_bd1, w_M_isTerm]
      refine ⟨fun z => absurd z ha, fun _ => ?_⟩
      rw [if_pos rfl]
      unfold iM_roll_b26
      rw [wp_some]
      exact hQ _ _ _ _ _ _ _ _ _ _ _ _ _ _ _ _ _ _ _ _ _ _ _ _ _ _ _ _ _ _ _ _ _ _ _ _ _ _ _ _ _ _ _ _ _ _ _ _ _ _ _ _ _ _ _ hH hAu
  · rw [if_pos rfl]
    unfold iK_roll_b14
    rw [wp_some]
    unfold iM_roll
    rw [wp_bd1, w_M_isShire]
    refine ⟨fun z => absurd z hs, fun _ => ?_⟩
    rw [if_pos rfl]
    unfold iM_roll_b26
    rw [wp_some]
    exact hQ _ _ _ _ _ _ _ _ _ _ _ _ _ _ _ _ _ _ _ _ _ _ _ _ _ _ _ _ _ _ _ _ _ _ _ _ _ _ _ _ _ _ _ _ _ _ _ _ _ _ _ _ _ _ _ hH hAu
