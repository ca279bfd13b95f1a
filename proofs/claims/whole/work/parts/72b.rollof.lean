set_option maxHeartbeats 4000000
set_option maxRecDepth 100000
/-! the audit: a roll told -/
def AuP (c : Nat) (ki te sh am vb : Nat → Int) (Wf : Nat → List St) (n g lo lim ch : Int) (P W S : Nat → Int) (K : Int) (fi gw ma kfi kfp knx kwr rsh rto : Nat → Int) (ral rde rfa rpa rpu rpy : Nat → Nat → Int) : Prop := IH n g lo lim ch 1 P W S fi gw ma ∧ cM g lo lim P W S ma gw ∧ (mkA c ki te sh am vb Wf gw).ok ∧ AuV (mkA c ki te sh am vb Wf gw) K kfi kfp knx kwr rsh rto ral rde rfa rpa rpu rpy
/-- one roll told on -/
theorem w_tell {N : Nat} (hN : 5000 ≤ N) {A : AW} (hA : A.ok) {K : Int} {kfi kfp knx kwr rsh rto : Nat → Int} {ral rde rfa rpa rpu rpy : Nat → Nat → Int} (hV : AuV A K kfi kfp knx kwr rsh rto ral rde rfa rpa rpu rpy) {D : DynI} {aw : Nat → Option Nat} (hw : KWs A D aw) {s a : Nat} (hs : s < 8) (ha : a ≤ 39) {jd jp js jt bl d p : Int} {jst : Nat → Int} {Q : R_iRoll_goTo → Prop} (hQ : ∀ (jd2 jp2 js2 jt2 : Int) (jst2 : Nat → Int) (bl2 d2 p2 : Int) (tl2 : Nat) (al2 de2 fa2 pa2 py2 pu2 : Nat → Int), a < tl2 → tl2 ≤ 40 → RlD s (wld A K (-1) (-1) 0 s) tl2 de2 pu2 → (∀ x, x < tl2 → RlE s (wld A K (-1) (-1) 0 s) x al2 fa2 pa2 py2) → AuV A K kfi kfp knx kwr rsh (va_up rto s tl2) (va_up ral s al2) (va_up rde s de2) (va_up rfa s fa2) (va_up rpa s pa2) (va_up rpu s pu2) (va_up rpy s py2) → Q (jd2, jp2, js2, jt2, jst2, bl2, d2, p2, tl2, al2, de2, fa2, pa2, py2, pu2)) : wp (iRoll_goTo N a A.c A.am A.ki A.sh aw A.gw D jd jp js jt jst kfi kfp knx kwr bl d p (rsh s) (rto s) (ral s) (rde s) (rfa s) (rpa s) (rpy s) (rpu s)) Q := by
  obtain ⟨hK, hR⟩ := hV
  obtain ⟨e1, t, e2, t40, r1, r2⟩ := hR s hs
  rw [e1, e2]
  refine w_goTo hN ha hA hK (fun _ _ => rfl) hw t40 r1 (fun jd2 jp2 js2 jt2 jst2 bl2 d2 p2 tl2 al2 de2 fa2 pa2 py2 pu2 q1 q2 q3 q4 => ?_)
  have l1 : a < tl2 := by
    rw [q1]
    split <;> omega
  have l2 : tl2 ≤ 40 := by
    rw [q1]
    split <;> omega
  have l3 : ∀ x, x < tl2 → RlE s (wld A K (-1) (-1) 0 s) x al2 fa2 pa2 py2 := fun x hx => by
    by_cases c : t ≤ x
    · exact q3 x c hx
    · obtain ⟨y1, y2, y3, y4, y5⟩ := q4 x (by omega)
      have := r2 x (by omega)
      unfold RlE at this ⊢
      rw [y1, y3, y4, y5]
      exact this
  refine hQ _ _ _ _ _ _ _ _ tl2 _ _ _ _ _ _ l1 l2 q2 l3 ⟨hK, fun y hy => ?_⟩
  by_cases e : y = s
  · subst e
    simp only [va_up_self]
    exact ⟨e1, tl2, rfl, l2, q2, l3⟩
  · simp only [va_up_ne _ _ e]
    exact hR y hy
theorem w_rollOf {N : Nat} (hN : 5000 ≤ N) {c : Nat} {ki te sh am vb : Nat → Int} {Wf : Nat → List St} (hA : AOk c ki te sh am vb Wf) {n g lo lim ch isM : Int} {P W S ab fi gw cf cp ga re ma ro rq rw_ : Nat → Int} {C : Nat → Nat → Int} (hH : IH n g lo lim ch isM P W S fi gw ma) {K cA kA : Int} (hK : 0 ≤ K ∧ K ≤ c) {kfi kfp knx kwr rsh rto : Nat → Int} {ral rde rfa rpa rpu rpy : Nat → Nat → Int} (hAu : AuI (mkA c ki te sh am vb Wf gw) ch isM cA kA kfi kfp knx kwr rsh rto ral rde rfa rpa rpu rpy) {D : DynI} {aw : Nat → Option Nat} (hw : ∀ gw, KWs (mkA c ki te sh am vb Wf gw) D aw) {s a : Nat} (hs : s < 8) (ha : a ≤ 39) {jd jp js jt : Int} {jst rbl rd rp : Nat → Int} {Q : R_iAudit_rollOf → Prop} (hQ : ∀ (ab2 fi2 gw2 cf2 cp2 : Nat → Int) (C2 : Nat → Nat → Int) (ga2 re2 ma2 ro2 rp2 rw2 : Nat → Int) (jd2 jp2 js2 jt2 : Int) (jst2 kfi2 kfp2 knx2 kwr2 rbl2 rd2 rpp2 rsh2 rto2 : Nat → Int) (ral2 rde2 rfa2 rpa2 rpy2 rpu2 : Nat → Nat → Int), AuP c ki te sh am vb Wf n g lo lim ch P W S K fi2 gw2 ma2 kfi2 kfp2 knx2 kwr2 rsh2 rto2 ral2 rde2 rfa2 rpa2 rpu2 rpy2 → (∃ t : Nat, rto2 s = t ∧ a < t ∧ t ≤ 40 ∧ RlD s (wld (mkA c ki te sh am vb Wf gw2) K (-1) (-1) 0 s) t (rde2 s) (rpu2 s) ∧ ∀ x, x < t → RlE s (wld (mkA c ki te sh am vb Wf gw2) K (-1) (-1) 0 s) x (ral2 s) (rfa2 s) (rpa2 s) (rpy2 s)) → rsh2 s = s → Q (s, 1, ab2, fi2, gw2, cf2, cp2, C2, ga2, re2, ma2, ro2, rp2, rw2, ch, K, jd2, jp2, js2, jt2, jst2, kfi2, kfp2, knx2, kwr2, rbl2, rd2, rpp2, rsh2, rto2, ral2, rde2, rfa2, rpa2, rpy2, rpu2)) : wp (iAudit_rollOf N s a K c am ki sh te vb aw ch g isM lim lo ab fi gw cf cp C ga re ma ro rq P rw_ S W D cA kA jd jp js jt jst kfi kfp knx kwr rbl rd rp rsh rto ral rde rfa rpa rpy rpu) Q := by
  unfold iAudit_rollOf
  rw [wp_bd21]
  refine w_knowAt hN hA hH hK hAu (fun ab2 fi2 gw2 cf2 cp2 C2 ga2 re2 ma2 ro2 rp2 rw2 kfi2 kfp2 knx2 kwr2 rsh2 rto2 p1 p2 p3 p4 => ?_)
  have es : (s : Int).toNat = s := rfl
  show wp (bd1 (iK_isShire s) _) Q
  unfold iK_isShire
  rw [if_neg (by omega), if_neg (by omega), wp_bd1, wp_some, if_neg (by decide)]
  unfold iAudit_rollOf_b21
  rw [wp_gd, wp_bd15, es]
  refine ⟨jb_iff.mpr (by omega), ?_⟩
  show wp (iRoll_goTo N a (mkA c ki te sh am vb Wf gw2).c (mkA c ki te sh am vb Wf gw2).am (mkA c ki te sh am vb Wf gw2).ki (mkA c ki te sh am vb Wf gw2).sh aw (mkA c ki te sh am vb Wf gw2).gw D jd jp js jt jst kfi2 kfp2 knx2 kwr2 (rbl s) (rd s) (rp s) (rsh2 s) (rto2 s) (ral s) (rde s) (rfa s) (rpa s) (rpy s) (rpu s)) _
  refine w_tell hN p3 p4 (hw gw2) hs ha (fun jd2 jp2 js2 jt2 jst2 bl2 d2 p2 tl2 al2 de2 fa2 pa2 py2 pu2 q1 q2 q3 q4 q5 => ?_)
  rw [wp_some]
  refine hQ _ _ _ _ _ _ _ _ _ _ _ _ _ _ _ _ _ _ _ _ _ _ _ _ _ _ _ _ _ _ _ _ ⟨p1, by assumption, p3, q5⟩ ?_ (p4.2 s hs).1
  simp only [va_up_self]
  exact ⟨tl2, rfl, q1, q2, q3, q4⟩
