set_option maxHeartbeats 4000000
set_option maxRecDepth 100000
/-! the entries of a roll -/
theorem oS_mono {o : Nat → Int} (h : ∀ j, 0 ≤ o j) (n : Nat) : ∀ d, oS o n ≤ oS o (n + d)
  | 0 => Int.le_refl _
  | d + 1 => by
    have i := oS_mono h n d
    have z := h (n + d)
    show oS o n ≤ oS o (n + d) + o (n + d)
    omega
theorem oS_tail {o : Nat → Int} (h : ∀ j, 19 ≤ j → o j = 0) : ∀ d, oS o (19 + d) = oS o 19
  | 0 => rfl
  | d + 1 => by
    have i := oS_tail h d
    show oS o (19 + d) + o (19 + d) = _
    rw [i, h (19 + d) (by omega)]
    omega
theorem w_putK {N x : Nat} (hN : 5000 ≤ N) (hx : x ≤ 39) {pu o : Nat → Int} (hp : PO x pu o) (ho : oOk o) (hb : oS o 19 ≤ 10000000000000) : wp (iRoll_putOffAfter N x pu) (fun r => r = oS o 19) := by
  unfold iRoll_putOffAfter
  rw [wp_gd]
  refine ⟨jr_iff.mpr (by omega), ?_⟩
  unfold iRoll_putOffAfter_b8
  refine wp_zlp2 (fun (m : Nat) (x2 x4 : Int) => ∃ k : Nat, k + m = 19 ∧ x4 = ((x * 19 + k : Nat) : Int) ∧ x2 = oS o k) ?_ N 19 0 ((x : Int) * 19) (by omega) ⟨0, rfl, by omega, rfl⟩
  intro self m x2 x4 ⟨k, k1, k2, k3⟩ ih
  subst k2 k3
  have e2 : ((x * 19 + k : Nat) : Int).toNat = x * 19 + k := rfl
  have mo := oS_mono ho.1 k (19 - k)
  rw [show k + (19 - k) = 19 by omega] at mo
  have zo := oS_0 ho.1 k
  unfold iRoll_putOffAfter_b8_F
  rw [wp_gd, wp_gd, wp_ite]
  refine ⟨jr_iff.mpr (by omega), jr_iff.mpr (by omega), fun c => ?_, fun c => ?_⟩
  · rw [wp_some, show k = 19 by omega]
  · have hk : k < 19 := by omega
    have pk := hp k hk
    have m1 := oS_mono ho.1 (k + 1) (19 - (k + 1))
    rw [show k + 1 + (19 - (k + 1)) = 19 by omega] at m1
    have s1 : oS o (k + 1) = oS o k + o k := rfl
    have z1 := oS_0 ho.1 (k + 1)
    rw [wp_gd, wp_gd, wp_gd, e2, pk]
    refine ⟨jb_iff.mpr (by omega), jR_iff.mpr (by omega), jr_iff.mpr (by omega), ih (m - 1) _ _ (by omega) ⟨k + 1, by omega, by omega, s1.symm⟩⟩
theorem w_putM {N x : Nat} (hN : 5000 ≤ N) (hx : x ≤ 39) {off o : Nat → Int} (hp : OA x off o) (ho : oOk o) (hb : oS o 19 ≤ 10000000000000) : wp (iM_putOff N x off) (fun r => r = oS o 19) := by
  unfold iM_putOff
  rw [wp_gd]
  refine ⟨jr_iff.mpr (by omega), ?_⟩
  have tl : oS o (59 - x) = oS o 19 := by
    have := oS_tail ho.2 (59 - x - 19)
    rw [show 19 + (59 - x - 19) = 59 - x by omega] at this
    exact this
  unfold iM_putOff_b7
  refine wp_zlp2 (fun (m : Nat) (x2 x4 : Int) => ∃ k : Nat, k + m = 59 - x ∧ x4 = ((x + 1 + k : Nat) : Int) ∧ x2 = oS o k) ?_ N (59 - x) 0 ((x : Int) + 1) (by omega) ⟨0, by omega, by omega, rfl⟩
  intro self m x2 x4 ⟨k, k1, k2, k3⟩ ih
  subst k2 k3
  have e2 : ((x + 1 + k : Nat) : Int).toNat = x + 1 + k := rfl
  have mo := oS_mono ho.1 k (59 - x - k)
  rw [show k + (59 - x - k) = 59 - x by omega] at mo
  have zo := oS_0 ho.1 k
  unfold iM_putOff_b7_F
  rw [wp_ite]
  refine ⟨fun c => ?_, fun c => ?_⟩
  · rw [wp_some, show k = 59 - x by omega]
    exact tl
  · have pk := hp k (by omega)
    have m1 := oS_mono ho.1 (k + 1) (59 - x - (k + 1))
    rw [show k + 1 + (59 - x - (k + 1)) = 59 - x by omega] at m1
    have s1 : oS o (k + 1) = oS o k + o k := rfl
    have z1 := oS_0 ho.1 (k + 1)
    rw [wp_gd, wp_gd, wp_gd, e2, pk]
    refine ⟨jb_iff.mpr (by omega), jR_iff.mpr (by omega), jr_iff.mpr (by omega), ih (m - 1) _ _ (by omega) ⟨k + 1, by omega, by omega, s1.symm⟩⟩
/-- what a roll's entry is -/
def enV (a : Int) (R : RS) : Int := if a = 0 then R.d else if a = 1 then oS R.o 19 else if a = 2 then R.fa else if a = 3 then R.al else if a = 4 then R.pa else if a = 5 then R.pd else if a = 6 then (if 0 < R.d then 0 else if oS R.o 19 = 0 then 1 else 0) else -2000000000000
theorem w_entry {N x : Nat} (hN : 5000 ≤ N) (hx : x ≤ 39) {W : RW} (hW : W.ok) {s a : Int} {t : Nat} (hxt : x < t) {al de fa pa py pu : Nat → Int} (h1 : RlD s W t de pu) (h2 : RlE s W x al fa pa py) : wp (iRoll_entry N x a al de fa pa py pu) (fun r => r = enV a (roll s W (x + 1))) := by
  obtain ⟨d1, d2⟩ := h1 x hxt
  obtain ⟨f1, f2, f3, f4⟩ := h2
  have rok := roll_ok (sh := s) hW (show x + 1 ≤ 40 by omega)
  have ab := aB_s (roll s W (x + 1)).d
  have o19 := rok.2
  have put := w_putK hN hx d2 rok.1 (by omega)
  have ek : (x : Int).toNat = x := rfl
  unfold iRoll_entry enV
  rw [wp_bd1, w_isTerm]
  refine ⟨fun _ => ?_, fun z => absurd (show (0 : Int) ≤ x ∧ (x : Int) < 40 by omega) z⟩
  rw [if_neg (by decide), ek]
  by_cases c0 : a = 0
  · rw [if_pos c0, if_pos c0, wp_gd, wp_some]
    exact ⟨jb_iff.mpr (by omega), d1⟩
  rw [if_neg c0, if_neg c0]
  by_cases c1 : a = 1
  · rw [if_pos c1, if_pos c1, wp_bd1]
    refine wp_mono put (fun r hr => ?_)
    rw [wp_some]
    exact hr
  rw [if_neg c1, if_neg c1]
  by_cases c2 : a = 2
  · rw [if_pos c2, if_pos c2, wp_gd, wp_some]
    exact ⟨jb_iff.mpr (by omega), f1⟩
  rw [if_neg c2, if_neg c2]
  by_cases c3 : a = 3
  · rw [if_pos c3, if_pos c3, wp_gd, wp_some]
    exact ⟨jb_iff.mpr (by omega), f2⟩
  rw [if_neg c3, if_neg c3]
  by_cases c4 : a = 4
  · rw [if_pos c4, if_pos c4, wp_gd, wp_some]
    exact ⟨jb_iff.mpr (by omega), f3⟩
  rw [if_neg c4, if_neg c4]
  by_cases c5 : a = 5
  · rw [if_pos c5, if_pos c5, wp_gd, wp_some]
    exact ⟨jb_iff.mpr (by omega), f4⟩
  rw [if_neg c5, if_neg c5]
  by_cases c6 : a = 6
  · rw [if_pos c6, if_pos c6, wp_gd, d1]
    refine ⟨jb_iff.mpr (by omega), ?_⟩
    by_cases z : 0 < (roll s W (x + 1)).d
    · rw [if_pos z, if_pos z, wp_some]
    · rw [if_neg z, if_neg z, wp_bd1]
      refine wp_mono put (fun r hr => ?_)
      subst hr
      rw [wp_ite, wp_some, wp_some]
      exact ⟨fun y => (if_pos y).symm, fun y => (if_neg y).symm⟩
  · rw [if_neg c6, if_neg c6, wp_some]
/-- both sides' acts, the writs, the pence -/
def AuC (N c : Nat) (ki te sh am vb : Nat → Int) (Wf : Nat → List St) (D : DynI) (aw : Nat → Option Nat) (aK aN aS aT aV v fi ib mn se so sE sF tE pe : Nat → Int) : Prop := AOk c ki te sh am vb Wf ∧ (∀ gw, KWs (mkA c ki te sh am vb Wf gw) D aw) ∧ (∀ gw, AWr (mkA c ki te sh am vb Wf gw) aK aN aS aT aV) ∧ (∀ gw, RRw (mkA c ki te sh am vb Wf gw) v fi ib mn se so sE sF tE) ∧ ∀ n, n < 6 → pe n = jc2.getD n 0
theorem AuC_of {N c : Nat} {pay : Int} {ki te sh am vb : Nat → Int} {Wf : Nat → List St} {D : DynI} {aw : Nat → Option Nat} {aK aN aS aT aV v fi ib mn se so sE sF tE pe : Nat → Int} (h1 : IA c pay am ki sh te vb aK aN aS aT aV) (h2 : IW c ki aw D v fi ib mn se so sE sF tE Wf) (h3 : aw 0 = none) (h4 : ∀ n, n < 6 → pe n = jc2.getD n 0) : AuC N c ki te sh am vb Wf D aw aK aN aS aT aV v fi ib mn se so sE sF tE pe := by
  obtain ⟨g1, g2, g3, g4, g5⟩ := h1
  exact ⟨⟨g1, fun k a b => (g2 k a b).2, fun k a b e => (h2 k a b e).2.2⟩, fun _ => ⟨h3, fun k a b e => (h2 k a b e).1⟩, fun _ k a b => (g2 k a b).1, fun _ k a b e => (h2 k a b e).2.1, h4⟩
theorem gwM_of {N : Nat} (hN : 5000 ≤ N) {c : Nat} {ki te sh am vb : Nat → Int} {Wf : Nat → List St} {g lo lim : Int} {P W S ma gw mt pe : Nat → Int} (ok : fOk g lo P W S) (h : cM g lo lim P W S ma gw) (hm : mR lim (mF g lo P W S) mt) (hpe : ∀ n, n < 6 → pe n = jc2.getD n 0) : gwM N (mkA c ki te sh am vb Wf gw) W S mt pe := by
  intro i hi
  have e := h.2.1 mt hm i hi
  have f := h.2.2 i hi
  rw [e] at f
  by_cases z : mt i = -1
  · rw [if_pos z] at f
    exact Or.inl ⟨z, f⟩
  · rw [if_neg z] at f
    refine Or.inr ⟨z, ?_⟩
    show wp (iM_sumOf N i W S pe) (fun r => r = gw i)
    rw [f]
    exact w_M_sumOf hN ok hpe (by omega)
