set_option maxHeartbeats 4000000
set_option maxRecDepth 100000
/-! the audit: known at an act -/
def RoOk (A : AW) (K : Int) (s : Nat) (sh to : Int) (al de fa pa pu py : Nat → Int) : Prop := sh = s ∧ ∃ t : Nat, to = t ∧ t ≤ 40 ∧ RlD s (wld A K (-1) (-1) 0 s) t de pu ∧ ∀ x, x < t → RlE s (wld A K (-1) (-1) 0 s) x al fa pa py
def AuV (A : AW) (K : Int) (kfi kfp knx kwr rsh rto : Nat → Int) (ral rde rfa rpa rpu rpy : Nat → Nat → Int) : Prop := KnOk A K (-1) (-1) 0 kfi kfp knx kwr ∧ ∀ s, s < 8 → RoOk A K s (rsh s) (rto s) (ral s) (rde s) (rfa s) (rpa s) (rpu s) (rpy s)
/-- the audit's state: what it holds is so for the acts and the chest as they are, if the chest has not changed since -/
def AuI (A : AW) (ch isM cA kA : Int) (kfi kfp knx kwr rsh rto : Nat → Int) (ral rde rfa rpa rpu rpy : Nat → Nat → Int) : Prop := cA ≤ ch ∧ (cA = ch → isM = 1 ∧ (0 ≤ kA ∧ kA ≤ A.c) ∧ AuV A kA kfi kfp knx kwr rsh rto ral rde rfa rpa rpu rpy)
def mkA (c : Nat) (ki te sh am vb : Nat → Int) (Wf : Nat → List St) (gw : Nat → Int) : AW := (c, ki, te, sh, am, vb, Wf, gw)
/-- acts alone: what AW.ok asks but of the chest -/
def AOk (c : Nat) (ki te sh am vb : Nat → Int) (Wf : Nat → List St) : Prop := c ≤ 200 ∧ (∀ k, 1 ≤ k → k ≤ c → aOk c am ki sh te vb k) ∧ ∀ k, 1 ≤ k → k ≤ c → ki k = 1 → wsOk (Wf k)
theorem gw_b {g lo lim : Int} {P W S ma gw : Nat → Int} (ok : fOk g lo P W S) (h : cM g lo lim P W S ma gw) {i : Nat} (hi : i < 10) : 0 ≤ gw i ∧ gw i ≤ 3000000 := by
  rw [h.2.2 i hi]
  split
  · omega
  · have s := ok.2.2.1 i (by omega)
    have b := sW_b ok (show i < 20 by omega) (S i).toNat (by omega)
    have e : (((S i).toNat : Nat) : Int) = S i := by omega
    rw [e] at b
    omega
theorem mkA_ok {c : Nat} {ki te sh am vb : Nat → Int} {Wf : Nat → List St} {g lo lim : Int} {P W S ma gw : Nat → Int} (hA : AOk c ki te sh am vb Wf) (ok : fOk g lo P W S) (h : cM g lo lim P W S ma gw) : (mkA c ki te sh am vb Wf gw).ok := ⟨hA.1, hA.2.1, hA.2.2, fun _ hi => gw_b ok h hi⟩
theorem w_knowAt {N : Nat} (hN : 5000 ≤ N) {c : Nat} {ki te sh am vb : Nat → Int} {Wf : Nat → List St} (hA : AOk c ki te sh am vb Wf) {n g lo lim ch isM : Int} {P W S ab fi gw cf cp ga re ma ro rp rw_ : Nat → Int} {C : Nat → Nat → Int} (hH : IH n g lo lim ch isM P W S fi gw ma) {K cA kA : Int} (hK : 0 ≤ K ∧ K ≤ c) {kfi kfp knx kwr rsh rto : Nat → Int} {ral rde rfa rpa rpu rpy : Nat → Nat → Int} (hAu : AuI (mkA c ki te sh am vb Wf gw) ch isM cA kA kfi kfp knx kwr rsh rto ral rde rfa rpa rpu rpy) {Q : R_iAudit_knowAt → Prop} (hQ : ∀ (ab2 fi2 gw2 cf2 cp2 : Nat → Int) (C2 : Nat → Nat → Int) (ga2 re2 ma2 ro2 rp2 rw2 kfi2 kfp2 knx2 kwr2 rsh2 rto2 : Nat → Int), IH n g lo lim ch 1 P W S fi2 gw2 ma2 → cM g lo lim P W S ma2 gw2 → (mkA c ki te sh am vb Wf gw2).ok → AuV (mkA c ki te sh am vb Wf gw2) K kfi2 kfp2 knx2 kwr2 rsh2 rto2 ral rde rfa rpa rpu rpy → Q (1, ab2, fi2, gw2, cf2, cp2, C2, ga2, re2, ma2, ro2, rp2, rw2, ch, K, kfi2, kfp2, knx2, kwr2, rsh2, rto2)) : wp (iAudit_knowAt N K c ki te vb ch g isM lim lo ab fi gw cf cp C ga re ma ro rp P rw_ S W cA kA kfi kfp knx kwr rsh rto) Q := by
  obtain ⟨h1, h2, h3, h4, h5, h6⟩ := hH
  have b23 : wp (iAudit_knowAt_b23 N K c ki te vb ch g lim lo P S W isM ab fi gw cf cp C ga re ma ro rp rw_ cA kA kfi kfp knx kwr rsh rto) Q := by
    unfold iAudit_knowAt_b23
    rw [wp_bd13]
    refine wp_mono (w_matchAll hN h1 h2 h3 h4) (fun r ⟨⟨r1, r2, r3⟩, _⟩ => ?_)
    obtain ⟨i2, ab2, fi2, gw2, cf2, cp2, C2, ga2, re2, ma2, ro2, rp2, rw2⟩ := r
    change i2 = 1 at r1
    subst r1
    change cFit g lo P W S fi2 at r2
    change cM g lo lim P W S ma2 gw2 at r3
    have ok := mkA_ok hA h1 r3
    show wp (bd1 (iChest_changeCount ch) _) Q
    unfold iChest_changeCount
    rw [wp_bd1, wp_some, wp_bd4]
    show wp (iKnown_setAt N K (-1) (mkA c ki te sh am vb Wf gw2).c (mkA c ki te sh am vb Wf gw2).ki (mkA c ki te sh am vb Wf gw2).te (mkA c ki te sh am vb Wf gw2).vb kfi kfp knx kwr) _
    refine w_setAt hN ok hK.1 (fun kfi2 kfp2 knx2 kwr2 hKn => ?_)
    show wp (iAudit_knowAt_b57 N K c ki te vb ch g lim lo P S W 1 ab2 fi2 gw2 cf2 cp2 C2 ga2 re2 ma2 ro2 rp2 rw2 ch K kfi2 kfp2 knx2 kwr2 N 0 rsh rto) Q
    unfold iAudit_knowAt_b57
    refine wp_zlp3 (fun (m : Nat) (x2 : Int) (rs rt : Nat → Int) => ∃ s : Nat, s + m = 8 ∧ x2 = s ∧ ∀ y, y < s → rs y = (y : Int) ∧ rt y = 0) ?_ N 8 0 rsh rto (by omega) ⟨0, rfl, rfl, fun y hy => absurd hy (Nat.not_lt_zero y)⟩
    intro self m x2 rs rt ⟨s, s1, s2, s3⟩ ih
    subst s2
    have es : (s : Int).toNat = s := rfl
    unfold iAudit_knowAt_b57_F
    rw [wp_ite]
    refine ⟨fun c8 => ?_, fun c8 => ?_⟩
    · rw [wp_some]
      refine hQ _ _ _ _ _ _ _ _ _ _ _ _ _ _ _ _ _ _ ⟨h1, h2, r2, Or.inr ⟨rfl, r3⟩, h5, h6⟩ r3 ok ⟨hKn, fun y hy => ?_⟩
      obtain ⟨y1, y2⟩ := s3 y (by omega)
      exact ⟨y1, 0, y2, by omega, fun x hx => absurd hx (Nat.not_lt_zero x), fun x hx => absurd hx (Nat.not_lt_zero x)⟩
    · rw [wp_gd, wp_bd2]
      unfold iRoll_begin
      rw [wp_some, wp_gd, es]
      refine ⟨jb_iff.mpr (by omega), jr_iff.mpr (by omega), ih (m - 1) _ _ _ (by omega) ⟨s + 1, by omega, by omega, fun y hy => ?_⟩⟩
      by_cases e : y = s
      · rw [e, va_up_self, va_up_self]
        exact ⟨rfl, rfl⟩
      · rw [va_up_ne _ _ e, va_up_ne _ _ e]
        exact s3 y (by omega)
  unfold iAudit_knowAt
  rw [wp_ite]
  refine ⟨fun ek => ?_, fun _ => b23⟩
  unfold iChest_changeCount at *
  rw [wp_bd1, wp_some, wp_ite]
  refine ⟨fun ec => ?_, fun _ => b23⟩
  obtain ⟨a1, a2, a3⟩ := hAu.2 ec
  subst a1
  have m := h4.resolve_left (by decide)
  rw [ec, ek, wp_some]
  rw [ek] at a3
  exact hQ _ _ _ _ _ _ _ _ _ _ _ _ _ _ _ _ _ _ ⟨h1, h2, h3, h4, h5, h6⟩ m.2 (mkA_ok hA h1 m.2) a3
