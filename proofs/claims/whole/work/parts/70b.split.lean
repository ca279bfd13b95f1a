set_option maxHeartbeats 4000000
set_option maxRecDepth 100000
/-! the class: splitting, paying -/
/-- behind term x the row holds what is put off -/
def PO (x : Nat) (pu o : Nat → Int) : Prop := ∀ j, j < 19 → pu (x * 19 + j) = o j
def outR (x : Nat) (pu pu2 : Nat → Int) : Prop := ∀ y, y < x * 19 ∨ x * 19 + 19 ≤ y → pu2 y = pu y
theorem w_135 {N x y3 : Nat} {o : Option Nat} {D : DynI} {paid sh x4 x5 part jd jp js jt d : Int} {jst pu : Nat → Int} {f : Nat} {K : (Nat → Int) → Option R_iRoll_splitDebt} {Q : R_iRoll_splitDebt → Prop} (hN : 5000 ≤ N) (hx : x ≤ 39) (hf : f ≤ 19) (hp : 0 ≤ part ∧ part ≤ 100000000000000) (ho : ∀ j, j < 19 → 0 ≤ pu (x * 19 + j) ∧ pu (x * 19 + j) ≤ 100000000000000) (h : wp (K (fun y => if x * 19 ≤ y ∧ y < x * 19 + f then pu y + part else pu y)) Q) : wp (iRoll_splitDebt_b135 N o x D paid sh y3 x4 x5 f part jd jp js jt jst d K N 0 pu) Q := by
  unfold iRoll_splitDebt_b135
  refine wp_zlp2 (fun (m : Nat) (x7 : Int) (u : Nat → Int) => ∃ k : Nat, k + m = f ∧ x7 = k ∧ u = fun y => if x * 19 ≤ y ∧ y < x * 19 + k then pu y + part else pu y) ?_ N f 0 pu (by omega) ⟨0, by omega, rfl, ?_⟩
  · intro self m x7 u ⟨k, k1, k3, k4⟩ ih
    subst k3 k4
    unfold iRoll_splitDebt_b135_F
    rw [wp_ite]
    refine ⟨fun c => ?_, fun c => ?_⟩
    · have : k = f := by omega
      rw [this]
      exact h
    · have ek : ((x : Int) * 19 + (k : Int)).toNat = x * 19 + k := by omega
      have ob := ho k (by omega)
      rw [wp_gd, wp_gd, wp_gd, wp_gd, wp_gd, ek]
      show _ ∧ _ ∧ _ ∧ _ ∧ jR ((if x * 19 ≤ x * 19 + k ∧ x * 19 + k < x * 19 + k then pu (x * 19 + k) + part else pu (x * 19 + k)) + part) = true ∧ wp (self _ (va_up _ (x * 19 + k) ((if x * 19 ≤ x * 19 + k ∧ x * 19 + k < x * 19 + k then pu (x * 19 + k) + part else pu (x * 19 + k)) + part))) Q
      rw [if_neg (by omega)]
      refine ⟨jr_iff.mpr (by omega), jr_iff.mpr (by omega), jb_iff.mpr (by omega), jr_iff.mpr (by omega), jR_iff.mpr (by omega), ih (m - 1) _ _ (by omega) ⟨k + 1, by omega, by omega, ?_⟩⟩
      funext y
      by_cases hy : y = x * 19 + k
      · rw [hy, va_up_self, if_pos (by omega)]
      · rw [va_up_ne _ _ hy]
        by_cases c2 : x * 19 ≤ y ∧ y < x * 19 + k
        · rw [if_pos c2, if_pos (by omega)]
        · rw [if_neg c2, if_neg (by omega)]
  · funext y
    rw [if_neg (by omega)]
theorem w_splitL {N x y1 y3 y7 : Nat} {sh p : Int} {D : DynI} {V : List St} {n4 : Int} (hN : 5000 ≤ N) (hx : x ≤ 39) (hW : wsOk V) (o1 : jOk D y1 1) (hr1 : D.2.2.2.2 y1 1 = some y7) (o3 : jOk D y3 2) (hl3 : D.2.2.1 y3 = V.length) (hS : KStm D (D.2.2.2.2 y3) V) (h7 : jOk D y7 3) (hl : D.2.2.1 y7 = (trl (cat V)).length) (hc : ∀ k, k < (trl (cat V)).length → D.2.2.2.1 y7 k = (trl (cat V)).getD k 0) (hn4 : n4 = V.length) : ∀ (B A : List St) (m : Nat) (d jd jp js jt : Int) (jst pu o : Nat → Int) (Q : R_iRoll_splitDebt → Prop), V = A ++ B → B.length < m → oOk o → PO x pu o → aB d + oS o 19 ≤ 10000000000000 → (∀ jd2 jp2 js2 jt2 jst2 pu2, PO x pu2 (runS sh x p B (d, o)).2 → outR x pu pu2 → Q (jd2, jp2, js2, jt2, jst2, (runS sh x p B (d, o)).1, pu2)) → wp (iRoll_splitDebt_b17 N (some y1) x D p sh y3 n4 m A.length jd jp js jt jst d pu) Q := by
  intro B
  induction B with
  | nil =>
    intro A m d jd jp js jt jst pu o Q hV hm ho hO hd hQ
    obtain ⟨m2, rfl⟩ : ∃ m2, m = m2 + 1 := ⟨m - 1, by have : 0 < m := hm; omega⟩
    rw [hV, List.append_nil] at hn4
    show wp (iRoll_splitDebt_b17_F N (some y1) x D p sh y3 n4 _ A.length jd jp js jt jst d pu) Q
    unfold iRoll_splitDebt_b17_F
    rw [if_pos (by omega), wp_some]
    exact hQ jd jp js jt jst pu hO (fun _ _ => rfl)
  | cons w B ih =>
    intro A m d jd jp js jt jst pu o Q hV hm ho hO hd hQ
    have hm1 : B.length + 1 < m := hm
    obtain ⟨m2, rfl⟩ : ∃ m2, m = m2 + 1 := ⟨m - 1, by omega⟩
    have hA := pre_lt hV
    have hV2 := hW.1
    have hw := hW.2.2 w (mem_mid hV)
    have hV3 : V = (A ++ [w]) ++ B := by rw [hV, List.append_assoc]; rfl
    have lA : (A ++ [w]).length = A.length + 1 := by rw [List.length_append]; rfl
    obtain ⟨y6, s1, s2, s3, s4, s5, s6, s7, s8, s9⟩ := hS A w B hV
    have ea : (A.length : Int).toNat = A.length := rfl
    have gi : ∀ j, jGI D y6 0 j = some (D.2.2.2.1 y6 j) := fun j => by
      unfold jGI
      rw [if_pos s2]
    have sb := sS_b (sh := sh) (p := p) (x := x) (s := (d, o)) hw ho
    have next : ∀ (d2 jd2 jp2 js2 jt2 : Int) (jst2 pu2 o2 : Nat → Int), (d2, o2) = sS sh x p w (d, o) → PO x pu2 o2 → outR x pu pu2 → wp (iRoll_splitDebt_b17 N (some y1) x D p sh y3 n4 m2 ((A.length : Int) + 1) jd2 jp2 js2 jt2 jst2 d2 pu2) Q := by
      intro d2 jd2 jp2 js2 jt2 jst2 pu2 o2 hs hO2 hR2
      rw [← hs] at sb
      have := ih (A ++ [w]) m2 d2 jd2 jp2 js2 jt2 jst2 pu2 o2 Q hV3 (by omega) sb.1 hO2 (by have e := sb.2; show aB (d2, o2).1 + oS (d2, o2).2 19 ≤ _; rw [e]; exact hd) (fun jd3 jp3 js3 jt3 jst3 pu3 h3 h4 => ?_)
      · rw [lA] at this
        exact this
      · have e9 : runS sh x p (w :: B) (d, o) = runS sh x p B (d2, o2) := by rw [hs]; rfl
        have h5 := hQ jd3 jp3 js3 jt3 jst3 pu3
        rw [e9] at h5
        exact h5 h3 (fun y hy => (h4 y hy).trans (hR2 y hy))
    have stay : ∀ (jd2 jp2 js2 jt2 : Int) (jst2 : Nat → Int), ¬ (w.kd = 4 ∧ 0 < d ∧ val (env sh x d p) w.t ≠ 0) → wp (iRoll_splitDebt_b17 N (some y1) x D p sh y3 n4 m2 ((A.length : Int) + 1) jd2 jp2 js2 jt2 jst2 d pu) Q := fun jd2 jp2 js2 jt2 jst2 h => next d jd2 jp2 js2 jt2 jst2 pu o (if_neg h).symm hO (fun _ _ => rfl)
    show wp (iRoll_splitDebt_b17_F N (some y1) x D p sh y3 n4 (iRoll_splitDebt_b17 N (some y1) x D p sh y3 n4 m2) A.length jd jp js jt jst d pu) Q
    unfold iRoll_splitDebt_b17_F
    have eAR : jAR D y3 A.length = some (some y6) := by
      unfold jAR
      rw [if_pos ⟨o3, jb_iff.mpr (by rw [hl3]; omega)⟩, ea, s1]
    have eGR : jGR D y1 1 1 = some (some y7) := by
      unfold jGR
      rw [if_pos o1, hr1]
    rw [if_neg (by omega), wp_bd1, eAR, wp_some, wp_bd1, wp_some, wp_bd1, gi 0, wp_some, s3]
    by_cases hk : w.kd = 4
    · rw [if_pos hk]
      by_cases hd0 : d ≤ 0
      · rw [if_pos hd0, wp_gd]
        exact ⟨jr_iff.mpr (by omega), stay _ _ _ _ _ (fun h => by have := h.2.1; omega)⟩
      · obtain ⟨f1, f2⟩ := f1_ok hw hk
        rw [if_neg hd0, wp_bd1, gi 2, wp_some, s5, if_pos (by omega), wp_bd4]
        unfold iJudge_setMoment
        rw [wp_some, clp_j, clp_j]
        show wp (bd1 (some y1) _) Q
        rw [wp_bd1, wp_some, wp_bd1, eGR, wp_some, wp_bd1, gi 5, wp_some, wp_bd1, gi 6, wp_some, wp_bd2, s8, s9]
        show wp (iJudge_valueOf N (some y7) ((trl (cat A)).length + (trl w.l).length) ((trl (cat A)).length + (trl w.l).length + (trl w.t).length) D (clp d) (clp p) sh x jst) _
        refine k_test (d := d) (p := p) hN hx hW h7 hl hc hV (fun k2 => ?_)
        show wp (if val (env sh x d p) w.t = 0 then _ else _) Q
        by_cases hv : val (env sh x d p) w.t = 0
        · rw [if_pos hv, wp_gd]
          exact ⟨jr_iff.mpr (by omega), stay _ _ _ _ _ (fun h => h.2.2 hv)⟩
        · have d0 : 0 ≤ d / w.f1 ∧ d / w.f1 ≤ d := div_le_self' (by omega) (by omega)
          have d1 : d / w.f1 * w.f1 ≤ d := Int.ediv_mul_le d (by omega)
          have e1 : d / w.f1 * (w.f1 - 1) = d / w.f1 * w.f1 - d / w.f1 := by rw [Int.mul_sub, Int.mul_one]
          have d2 : 0 ≤ d / w.f1 * w.f1 := Int.mul_nonneg d0.1 (by omega)
          have ab := aB_s d
          have o0 := oS_0 ho.1 19
          have em : jmin (w.f1 - 1) 19 = ((w.f1 - 1).toNat : Int) := by
            unfold jmin
            split <;> omega
          have em2 : ((w.f1 - 1).toNat : Int) = w.f1 - 1 := by omega
          rw [if_neg hv, wp_bd1, wp_some, wp_bd1, wp_some, wp_gd, wp_gd, wp_gd, Int.tdiv_eq_ediv_of_nonneg (show 0 ≤ d by omega), em]
          refine ⟨jn_iff.mpr (by omega), jr_iff.mpr (by omega), jR_iff.mpr (by omega), ?_⟩
          refine w_135 hN hx (by omega) ⟨d0.1, by omega⟩ (fun j hj => ?_) ?_
          · rw [hO j hj]
            have := oS_ge ho.1 hj
            exact ⟨ho.1 j, by omega⟩
          · unfold iRoll_splitDebt_b165
            rw [wp_gd, wp_gd, wp_gd, em2]
            refine ⟨jr_iff.mpr (by omega), jR_iff.mpr (by omega), jR_iff.mpr (by omega), next _ _ _ _ _ _ _ (addO o (w.f1 - 1).toNat (d / w.f1)) ?_ ?_ ?_⟩
            · have : sS sh x p w (d, o) = (d - d / w.f1 * (w.f1 - 1), addO o (w.f1 - 1).toNat (d / w.f1)) := if_pos ⟨hk, by omega, hv⟩
              rw [this]
            · intro j hj
              show (if x * 19 ≤ x * 19 + j ∧ x * 19 + j < x * 19 + (w.f1 - 1).toNat then pu (x * 19 + j) + d / w.f1 else pu (x * 19 + j)) = addO o (w.f1 - 1).toNat (d / w.f1) j
              unfold addO
              rw [hO j hj]
              by_cases c : j < (w.f1 - 1).toNat
              · rw [if_pos c, if_pos (by omega)]
              · rw [if_neg c, if_neg (by omega)]
            · intro y hy
              show (if x * 19 ≤ y ∧ y < x * 19 + (w.f1 - 1).toNat then _ else pu y) = pu y
              rw [if_neg (by omega)]
    · rw [if_neg hk, wp_gd]
      exact ⟨jr_iff.mpr (by omega), stay _ _ _ _ _ (fun h => hk h.1)⟩
theorem w_split {N x : Nat} {sh d p jd jp js jt : Int} {jst pu ov : Nat → Int} {o : Option Nat} {D : DynI} {V : List St} {Q : R_iRoll_splitDebt → Prop} (hN : 5000 ≤ N) (hx : x ≤ 39) (hW : o ≠ none → wsOk V) (hK : KOp D o V) (ho : oOk ov) (hO : PO x pu ov) (hd : aB d + oS ov 19 ≤ 10000000000000) (hQ : ∀ jd2 jp2 js2 jt2 jst2 pu2, PO x pu2 (runS sh x p V (d, ov)).2 → outR x pu pu2 → Q (jd2, jp2, js2, jt2, jst2, (runS sh x p V (d, ov)).1, pu2)) : wp (iRoll_splitDebt N o x D jd jp js jt jst d p sh pu) Q := by
  unfold iRoll_splitDebt
  rcases hK with ⟨h1, h2⟩ | ⟨y1, h1, o1, y3, y7, h2, h3, o3, l3, h4, h7, l7, h8⟩
  · subst h1 h2
    rw [wp_opn]
    refine ⟨fun _ => ?_, fun y z => by cases z⟩
    rw [wp_some]
    exact hQ jd jp js jt jst pu hO (fun _ _ => rfl)
  · subst h1
    have hw := hW (by intro z; cases z)
    rw [wp_opn]
    refine ⟨fun z => (by cases z), fun y z => ?_⟩
    cases z
    have e1 : jGR D y1 1 0 = some (some y3) := by
      unfold jGR
      rw [if_pos o1, h2]
    have e2 : jLen D y3 2 = some V.length := by
      unfold jLen
      rw [if_pos o3, l3]
    have h24 := hw.1
    rw [wp_bd1, e1, wp_some, wp_bd1, wp_some, wp_bd1, e2, wp_some, wp_gd]
    refine ⟨jr_iff.mpr (by omega), ?_⟩
    exact w_splitL hN hx hw o1 h3 o3 l3 h4 h7 l7 h8 rfl V [] N d jd jp js jt jst pu ov Q rfl (by omega) ho hO hd hQ
/-! payments: the class's lists -/
def lnk (nx : Nat → Int) : Int → List Nat → Prop
  | a, [] => a = 0
  | a, k :: L => a = k ∧ lnk nx (nx k) L
def lsum (g : Nat → Int) : List Nat → Int
  | [] => 0
  | k :: L => g k + lsum g L
abbrev isT (A : AW) (at_ wo mv mt : Int) (t k : Nat) : Prop := (A.ki k = 2 ∨ A.ki k = 3) ∧ knw A at_ wo k ∧ (if (k : Int) = mv then mt else A.te k) = t
def pSum (A : AW) (at_ wo mv mt : Int) (t : Nat) (g : Nat → Int) : Nat → Int
  | 0 => 0
  | n + 1 => pSum A at_ wo mv mt t g n + if isT A at_ wo mv mt t (n + 1) then g (n + 1) else 0
theorem pA_sum {A : AW} {at_ wo mv mt s f bl : Int} {x : Nat} : ∀ n, pA A at_ wo mv mt s x f bl n = pSum A at_ wo mv mt x (fun k => if A.sh k = s then wrt A f bl k else 0) n
  | 0 => rfl
  | n + 1 => by
    show pA A at_ wo mv mt s x f bl n + (if isP A at_ wo mv mt s x (n + 1) then wrt A f bl (n + 1) else 0) = pSum A at_ wo mv mt x _ n + (if isT A at_ wo mv mt x (n + 1) then (if A.sh (n + 1) = s then wrt A f bl (n + 1) else 0) else 0)
    rw [pA_sum n]
    by_cases c : isT A at_ wo mv mt x (n + 1)
    · rw [if_pos c]
      by_cases c2 : A.sh (n + 1) = s
      · rw [if_pos c2, if_pos ⟨c.1, c.2.1, c2, c.2.2⟩]
      · rw [if_neg c2, if_neg (fun h => c2 h.2.2.1)]
    · rw [if_neg c, if_neg (fun h => c ⟨h.1, h.2.1, h.2.2.2⟩)]
def mK (A : AW) (at_ wo kd : Int) (t : Nat) : Nat → Nat
  | 0 => 0
  | n + 1 => if A.ki (n + 1) = kd ∧ knw A at_ wo (n + 1) ∧ A.te (n + 1) = t then n + 1 else mK A at_ wo kd t n
/-- what the class knows of the acts -/
def KnOk (A : AW) (at_ wo mv mt : Int) (fi fp nx wr : Nat → Int) : Prop := (∀ t, t < 40 → wr t = (wA A at_ wo t A.c : Nat)) ∧ (∀ t, t < 40 → fi t = (mK A at_ wo 4 t A.c : Nat)) ∧ ∀ t, t < 40 → ∃ L, lnk nx (fp t) L ∧ L.length ≤ 200 ∧ (∀ j, j ∈ L → (1 ≤ j ∧ j ≤ A.c) ∧ (A.ki j = 2 ∨ A.ki j = 3)) ∧ ∀ g, lsum g L = pSum A at_ wo mv mt t g A.c
theorem mK_s (A : AW) (at_ wo kd : Int) (t : Nat) : ∀ n, mK A at_ wo kd t n ≤ n ∧ (mK A at_ wo kd t n ≠ 0 → A.ki (mK A at_ wo kd t n) = kd ∧ knw A at_ wo (mK A at_ wo kd t n) ∧ A.te (mK A at_ wo kd t n) = t) ∧ ∀ j, 1 ≤ j → j ≤ n → (A.ki j = kd ∧ knw A at_ wo j ∧ A.te j = t) → j ≤ mK A at_ wo kd t n
  | 0 => ⟨Nat.le_refl 0, fun h => absurd rfl h, fun j h1 h2 => by omega⟩
  | n + 1 => by
    obtain ⟨i1, i2, i3⟩ := mK_s A at_ wo kd t n
    by_cases c : A.ki (n + 1) = kd ∧ knw A at_ wo (n + 1) ∧ A.te (n + 1) = t
    · have e : mK A at_ wo kd t (n + 1) = n + 1 := if_pos c
      rw [e]
      exact ⟨Nat.le_refl _, fun _ => c, fun j _ h _ => h⟩
    · have e : mK A at_ wo kd t (n + 1) = mK A at_ wo kd t n := if_neg c
      rw [e]
      refine ⟨by omega, i2, fun j h1 h2 h3 => ?_⟩
      by_cases ej : j = n + 1
      · rw [ej] at h3
        exact absurd h3 c
      · exact i3 j h1 (by omega) h3
theorem fA_mK (A : AW) (at_ wo : Int) (t : Nat) : ∀ n, fA A at_ wo t n = if mK A at_ wo 4 t n = 0 then 0 else A.am (mK A at_ wo 4 t n)
  | 0 => rfl
  | n + 1 => by
    by_cases c : A.ki (n + 1) = 4 ∧ knw A at_ wo (n + 1) ∧ A.te (n + 1) = t
    · have e : mK A at_ wo 4 t (n + 1) = n + 1 := if_pos c
      have e2 : fA A at_ wo t (n + 1) = A.am (n + 1) := if_pos c
      rw [e, e2, if_neg (by omega)]
    · have e : mK A at_ wo 4 t (n + 1) = mK A at_ wo 4 t n := if_neg c
      have e2 : fA A at_ wo t (n + 1) = fA A at_ wo t n := if_neg c
      rw [e, e2]
      exact fA_mK A at_ wo t n
/-- the writ in force: of the term itself, or as at the term before -/
theorem wA_fill (A : AW) (at_ wo : Int) (t : Nat) : ∀ n, wA A at_ wo (t + 1) n = if mK A at_ wo 1 (t + 1) n = 0 then wA A at_ wo t n else mK A at_ wo 1 (t + 1) n
  | 0 => rfl
  | n + 1 => by
    have ih := wA_fill A at_ wo t n
    have wt := wA_s A at_ wo t n
    have wt1 := wA_s A at_ wo (t + 1) n
    have mt := mK_s A at_ wo 1 (t + 1) n
    by_cases c1 : A.ki (n + 1) = 1 ∧ knw A at_ wo (n + 1)
    · by_cases c2 : A.te (n + 1) = ((t + 1 : Nat) : Int)
      · have e : mK A at_ wo 1 (t + 1) (n + 1) = n + 1 := if_pos ⟨c1.1, c1.2, c2⟩
        have e2 : wA A at_ wo (t + 1) (n + 1) = n + 1 := if_pos ⟨c1.1, c1.2, by omega, by
          by_cases z : wA A at_ wo (t + 1) n = 0
          · exact Or.inl z
          · have := (wt1.2 z).2.2
            exact Or.inr (by omega)⟩
        rw [e, e2, if_neg (by omega)]
      · have e : mK A at_ wo 1 (t + 1) (n + 1) = mK A at_ wo 1 (t + 1) n := if_neg (fun h => c2 h.2.2)
        rw [e]
        by_cases c3 : A.te (n + 1) ≤ (t : Int)
        · by_cases z : mK A at_ wo 1 (t + 1) n = 0
          · rw [if_pos z] at ih ⊢
            show (if _ then _ else _) = (if _ then _ else _)
            rw [ih]
            by_cases c4 : wA A at_ wo t n = 0 ∨ A.te (wA A at_ wo t n) ≤ A.te (n + 1)
            · rw [if_pos ⟨c1.1, c1.2, by omega, c4⟩, if_pos ⟨c1.1, c1.2, c3, c4⟩]
            · rw [if_neg (fun h => c4 h.2.2.2), if_neg (fun h => c4 h.2.2.2)]
          · rw [if_neg z] at ih ⊢
            have mz := mt.2.1 z
            have e2 : wA A at_ wo (t + 1) (n + 1) = wA A at_ wo (t + 1) n := if_neg (fun h => by
              rcases h.2.2.2 with g | g
              · omega
              · rw [ih, mz.2.2] at g
                omega)
            rw [e2]
            exact ih
        · have e2 : wA A at_ wo (t + 1) (n + 1) = wA A at_ wo (t + 1) n := if_neg (fun h => by have := h.2.2.1; omega)
          have e3 : wA A at_ wo t (n + 1) = wA A at_ wo t n := if_neg (fun h => c3 h.2.2.1)
          rw [e2, e3]
          exact ih
    · have e : mK A at_ wo 1 (t + 1) (n + 1) = mK A at_ wo 1 (t + 1) n := if_neg (fun h => c1 ⟨h.1, h.2.1⟩)
      have e2 : wA A at_ wo (t + 1) (n + 1) = wA A at_ wo (t + 1) n := if_neg (fun h => c1 ⟨h.1, h.2.1⟩)
      have e3 : wA A at_ wo t (n + 1) = wA A at_ wo t n := if_neg (fun h => c1 ⟨h.1, h.2.1⟩)
      rw [e, e2, e3]
      exact ih
theorem wA_zero (A : AW) (hA : A.ok) (at_ wo : Int) : ∀ n, n ≤ A.c → wA A at_ wo 0 n = mK A at_ wo 1 0 n
  | 0, _ => rfl
  | n + 1, hn => by
    have ih := wA_zero A hA at_ wo n (by omega)
    have w0 := wA_s A at_ wo 0 n
    have o := (hA.2.1 (n + 1) (by omega) hn).2.1
    by_cases c : A.ki (n + 1) = 1 ∧ knw A at_ wo (n + 1) ∧ A.te (n + 1) = ((0 : Nat) : Int)
    · have e : mK A at_ wo 1 0 (n + 1) = n + 1 := if_pos c
      have e2 : wA A at_ wo 0 (n + 1) = n + 1 := if_pos ⟨c.1, c.2.1, by omega, by
        by_cases z : wA A at_ wo 0 n = 0
        · exact Or.inl z
        · have := (w0.2 z).2.2
          exact Or.inr (by omega)⟩
      rw [e, e2]
    · have e : mK A at_ wo 1 0 (n + 1) = mK A at_ wo 1 0 n := if_neg c
      have e2 : wA A at_ wo 0 (n + 1) = wA A at_ wo 0 n := if_neg (fun h => c ⟨h.1, h.2.1, by have := h.2.2.1; omega⟩)
      rw [e, e2]
      exact ih
