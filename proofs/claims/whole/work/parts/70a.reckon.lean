set_option maxHeartbeats 4000000
set_option maxRecDepth 100000
/-! the class: one writ's statements of one kind -/
theorem kseg_t {D : DynI} {y7 : Nat} {V A B : List St} {w : St} (h : ∀ k, k < (trl (cat V)).length → D.2.2.2.1 y7 k = (trl (cat V)).getD k 0) (e : V = A ++ w :: B) : cAt (D.2.2.2.1 y7) ((trl (cat A)).length + (trl w.l).length) (trl w.t) := by
  rw [e, cat_mid, trl_app, trl_app (cat A) w.l, trl_app w.t (cat B)] at h
  have h2 : ∀ j, j < (trl (cat A) ++ trl w.l ++ (trl w.t ++ trl (cat B))).length → D.2.2.2.1 y7 (0 + j) = (trl (cat A) ++ trl w.l ++ (trl w.t ++ trl (cat B))).getD j 0 := fun j hj => by
    rw [Nat.zero_add]
    exact h j hj
  have := cAt_seg h2
  rw [Nat.zero_add, List.length_append] at this
  exact this
theorem kseg_l {D : DynI} {y7 : Nat} {V A B : List St} {w : St} (h : ∀ k, k < (trl (cat V)).length → D.2.2.2.1 y7 k = (trl (cat V)).getD k 0) (e : V = A ++ w :: B) : cAt (D.2.2.2.1 y7) (trl (cat A)).length (trl w.l) := by
  rw [e, cat_mid2, trl_app, trl_app w.l, trl_app w.t (cat B)] at h
  have h2 : ∀ j, j < (trl (cat A) ++ (trl w.l ++ (trl w.t ++ trl (cat B)))).length → D.2.2.2.1 y7 (0 + j) = (trl (cat A) ++ (trl w.l ++ (trl w.t ++ trl (cat B)))).getD j 0 := fun j hj => by
    rw [Nat.zero_add]
    exact h j hj
  have := cAt_seg h2
  rw [Nat.zero_add] at this
  exact this
theorem kseg_n {V A B : List St} {w : St} (e : V = A ++ w :: B) : (trl (cat A)).length + (trl w.l).length + (trl w.t).length ≤ (trl (cat V)).length := by
  rw [e, cat_mid, trl_app, trl_app (cat A) w.l, trl_app w.t (cat B), List.length_append, List.length_append, List.length_append]
  omega
theorem k_test {N x y7 : Nat} {D : DynI} {V A B : List St} {w : St} {sh d p : Int} {stack : Nat → Int} {Q : R_iJudge_valueOf → Prop} (hN : 5000 ≤ N) (hx : x ≤ 39) (hW : wsOk V) (h7 : jOk D y7 3) (hl : D.2.2.1 y7 = (trl (cat V)).length) (hc : ∀ k, k < (trl (cat V)).length → D.2.2.2.1 y7 k = (trl (cat V)).getD k 0) (e : V = A ++ w :: B) (hQ : ∀ k2, Q (val (env sh x d p) w.t, k2)) : wp (iJudge_valueOf N (some y7) ((trl (cat A)).length + (trl w.l).length) ((trl (cat A)).length + (trl w.l).length + (trl w.t).length) D (clp d) (clp p) sh x stack) Q := by
  have kn := kseg_n e
  have w2 := hW.2.1
  have ev := (hW.2.2 w (mem_mid e)).2
  have vv := val_v (E := env sh x d p) ev (env_ok hx)
  exact w_valK (p := (trl (cat A)).length + (trl w.l).length) hN h7 hl w2 (by omega) (kseg_t hc e) rfl (by omega) (vv.2.2 (by omega)) hQ
theorem k_sum {N x y7 : Nat} {D : DynI} {V A B : List St} {w : St} {sh d p : Int} {stack : Nat → Int} {Q : R_iJudge_valueOf → Prop} (hN : 5000 ≤ N) (hx : x ≤ 39) (hW : wsOk V) (hk : w.kd = 1 ∨ w.kd = 2) (h7 : jOk D y7 3) (hl : D.2.2.1 y7 = (trl (cat V)).length) (hc : ∀ k, k < (trl (cat V)).length → D.2.2.2.1 y7 k = (trl (cat V)).getD k 0) (e : V = A ++ w :: B) (hQ : ∀ k2, Q (val (env sh x d p) w.l, k2)) : wp (iJudge_valueOf N (some y7) (trl (cat A)).length ((trl (cat A)).length + (trl w.l).length) D (clp d) (clp p) sh x stack) Q := by
  have kn := kseg_n e
  have w2 := hW.2.1
  have ev : EvS w.l 21 := by
    rcases (hW.2.2 w (mem_mid e)).1 with g | g | g | g
    · exact g.2.2.2.2
    · exact g.2.2.2.2
    · omega
    · omega
  have vv := val_v (E := env sh x d p) ev (env_ok hx)
  exact w_valK (p := (trl (cat A)).length) hN h7 hl w2 (by omega) (kseg_l hc e) rfl (by omega) (vv.2.2 (by omega)) hQ
/-- the writ of a term, in the class -/
def KOp (D : DynI) (o : Option Nat) (V : List St) : Prop := (o = none ∧ V = []) ∨ ∃ w, o = some w ∧ KWr D w V
theorem w_reckL {N x y1 y3 y7 : Nat} {k sh : Int} {D : DynI} {V : List St} {n4 : Int} (hN : 5000 ≤ N) (hx : x ≤ 39) (hk3 : k = 1 ∨ k = 2 ∨ k = 3) (hW : wsOk V) (o1 : jOk D y1 1) (hr1 : D.2.2.2.2 y1 1 = some y7) (o3 : jOk D y3 2) (hl3 : D.2.2.1 y3 = V.length) (hS : KStm D (D.2.2.2.2 y3) V) (h7 : jOk D y7 3) (hl : D.2.2.1 y7 = (trl (cat V)).length) (hc : ∀ k, k < (trl (cat V)).length → D.2.2.2.1 y7 k = (trl (cat V)).getD k 0) (hn4 : n4 = V.length) : ∀ (B A : List St) (m : Nat) (M P t bl d jd jp js jt : Int) (jst : Nat → Int) (Q : R_iRoll_reckon → Prop), V = A ++ B → B.length < m → bB d M → 0 ≤ M → (0 ≤ t ∧ t ≤ P) → (bl = 0 ∨ bl = 1) → M + 1000000000 * B.length ≤ 1000000000000000 → P + 1000001000000000 * B.length ≤ 100000000000000000 → (∀ jd2 jp2 js2 jt2 jst2, Q ((runK k sh x B (d, t, bl)).2.1, jd2, jp2, js2, jt2, jst2, (runK k sh x B (d, t, bl)).2.2, (runK k sh x B (d, t, bl)).1)) → wp (iRoll_reckon_b23 N (some y1) x k D 0 sh y3 n4 m t A.length jd jp js jt jst bl d) Q := by
  intro B
  induction B with
  | nil =>
    intro A m M P t bl d jd jp js jt jst Q hV hm hd h0 ht hbl hM hP hQ
    obtain ⟨m2, rfl⟩ : ∃ m2, m = m2 + 1 := ⟨m - 1, by have : 0 < m := hm; omega⟩
    rw [hV, List.append_nil] at hn4
    show wp (iRoll_reckon_b23_F N (some y1) x k D 0 sh y3 n4 _ t A.length jd jp js jt jst bl d) Q
    unfold iRoll_reckon_b23_F
    rw [if_pos (by omega), wp_some]
    exact hQ jd jp js jt jst
  | cons w B ih =>
    intro A m M P t bl d jd jp js jt jst Q hV hm hd h0 ht hbl hM hP hQ
    have hm1 : B.length + 1 < m := hm
    obtain ⟨m2, rfl⟩ : ∃ m2, m = m2 + 1 := ⟨m - 1, by omega⟩
    have hlB : ((w :: B).length : Int) = (B.length : Int) + 1 := rfl
    rw [hlB] at hM hP
    have hA := pre_lt hV
    have hV2 := hW.1
    have hw := hW.2.2 w (mem_mid hV)
    have hV3 : V = (A ++ [w]) ++ B := by rw [hV, List.append_assoc]; rfl
    have lA : (A ++ [w]).length = A.length + 1 := by rw [List.length_append]; rfl
    obtain ⟨y6, s1, s2, s3, s4, s5, s6, s7, s8, s9⟩ := hS A w B hV
    have ea : (A.length : Int).toNat = A.length := rfl
    have gi : ∀ j, jGI D y6 0 j = some (D.2.2.2.1 y6 j) := fun j => by
      unfold jGI
      rw [if_pos s2]
    have b1 := sK_b (k := k) (sh := sh) (x := x) (w := w) (s := (d, t, bl)) hx hk3 hw hd
    have b2 := sK_t (k := k) (sh := sh) (x := x) (w := w) (s := (d, t, bl)) hx hk3 hw hd h0 ht hbl
    have next : ∀ (z : Int × Int × Int) (jd2 jp2 js2 jt2 : Int) (jst2 : Nat → Int), z = sK k sh x w (d, t, bl) → wp (iRoll_reckon_b23 N (some y1) x k D 0 sh y3 n4 m2 z.2.1 ((A.length : Int) + 1) jd2 jp2 js2 jt2 jst2 z.2.2 z.1) Q := by
      intro z jd2 jp2 js2 jt2 jst2 hs
      rw [← hs] at b1 b2
      have := ih (A ++ [w]) m2 (M + 1000000000) (P + M + 1000000000) z.2.1 z.2.2 z.1 jd2 jp2 js2 jt2 jst2 Q hV3 (by omega) b1 (by omega) b2.1 b2.2 (by omega) (by omega) (fun jd3 jp3 js3 jt3 jst3 => ?_)
      · rw [lA] at this
        exact this
      · have h2 := hQ jd3 jp3 js3 jt3 jst3
        have e9 : runK k sh x (w :: B) (d, t, bl) = runK k sh x B z := by rw [hs]; rfl
        rw [e9] at h2
        exact h2
    show wp (iRoll_reckon_b23_F N (some y1) x k D 0 sh y3 n4 (iRoll_reckon_b23 N (some y1) x k D 0 sh y3 n4 m2) t A.length jd jp js jt jst bl d) Q
    unfold iRoll_reckon_b23_F
    have eAR : jAR D y3 A.length = some (some y6) := by
      unfold jAR
      rw [if_pos ⟨o3, jb_iff.mpr (by rw [hl3]; omega)⟩, ea, s1]
    have eGR : jGR D y1 1 1 = some (some y7) := by
      unfold jGR
      rw [if_pos o1, hr1]
    rw [if_neg (by omega), wp_bd1, eAR, wp_some, wp_bd1, wp_some, wp_bd1, gi 0, wp_some, s3]
    by_cases hk : w.kd = k
    · rw [if_pos hk, wp_bd4]
      unfold iJudge_setMoment
      rw [wp_some, clp_j, clp_j]
      show wp (bd1 (some y1) _) Q
      rw [wp_bd1, wp_some, wp_bd1, eGR, wp_some, wp_bd1, gi 5, wp_some, wp_bd1, gi 6, wp_some, wp_bd2, s8, s9]
      show wp (iJudge_valueOf N (some y7) ((trl (cat A)).length + (trl w.l).length) ((trl (cat A)).length + (trl w.l).length + (trl w.t).length) D (clp d) (clp 0) sh x jst) _
      refine k_test (d := d) (p := 0) hN hx hW h7 hl hc hV (fun k2 => ?_)
      show wp (if val (env sh x d 0) w.t = 0 then _ else _) Q
      by_cases hv : val (env sh x d 0) w.t = 0
      · rw [if_pos hv, wp_gd]
        exact ⟨jr_iff.mpr (by omega), next (d, t, bl) _ _ _ _ _ (sK_z hv).symm⟩
      · rw [if_neg hv]
        have sy := sK_y (k := k) (sh := sh) (x := x) (w := w) (s := (d, t, bl)) hk hv
        have ab := amt_b (sh := sh) (d := d) hx hk3 hw hk
        rw [sy] at b2
        obtain ⟨d1, d2⟩ := hd
        have amb : 0 ≤ amt k sh x w d ∧ amt k sh x w d ≤ M + 1000000000 := by
          by_cases h3 : k = 3
          · have := ab.2 h3
            omega
          · have := ab.1 h3
            omega
        have b134 : ∀ (s0 jd2 jp2 js2 jt2 : Int) (jst2 : Nat → Int), s0 = amt k sh x w d → wp (iRoll_reckon_b134 N (some y1) x k D 0 sh (iRoll_reckon_b23 N (some y1) x k D 0 sh y3 n4 m2) t y3 n4 A.length y6 s0 jd2 jp2 js2 jt2 jst2 bl d) Q := by
          intro s0 jd2 jp2 js2 jt2 jst2 hs0
          subst hs0
          have b161 : ∀ u : Int, u = (if k = 1 then amt k sh x w d else -amt k sh x w d) → wp (iRoll_reckon_b161 N (some y1) x k D 0 sh (iRoll_reckon_b23 N (some y1) x k D 0 sh y3 n4 m2) (t + amt k sh x w d) y3 n4 A.length y6 d u jd2 jp2 js2 jt2 jst2 bl d) Q := by
            intro u hu
            have hdu : (if k = 1 then d + amt k sh x w d else d - amt k sh x w d) = d + u := by
              rw [hu]
              split <;> omega
            have ub : -(M + 1000000000) ≤ u ∧ u ≤ M + 1000000000 := by
              rw [hu]
              split <;> omega
            have fin : ∀ b : Int, b = (if bl = 0 then w.bl else bl) → wp (iRoll_reckon_b186 N (some y1) x k D 0 sh (iRoll_reckon_b23 N (some y1) x k D 0 sh y3 n4 m2) (t + amt k sh x w d) y3 n4 A.length b jd2 jp2 js2 jt2 jst2 bl (d + u)) Q := fun b hb => by
              unfold iRoll_reckon_b186
              rw [wp_gd, wp_gd]
              have b3 := b2.2
              have b4 : b = 0 ∨ b = 1 := by rw [hb]; exact b3
              exact ⟨jB_iff.mpr b4, jr_iff.mpr (by omega), next (d + u, t + amt k sh x w d, b) jd2 jp2 js2 jt2 jst2 (by rw [sy, ← hdu, hb])⟩
            unfold iRoll_reckon_b161
            by_cases hb0 : bl = 0
            · rw [if_pos hb0, wp_bd1, gi 1, wp_some, s4]
              by_cases hw0 : w.bl = 0
              · rw [if_pos hw0, wp_gd]
                exact ⟨jR_iff.mpr (by omega), fin 0 (by rw [if_pos hb0, hw0])⟩
              · rw [if_neg hw0, wp_gd]
                exact ⟨jR_iff.mpr (by omega), fin 1 (by
                  rw [if_pos hb0]
                  rcases hw.1 with g | g | g | g <;> omega)⟩
            · rw [if_neg hb0, wp_gd]
              exact ⟨jR_iff.mpr (by omega), fin 1 (by rw [if_neg hb0]; omega)⟩
          unfold iRoll_reckon_b134
          by_cases h1 : k = 1
          · rw [if_pos h1, wp_gd]
            exact ⟨jR_iff.mpr (by omega), b161 _ (by rw [if_pos h1])⟩
          · rw [if_neg h1, wp_gd, wp_gd]
            exact ⟨jR_iff.mpr (by omega), jR_iff.mpr (by omega), b161 _ (by rw [if_neg h1])⟩
        by_cases h3 : k = 3
        · rw [if_pos h3, wp_bd1]
          have f : 1 ≤ w.f1 ∧ w.f1 ≤ w.f2 ∧ w.f2 ≤ 999 := by
            rcases hw.1 with g | g | g | g
            · omega
            · omega
            · exact g.2.2.1
            · omega
          have pd : iRoll_pardoned (some y6) D d = some (amt k sh x w d) := by
            unfold iRoll_pardoned iRoll_pardoned_b21 amt
            rw [if_pos h3]
            by_cases hd0 : d ≤ 0
            · rw [if_pos hd0, if_pos hd0, if_pos rfl]
            · have m0 : 0 ≤ d * w.f1 := Int.mul_nonneg (by omega) (by omega)
              have m1 : d * w.f1 ≤ d * 999 := Int.mul_le_mul_of_nonneg_left (by omega) (by omega)
              obtain ⟨q1, q2⟩ := div_le_self' (a := d * w.f1) (b := w.f2) m0 (by omega)
              rw [if_neg hd0, if_neg hd0]
              show (bd1 (jGI D y6 0 3) fun d2 => if d2 ≤ 0 then _ else _) = _
              rw [gi 3, s6]
              show (if w.f2 ≤ 0 then _ else _) = _
              rw [if_neg (by omega), if_neg (by decide)]
              show (bd1 (jGI D y6 0 2) fun d4 => bd1 (jGI D y6 0 3) fun d5 => _) = _
              rw [gi 2, s5]
              show (bd1 (jGI D y6 0 3) fun d5 => _) = _
              rw [gi 3, s6]
              show gd (jn w.f2) (gd (jR (d * w.f1)) (gd (jR ((d * w.f1).tdiv w.f2)) (some ((d * w.f1).tdiv w.f2)))) = _
              rw [Int.tdiv_eq_ediv_of_nonneg m0, gd, if_pos (jn_iff.mpr (by omega)), gd, if_pos (jR_iff.mpr (by omega)), gd, if_pos (jR_iff.mpr (by omega))]
          rw [pd, wp_some]
          exact b134 _ _ _ _ _ _ rfl
        · rw [if_neg h3, wp_bd1, wp_some, wp_bd1, gi 4, wp_some, wp_bd1, wp_some, wp_bd2, s7]
          show wp (iJudge_valueOf N (some y7) (trl (cat A)).length ((trl (cat A)).length + (trl w.l).length) D (clp d) (clp 0) sh x _) _
          refine k_sum (d := d) (p := 0) hN hx hW (by omega) h7 hl hc hV (fun k3 => ?_)
          refine b134 _ _ _ _ _ _ ?_
          show jmax 0 (val (env sh x d 0) w.l) = amt k sh x w d
          unfold amt
          rw [if_neg h3]
          unfold jmax pos
          split <;> split <;> omega
    · rw [if_neg hk, wp_gd]
      exact ⟨jr_iff.mpr (by omega), next (d, t, bl) _ _ _ _ _ (sK_no hk).symm⟩
theorem w_reck {N x : Nat} {k sh bl d jd jp js jt : Int} {jst : Nat → Int} {o : Option Nat} {D : DynI} {V : List St} {Q : R_iRoll_reckon → Prop} (hN : 5000 ≤ N) (hx : x ≤ 39) (hk3 : k = 1 ∨ k = 2 ∨ k = 3) (hW : o ≠ none → wsOk V) (hK : KOp D o V) (hd : bB d 7000000000000) (hbl : bl = 0 ∨ bl = 1) (hQ : ∀ jd2 jp2 js2 jt2 jst2, Q ((runK k sh x V (d, 0, bl)).2.1, jd2, jp2, js2, jt2, jst2, (runK k sh x V (d, 0, bl)).2.2, (runK k sh x V (d, 0, bl)).1)) : wp (iRoll_reckon N o x k D jd jp js jt jst bl d 0 sh) Q := by
  unfold iRoll_reckon
  rcases hK with ⟨h1, h2⟩ | ⟨y1, h1, o1, y3, y7, h2, h3, o3, l3, h4, h7, l7, h8⟩
  · subst h1 h2
    rw [wp_opn]
    refine ⟨fun _ => ?_, fun y z => by cases z⟩
    rw [wp_some]
    exact hQ jd jp js jt jst
  · subst h1
    have hw := hW (by intro z; cases z)
    rw [wp_opn]
    refine ⟨fun z => (by cases z), fun y z => ?_⟩
    cases z
    have e1 : jGR D y1 1 0 = some (some y3) := by
      unfold jGR
      rw [if_pos o1, h2]
    have e2 : jLen D y3 2 = some V.length := by
      unfold jLen
      rw [if_pos o3, l3]
    have h24 := hw.1
    rw [wp_bd1, e1, wp_some, wp_bd1, wp_some, wp_bd1, e2, wp_some, wp_gd]
    refine ⟨jr_iff.mpr (by omega), ?_⟩
    exact w_reckL hN hx hk3 hw o1 h3 o3 l3 h4 h7 l7 h8 rfl V [] N 7000000000000 0 0 bl d jd jp js jt jst Q rfl (by omega) hd (by omega) ⟨Int.le_refl 0, Int.le_refl 0⟩ hbl (by omega) (by omega) hQ
