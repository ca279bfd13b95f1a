set_option maxHeartbeats 4000000
set_option maxRecDepth 100000
/-! the reference: one writ's statements of one sort -/
theorem cat_mid (A B : List St) (w : St) : cat (A ++ w :: B) = (cat A ++ w.l) ++ (w.t ++ cat B) := by
  rw [cat_app]
  show cat A ++ ((w.l ++ w.t) ++ cat B) = _
  rw [List.append_assoc w.l w.t, ← List.append_assoc (cat A) w.l]
theorem cat_mid2 (A B : List St) (w : St) : cat (A ++ w :: B) = cat A ++ (w.l ++ (w.t ++ cat B)) := by
  rw [cat_mid, List.append_assoc]
theorem seg_t {a : Nat} {v fi ib mn se so sE sF tE : Nat → Int} {V A B : List St} {w : St} (hR : RWr a v fi ib mn se so sE sF tE V) (e : V = A ++ w :: B) : cAt v (640 * a + ((cat A).length + w.l.length)) w.t := by
  have h := hR.2.2
  rw [e, cat_mid] at h
  have := cAt_seg h
  rw [List.length_append] at this
  exact this
theorem seg_l {a : Nat} {v fi ib mn se so sE sF tE : Nat → Int} {V A B : List St} {w : St} (hR : RWr a v fi ib mn se so sE sF tE V) (e : V = A ++ w :: B) : cAt v (640 * a + (cat A).length) w.l := by
  have h := hR.2.2
  rw [e, cat_mid2] at h
  exact cAt_seg h
theorem seg_n {V A B : List St} {w : St} (hW : wsOk V) (e : V = A ++ w :: B) : (cat A).length + w.l.length + w.t.length ≤ 600 := by
  have h := trl_len (cat V)
  have h2 := hW.2.1
  rw [e, cat_mid, List.length_append, List.length_append, List.length_append] at h
  rw [e] at h2
  rw [cat_mid] at h2
  omega
theorem mem_mid {V A B : List St} {w : St} (e : V = A ++ w :: B) : w ∈ V := by
  rw [e]
  exact List.mem_append_right _ (List.mem_cons_self ..)
theorem w_holds {N a x : Nat} {sh d p pl : Int} {v fi ib mn se so sE sF tE pile : Nat → Int} {V A B : List St} {w : St} {Q : R_iM_holds → Prop} (hN : 5000 ≤ N) (ha : a ≤ 200) (hx : x ≤ 39) (hR : RWr a v fi ib mn se so sE sF tE V) (hW : wsOk V) (e : V = A ++ w :: B) (h : ∀ pile2, Q ((if val (env sh x d p) w.t = 0 then 0 else 1), 1, pile2)) : wp (iM_holds N a ((24 * a + A.length : Nat) : Int) d x p pl sh v pile sE tE) Q := by
  have hA := pre_lt e
  have hV := hW.1
  have hn := seg_n hW e
  have ev := (hW.2.2 w (mem_mid e)).2
  have vv := val_v (E := env sh x d p) ev (env_ok hx)
  obtain ⟨_, _, _, _, _, r6, r7⟩ := hR.1 A w B e
  have ei : ((24 * a + A.length : Nat) : Int).toNat = 24 * a + A.length := rfl
  unfold iM_holds
  rw [wp_gd, wp_bd3, ei, r6, r7]
  refine ⟨jb_iff.mpr (by omega), ?_⟩
  show wp (iM_tells N a (((cat A).length + w.l.length : Nat) : Int) _ d x p pl sh v pile) _
  refine w_valM hN ha (by omega) (seg_t hR e) (by omega) (by omega) vv.2.1 (fun k2 => ?_)
  show wp (if val (env sh x d p) w.t = 1 then _ else _) Q
  have h2 := h k2
  by_cases c : val (env sh x d p) w.t = 0
  · rw [if_neg (by omega), wp_some]
    rw [if_pos c] at h2
    exact h2
  · rw [if_pos (by omega), wp_some]
    rw [if_neg c] at h2
    exact h2
theorem w_amount {N a x : Nat} {sh d p pl : Int} {v fi ib mn se so sE sF tE pile : Nat → Int} {V A B : List St} {w : St} {Q : R_iM_amount → Prop} (hN : 5000 ≤ N) (ha : a ≤ 200) (hx : x ≤ 39) (hR : RWr a v fi ib mn se so sE sF tE V) (hW : wsOk V) (e : V = A ++ w :: B) (hk : w.kd = 1 ∨ w.kd = 2) (h : ∀ pile2, Q (pos (val (env sh x d p) w.l), 1, pile2)) : wp (iM_amount N a ((24 * a + A.length : Nat) : Int) d x p pl sh v pile sE sF) Q := by
  have hA := pre_lt e
  have hV := hW.1
  have hn := seg_n hW e
  have ev : EvS w.l 21 := by
    rcases (hW.2.2 w (mem_mid e)).1 with g | g | g | g
    · exact g.2.2.2.2
    · exact g.2.2.2.2
    · omega
    · omega
  have vv := val_v (E := env sh x d p) ev (env_ok hx)
  obtain ⟨_, _, _, _, r5, r6, _⟩ := hR.1 A w B e
  have ei : ((24 * a + A.length : Nat) : Int).toNat = 24 * a + A.length := rfl
  unfold iM_amount
  rw [wp_gd, wp_bd3, ei, r5, r6]
  refine ⟨jb_iff.mpr (by omega), ?_⟩
  refine w_valM hN ha (by omega) (seg_l hR e) (by omega) (by omega) vv.2.1 (fun k2 => ?_)
  show wp (if 0 ≤ val (env sh x d p) w.l then _ else _) Q
  have h2 := h k2
  unfold pos at h2
  by_cases c : 0 ≤ val (env sh x d p) w.l
  · rw [if_pos c, wp_some]
    rw [if_pos c] at h2
    exact h2
  · rw [if_neg c, wp_some]
    rw [if_neg c] at h2
    exact h2
theorem w_flp {a b : Int} (ha : 0 ≤ a ∧ a ≤ 9000000000000000000) (hb : 1 ≤ b) : iM_floor a b = some (a / b) := by
  obtain ⟨q1, q2⟩ := div_le_self' ha.1 hb
  unfold iM_floor
  rw [if_neg (by omega), gd, if_pos (jn_iff.mpr (by omega)), Int.tdiv_eq_ediv_of_nonneg ha.1]
  by_cases c : a.tmod b = 0
  · rw [if_pos c, gd, if_pos (jR_iff.mpr (by omega))]
  · rw [if_neg c, if_pos ha.1, gd, if_pos (jR_iff.mpr (by omega))]
    unfold iM_floor_b32 iM_floor_b43
    rw [if_pos (by omega), if_pos rfl]
theorem sK_bl {k sh : Int} {x : Nat} {w : St} {s : Int × Int × Int} (hw : wOk w) (hk : k = 2 ∨ k = 3) : (sK k sh x w s).2.2 = s.2.2 := by
  unfold sK
  by_cases c : w.kd = k ∧ val (env sh x s.1 0) w.t ≠ 0
  · rw [if_pos c]
    show (if s.2.2 = 0 then w.bl else s.2.2) = s.2.2
    by_cases z : s.2.2 = 0
    · rw [if_pos z, z]
      rcases hw.1 with g | g | g | g
      · omega
      · exact g.2.1
      · exact g.2.1
      · exact g.2.1
    · rw [if_neg z]
  · rw [if_neg c]
theorem runK_bl {k sh : Int} {x : Nat} (hk : k = 2 ∨ k = 3) : ∀ {V : List St} {s : Int × Int × Int}, (∀ w, w ∈ V → wOk w) → (runK k sh x V s).2.2 = s.2.2
  | [], s, _ => rfl
  | w :: V, s, h => by
    show (runK k sh x V (sK k sh x w s)).2.2 = s.2.2
    rw [runK_bl hk (fun z hz => h z (List.mem_cons_of_mem _ hz)), sK_bl (h w (List.mem_cons_self ..)) hk]
theorem sK_no {k sh : Int} {x : Nat} {w : St} {s : Int × Int × Int} (h : w.kd ≠ k) : sK k sh x w s = s := if_neg (fun c => h c.1)
theorem sK_z {k sh : Int} {x : Nat} {w : St} {s : Int × Int × Int} (h : val (env sh x s.1 0) w.t = 0) : sK k sh x w s = s := if_neg (fun c => c.2 h)
theorem sK_y {k sh : Int} {x : Nat} {w : St} {s : Int × Int × Int} (h : w.kd = k) (h2 : val (env sh x s.1 0) w.t ≠ 0) : sK k sh x w s = ((if k = 1 then s.1 + amt k sh x w s.1 else s.1 - amt k sh x w s.1), s.2.1 + amt k sh x w s.1, (if s.2.2 = 0 then w.bl else s.2.2)) := if_pos ⟨h, h2⟩
theorem w_does0 {N a x : Nat} {sh : Int} {v fi ib mn se so sE sF tE : Nat → Int} {V : List St} (hN : 5000 ≤ N) (ha : a ≤ 200) (hx : x ≤ 39) (hR : RWr a v fi ib mn se so sE sF tE V) (hW : wsOk V) : ∀ (B A : List St) (m : Nat) (M P al d fa bl pa pl : Int) (off pile : Nat → Int) (Q : R_iM_does → Prop), V = A ++ B → B.length < m → bB d M → 0 ≤ M → (0 ≤ fa ∧ fa ≤ P) → (bl = 0 ∨ bl = 1) → M + 1000000000 * B.length ≤ 1000000000000000 → P + 1000001000000000 * B.length ≤ 100000000000000000 → (∀ pl2 pile2, Q (al, (runK 1 sh x B (d, fa, bl)).1, (runK 1 sh x B (d, fa, bl)).2.1, (runK 1 sh x B (d, fa, bl)).2.2, pa, pl2, off, pile2)) → wp (iM_does_b2 N a 0 x 0 sh v fi ib mn se so sE sF tE m A.length al d fa bl pa pl off pile) Q := by
  intro B
  induction B with
  | nil =>
    intro A m M P al d fa bl pa pl off pile Q hV hm hd h0 ht hbl hM hP hQ
    obtain ⟨m2, rfl⟩ : ∃ m2, m = m2 + 1 := ⟨m - 1, by have : 0 < m := hm; omega⟩
    have ea : (a : Int).toNat = a := rfl
    have hm2 := hR.2.1
    rw [hV, List.append_nil] at hm2
    show wp (iM_does_b2_F N a 0 x 0 sh v fi ib mn se so sE sF tE (iM_does_b2 N a 0 x 0 sh v fi ib mn se so sE sF tE m2) A.length al d fa bl pa pl off pile) Q
    unfold iM_does_b2_F
    rw [wp_gd, ea, if_pos (by omega), wp_some]
    exact ⟨jb_iff.mpr (by omega), hQ pl pile⟩
  | cons w B ih =>
    intro A m M P al d fa bl pa pl off pile Q hV hm hd h0 ht hbl hM hP hQ
    have hm1 : B.length + 1 < m := hm
    obtain ⟨m2, rfl⟩ : ∃ m2, m = m2 + 1 := ⟨m - 1, by omega⟩
    have hl : ((w :: B).length : Int) = (B.length : Int) + 1 := rfl
    rw [hl] at hM hP
    have ea : (a : Int).toNat = a := rfl
    have ei : (24 * (a : Int) + (A.length : Int)).toNat = 24 * a + A.length := by omega
    have ej : 24 * (a : Int) + (A.length : Int) = ((24 * a + A.length : Nat) : Int) := by omega
    have hm2 := hR.2.1
    have hA := pre_lt hV
    have hV2 := hW.1
    have hw := hW.2.2 w (mem_mid hV)
    have hV3 : V = (A ++ [w]) ++ B := by rw [hV, List.append_assoc]; rfl
    have lA : (A ++ [w]).length = A.length + 1 := by rw [List.length_append]; rfl
    obtain ⟨r1, r2, r3, r4, _, _, _⟩ := hR.1 A w B hV
    have next : ∀ (s1 : Int × Int × Int) (pl2 : Int) (pile2 : Nat → Int), s1 = sK 1 sh x w (d, fa, bl) → wp (iM_does_b2 N a 0 x 0 sh v fi ib mn se so sE sF tE m2 ((A.length : Int) + 1) al s1.1 s1.2.1 s1.2.2 pa pl2 off pile2) Q := by
      intro s1 pl2 pile2 hs
      have b1 := sK_b (k := 1) (sh := sh) (x := x) (w := w) (s := (d, fa, bl)) hx (by omega) hw hd
      have b2 := sK_t (k := 1) (sh := sh) (x := x) (w := w) (s := (d, fa, bl)) hx (by omega) hw hd h0 ht hbl
      rw [← hs] at b1 b2
      have := ih (A ++ [w]) m2 (M + 1000000000) (P + M + 1000000000) al s1.1 s1.2.1 s1.2.2 pa pl2 off pile2 Q hV3 (by omega) b1 (by omega) b2.1 b2.2 (by omega) (by omega) (fun pl3 pile3 => ?_)
      · rw [lA] at this
        exact this
      · have h2 := hQ pl3 pile3
        have e9 : runK 1 sh x (w :: B) (d, fa, bl) = runK 1 sh x B s1 := by rw [hs]; rfl
        rw [e9] at h2
        exact h2
    have stay : ∀ (pl2 : Int) (pile2 : Nat → Int), sK 1 sh x w (d, fa, bl) = (d, fa, bl) → wp (iM_does_b2 N a 0 x 0 sh v fi ib mn se so sE sF tE m2 ((A.length : Int) + 1) al d fa bl pa pl2 off pile2) Q := fun pl2 pile2 h => next (d, fa, bl) pl2 pile2 h.symm
    show wp (iM_does_b2_F N a 0 x 0 sh v fi ib mn se so sE sF tE (iM_does_b2 N a 0 x 0 sh v fi ib mn se so sE sF tE m2) A.length al d fa bl pa pl off pile) Q
    unfold iM_does_b2_F
    rw [wp_gd, ea, if_neg (by omega), wp_gd, wp_gd, wp_gd, ei, r1]
    refine ⟨jb_iff.mpr (by omega), jr_iff.mpr (by omega), jr_iff.mpr (by omega), jb_iff.mpr (by omega), ?_⟩
    by_cases hk : w.kd = 1
    · rw [if_pos (by omega), wp_bd3, ej]
      refine w_holds hN ha hx hR hW hV (fun pile2 => ?_)
      by_cases hv : val (env sh x d 0) w.t = 0
      · show wp (if (if val (env sh x d 0) w.t = 0 then (0 : Int) else 1) = 0 then _ else _) Q
        rw [if_pos hv, if_pos rfl, wp_gd]
        exact ⟨jr_iff.mpr (by omega), stay _ _ (sK_z hv)⟩
      · show wp (if (if val (env sh x d 0) w.t = 0 then (0 : Int) else 1) = 0 then _ else _) Q
        rw [if_neg hv, if_neg (by decide)]
        have sy := sK_y (k := 1) (sh := sh) (x := x) (w := w) (s := (d, fa, bl)) hk hv
        have ab := amt_b (sh := sh) (d := d) hx (by omega) hw hk
        obtain ⟨d1, d2⟩ := hd
        have am := ab.1 (by omega)
        have e1 : amt 1 sh x w d = pos (val (env sh x d 0) w.l) := if_neg (by decide)
        rw [e1] at am
        have sy2 : sK 1 sh x w (d, fa, bl) = (d + pos (val (env sh x d 0) w.l), fa + pos (val (env sh x d 0) w.l), if bl = 0 then w.bl else bl) := by
          rw [sy, if_pos rfl]
          show (d + amt 1 sh x w d, fa + amt 1 sh x w d, _) = _
          rw [e1]
        rw [if_pos rfl, wp_bd3]
        refine w_amount hN ha hx hR hW hV (Or.inl hk) (fun pile3 => ?_)
        have fin : ∀ b : Int, b = (if bl = 0 then w.bl else bl) → wp (iM_does_b102 N a 0 x 0 sh v fi ib mn se so sE sF tE (iM_does_b2 N a 0 x 0 sh v fi ib mn se so sE sF tE m2) A.length b al (d + pos (val (env sh x d 0) w.l)) (fa + pos (val (env sh x d 0) w.l)) bl pa 1 off pile3) Q := fun b hb => by
          unfold iM_does_b102
          rw [wp_gd, wp_gd]
          have b2 := sK_t (k := 1) (sh := sh) (x := x) (w := w) (s := (d, fa, bl)) hx (by omega) hw ⟨d1, d2⟩ h0 ht hbl
          rw [sy2, ← hb] at b2
          exact ⟨jB_iff.mpr b2.2, jr_iff.mpr (by omega), next (d + pos (val (env sh x d 0) w.l), fa + pos (val (env sh x d 0) w.l), b) 1 pile3 (by rw [sy2, hb])⟩
        by_cases hb0 : bl = 0
        · rw [if_pos hb0, r2]
          by_cases hw0 : w.bl = 0
          · rw [if_pos hw0, wp_gd, wp_gd]
            exact ⟨jR_iff.mpr (by omega), jR_iff.mpr (by omega), fin 0 (by rw [if_pos hb0, hw0])⟩
          · rw [if_neg hw0, wp_gd, wp_gd]
            exact ⟨jR_iff.mpr (by omega), jR_iff.mpr (by omega), fin 1 (by
              rw [if_pos hb0]
              rcases hw.1 with g | g | g | g <;> omega)⟩
        · rw [if_neg hb0, wp_gd, wp_gd]
          exact ⟨jR_iff.mpr (by omega), jR_iff.mpr (by omega), fin 1 (by rw [if_neg hb0]; omega)⟩
    · rw [if_neg (by omega), wp_gd]
      exact ⟨jr_iff.mpr (by omega), stay _ _ (sK_no hk)⟩
theorem w_does1 {N a x : Nat} {sh : Int} {v fi ib mn se so sE sF tE : Nat → Int} {V : List St} (hN : 5000 ≤ N) (ha : a ≤ 200) (hx : x ≤ 39) (hR : RWr a v fi ib mn se so sE sF tE V) (hW : wsOk V) : ∀ (B A : List St) (m : Nat) (M P al d fa bl pa pl : Int) (off pile : Nat → Int) (Q : R_iM_does → Prop), V = A ++ B → B.length < m → bB d M → 0 ≤ M → (0 ≤ al ∧ al ≤ P) → (bl = 0 ∨ bl = 1) → M + 1000000000 * B.length ≤ 1000000000000000 → P + 1000001000000000 * B.length ≤ 100000000000000000 → (∀ pl2 pile2, Q ((runK 2 sh x B (d, al, bl)).2.1, (runK 2 sh x B (d, al, bl)).1, fa, bl, pa, pl2, off, pile2)) → wp (iM_does_b2 N a 1 x 0 sh v fi ib mn se so sE sF tE m A.length al d fa bl pa pl off pile) Q := by
  intro B
  induction B with
  | nil =>
    intro A m M P al d fa bl pa pl off pile Q hV hm hd h0 ht hbl hM hP hQ
    obtain ⟨m2, rfl⟩ : ∃ m2, m = m2 + 1 := ⟨m - 1, by have : 0 < m := hm; omega⟩
    have ea : (a : Int).toNat = a := rfl
    have hm2 := hR.2.1
    rw [hV, List.append_nil] at hm2
    show wp (iM_does_b2_F N a 1 x 0 sh v fi ib mn se so sE sF tE (iM_does_b2 N a 1 x 0 sh v fi ib mn se so sE sF tE m2) A.length al d fa bl pa pl off pile) Q
    unfold iM_does_b2_F
    rw [wp_gd, ea, if_pos (by omega), wp_some]
    exact ⟨jb_iff.mpr (by omega), hQ pl pile⟩
  | cons w B ih =>
    intro A m M P al d fa bl pa pl off pile Q hV hm hd h0 ht hbl hM hP hQ
    have hm1 : B.length + 1 < m := hm
    obtain ⟨m2, rfl⟩ : ∃ m2, m = m2 + 1 := ⟨m - 1, by omega⟩
    have hl : ((w :: B).length : Int) = (B.length : Int) + 1 := rfl
    rw [hl] at hM hP
    have ea : (a : Int).toNat = a := rfl
    have ei : (24 * (a : Int) + (A.length : Int)).toNat = 24 * a + A.length := by omega
    have ej : 24 * (a : Int) + (A.length : Int) = ((24 * a + A.length : Nat) : Int) := by omega
    have hm2 := hR.2.1
    have hA := pre_lt hV
    have hV2 := hW.1
    have hw := hW.2.2 w (mem_mid hV)
    have hV3 : V = (A ++ [w]) ++ B := by rw [hV, List.append_assoc]; rfl
    have lA : (A ++ [w]).length = A.length + 1 := by rw [List.length_append]; rfl
    obtain ⟨r1, r2, r3, r4, _, _, _⟩ := hR.1 A w B hV
    have next : ∀ (s1 : Int × Int × Int) (pl2 : Int) (pile2 : Nat → Int), s1 = sK 2 sh x w (d, al, bl) → wp (iM_does_b2 N a 1 x 0 sh v fi ib mn se so sE sF tE m2 ((A.length : Int) + 1) s1.2.1 s1.1 fa bl pa pl2 off pile2) Q := by
      intro s1 pl2 pile2 hs
      have b1 := sK_b (k := 2) (sh := sh) (x := x) (w := w) (s := (d, al, bl)) hx (by omega) hw hd
      have b2 := sK_t (k := 2) (sh := sh) (x := x) (w := w) (s := (d, al, bl)) hx (by omega) hw hd h0 ht hbl
      rw [← hs] at b1 b2
      have b3 := sK_bl (k := 2) (sh := sh) (x := x) (s := (d, al, bl)) hw (by omega)
      rw [← hs] at b3
      have b4 : s1.2.2 = bl := b3
      have := ih (A ++ [w]) m2 (M + 1000000000) (P + M + 1000000000) s1.2.1 s1.1 fa bl pa pl2 off pile2 Q hV3 (by omega) b1 (by omega) b2.1 hbl (by omega) (by omega) (fun pl3 pile3 => ?_)
      · rw [lA] at this
        exact this
      · have h2 := hQ pl3 pile3
        have e9 : runK 2 sh x (w :: B) (d, al, bl) = runK 2 sh x B s1 := by rw [hs]; rfl
        rw [e9] at h2
        rw [← b4]
        rw [← b4] at h2
        exact h2
    have stay : ∀ (pl2 : Int) (pile2 : Nat → Int), sK 2 sh x w (d, al, bl) = (d, al, bl) → wp (iM_does_b2 N a 1 x 0 sh v fi ib mn se so sE sF tE m2 ((A.length : Int) + 1) al d fa bl pa pl2 off pile2) Q := fun pl2 pile2 h => next (d, al, bl) pl2 pile2 h.symm
    show wp (iM_does_b2_F N a 1 x 0 sh v fi ib mn se so sE sF tE (iM_does_b2 N a 1 x 0 sh v fi ib mn se so sE sF tE m2) A.length al d fa bl pa pl off pile) Q
    unfold iM_does_b2_F
    rw [wp_gd, ea, if_neg (by omega), wp_gd, wp_gd, wp_gd, ei, r1]
    refine ⟨jb_iff.mpr (by omega), jr_iff.mpr (by omega), jr_iff.mpr (by omega), jb_iff.mpr (by omega), ?_⟩
    by_cases hk : w.kd = 2
    · rw [if_pos (by omega), wp_bd3, ej]
      refine w_holds hN ha hx hR hW hV (fun pile2 => ?_)
      by_cases hv : val (env sh x d 0) w.t = 0
      · show wp (if (if val (env sh x d 0) w.t = 0 then (0 : Int) else 1) = 0 then _ else _) Q
        rw [if_pos hv, if_pos rfl, wp_gd]
        exact ⟨jr_iff.mpr (by omega), stay _ _ (sK_z hv)⟩
      · show wp (if (if val (env sh x d 0) w.t = 0 then (0 : Int) else 1) = 0 then _ else _) Q
        rw [if_neg hv, if_neg (by decide)]
        have sy := sK_y (k := 2) (sh := sh) (x := x) (w := w) (s := (d, al, bl)) hk hv
        have ab := amt_b (sh := sh) (d := d) hx (by omega) hw hk
        obtain ⟨d1, d2⟩ := hd
        have am := ab.1 (by omega)
        have e1 : amt 2 sh x w d = pos (val (env sh x d 0) w.l) := if_neg (by decide)
        rw [e1] at am
        have sy2 : sK 2 sh x w (d, al, bl) = (d - pos (val (env sh x d 0) w.l), al + pos (val (env sh x d 0) w.l), if bl = 0 then w.bl else bl) := by
          rw [sy, if_neg (by decide)]
          show (d - amt 2 sh x w d, al + amt 2 sh x w d, _) = _
          rw [e1]
        rw [if_neg (by decide), if_pos rfl, wp_bd3]
        refine w_amount hN ha hx hR hW hV (Or.inr hk) (fun pile3 => ?_)
        rw [wp_gd, wp_gd, wp_gd]
        exact ⟨jr_iff.mpr (by omega), jR_iff.mpr (by show _ ≤ al + pos (val (env sh x d 0) w.l) ∧ _; omega), jR_iff.mpr (by show _ ≤ d - pos (val (env sh x d 0) w.l) ∧ _; omega), next _ 1 pile3 sy2.symm⟩
    · rw [if_neg (by omega), wp_gd]
      exact ⟨jr_iff.mpr (by omega), stay _ _ (sK_no hk)⟩
theorem w_does2 {N a x : Nat} {sh : Int} {v fi ib mn se so sE sF tE : Nat → Int} {V : List St} (hN : 5000 ≤ N) (ha : a ≤ 200) (hx : x ≤ 39) (hR : RWr a v fi ib mn se so sE sF tE V) (hW : wsOk V) : ∀ (B A : List St) (m : Nat) (M P al d fa bl pa pl : Int) (off pile : Nat → Int) (Q : R_iM_does → Prop), V = A ++ B → B.length < m → bB d M → 0 ≤ M → (0 ≤ pa ∧ pa ≤ P) → (bl = 0 ∨ bl = 1) → M + 1000000000 * B.length ≤ 1000000000000000 → P + 1000001000000000 * B.length ≤ 100000000000000000 → (∀ pl2 pile2, Q (al, (runK 3 sh x B (d, pa, bl)).1, fa, bl, (runK 3 sh x B (d, pa, bl)).2.1, pl2, off, pile2)) → wp (iM_does_b2 N a 2 x 0 sh v fi ib mn se so sE sF tE m A.length al d fa bl pa pl off pile) Q := by
  intro B
  induction B with
  | nil =>
    intro A m M P al d fa bl pa pl off pile Q hV hm hd h0 ht hbl hM hP hQ
    obtain ⟨m2, rfl⟩ : ∃ m2, m = m2 + 1 := ⟨m - 1, by have : 0 < m := hm; omega⟩
    have ea : (a : Int).toNat = a := rfl
    have hm2 := hR.2.1
    rw [hV, List.append_nil] at hm2
    show wp (iM_does_b2_F N a 2 x 0 sh v fi ib mn se so sE sF tE (iM_does_b2 N a 2 x 0 sh v fi ib mn se so sE sF tE m2) A.length al d fa bl pa pl off pile) Q
    unfold iM_does_b2_F
    rw [wp_gd, ea, if_pos (by omega), wp_some]
    exact ⟨jb_iff.mpr (by omega), hQ pl pile⟩
  | cons w B ih =>
    intro A m M P al d fa bl pa pl off pile Q hV hm hd h0 ht hbl hM hP hQ
    have hm1 : B.length + 1 < m := hm
    obtain ⟨m2, rfl⟩ : ∃ m2, m = m2 + 1 := ⟨m - 1, by omega⟩
    have hl : ((w :: B).length : Int) = (B.length : Int) + 1 := rfl
    rw [hl] at hM hP
    have ea : (a : Int).toNat = a := rfl
    have ei : (24 * (a : Int) + (A.length : Int)).toNat = 24 * a + A.length := by omega
    have ej : 24 * (a : Int) + (A.length : Int) = ((24 * a + A.length : Nat) : Int) := by omega
    have hm2 := hR.2.1
    have hA := pre_lt hV
    have hV2 := hW.1
    have hw := hW.2.2 w (mem_mid hV)
    have hV3 : V = (A ++ [w]) ++ B := by rw [hV, List.append_assoc]; rfl
    have lA : (A ++ [w]).length = A.length + 1 := by rw [List.length_append]; rfl
    obtain ⟨r1, r2, r3, r4, _, _, _⟩ := hR.1 A w B hV
    have next : ∀ (s1 : Int × Int × Int) (pl2 : Int) (pile2 : Nat → Int), s1 = sK 3 sh x w (d, pa, bl) → wp (iM_does_b2 N a 2 x 0 sh v fi ib mn se so sE sF tE m2 ((A.length : Int) + 1) al s1.1 fa bl s1.2.1 pl2 off pile2) Q := by
      intro s1 pl2 pile2 hs
      have b1 := sK_b (k := 3) (sh := sh) (x := x) (w := w) (s := (d, pa, bl)) hx (by omega) hw hd
      have b2 := sK_t (k := 3) (sh := sh) (x := x) (w := w) (s := (d, pa, bl)) hx (by omega) hw hd h0 ht hbl
      rw [← hs] at b1 b2
      have b3 := sK_bl (k := 3) (sh := sh) (x := x) (s := (d, pa, bl)) hw (by omega)
      rw [← hs] at b3
      have b4 : s1.2.2 = bl := b3
      have := ih (A ++ [w]) m2 (M + 1000000000) (P + M + 1000000000) al s1.1 fa bl s1.2.1 pl2 off pile2 Q hV3 (by omega) b1 (by omega) b2.1 hbl (by omega) (by omega) (fun pl3 pile3 => ?_)
      · rw [lA] at this
        exact this
      · have h2 := hQ pl3 pile3
        have e9 : runK 3 sh x (w :: B) (d, pa, bl) = runK 3 sh x B s1 := by rw [hs]; rfl
        rw [e9] at h2
        rw [← b4]
        rw [← b4] at h2
        exact h2
    have stay : ∀ (pl2 : Int) (pile2 : Nat → Int), sK 3 sh x w (d, pa, bl) = (d, pa, bl) → wp (iM_does_b2 N a 2 x 0 sh v fi ib mn se so sE sF tE m2 ((A.length : Int) + 1) al d fa bl pa pl2 off pile2) Q := fun pl2 pile2 h => next (d, pa, bl) pl2 pile2 h.symm
    show wp (iM_does_b2_F N a 2 x 0 sh v fi ib mn se so sE sF tE (iM_does_b2 N a 2 x 0 sh v fi ib mn se so sE sF tE m2) A.length al d fa bl pa pl off pile) Q
    unfold iM_does_b2_F
    rw [wp_gd, ea, if_neg (by omega), wp_gd, wp_gd, wp_gd, ei, r1]
    refine ⟨jb_iff.mpr (by omega), jr_iff.mpr (by omega), jr_iff.mpr (by omega), jb_iff.mpr (by omega), ?_⟩
    by_cases hk : w.kd = 3
    · rw [if_pos (by omega), wp_bd3, ej]
      refine w_holds hN ha hx hR hW hV (fun pile2 => ?_)
      by_cases hv : val (env sh x d 0) w.t = 0
      · show wp (if (if val (env sh x d 0) w.t = 0 then (0 : Int) else 1) = 0 then _ else _) Q
        rw [if_pos hv, if_pos rfl, wp_gd]
        exact ⟨jr_iff.mpr (by omega), stay _ _ (sK_z hv)⟩
      · show wp (if (if val (env sh x d 0) w.t = 0 then (0 : Int) else 1) = 0 then _ else _) Q
        rw [if_neg hv, if_neg (by decide)]
        have sy := sK_y (k := 3) (sh := sh) (x := x) (w := w) (s := (d, pa, bl)) hk hv
        have ab := amt_b (sh := sh) (d := d) hx (by omega) hw hk
        obtain ⟨d1, d2⟩ := hd
        have am := ab.2 rfl
        rw [if_neg (by decide), if_neg (by decide), if_pos rfl]
        have f : 1 ≤ w.f1 ∧ w.f1 ≤ w.f2 ∧ w.f2 ≤ 999 := by
          rcases hw.1 with g | g | g | g
          · omega
          · omega
          · exact g.2.2.1
          · omega
        by_cases hd0 : d ≤ 0
        · rw [if_pos hd0]
          have e1 : amt 3 sh x w d = 0 := by
            unfold amt
            rw [if_pos rfl, if_pos hd0]
          unfold iM_does_b212
          rw [if_neg (by decide), wp_gd]
          refine ⟨jr_iff.mpr (by omega), ?_⟩
          have sy2 : sK 3 sh x w (d, pa, bl) = (d, pa, if bl = 0 then w.bl else bl) := by
            rw [sy, if_neg (by decide)]
            show (d - amt 3 sh x w d, pa + amt 3 sh x w d, _) = _
            rw [e1, Int.sub_zero, Int.add_zero]
          exact next _ 1 pile2 sy2.symm
        · rw [if_neg hd0, r3, r4]
          have e1 : amt 3 sh x w d = d * w.f1 / w.f2 := by
            unfold amt
            rw [if_pos rfl, if_neg hd0]
          rw [e1] at am
          have m0 : 0 ≤ d * w.f1 := Int.mul_nonneg (by omega) (by omega)
          have m1 : d * w.f1 ≤ d * 999 := Int.mul_le_mul_of_nonneg_left (by omega) (by omega)
          rw [wp_gd, wp_bd1, w_flp ⟨m0, by omega⟩ (by omega), wp_some, wp_gd, wp_gd, wp_gd]
          have sy2 : sK 3 sh x w (d, pa, bl) = (d - d * w.f1 / w.f2, pa + d * w.f1 / w.f2, if bl = 0 then w.bl else bl) := by
            rw [sy, if_neg (by decide)]
            show (d - amt 3 sh x w d, pa + amt 3 sh x w d, _) = _
            rw [e1]
          exact ⟨jR_iff.mpr (by omega), jr_iff.mpr (by omega), jR_iff.mpr (by omega), jR_iff.mpr (by omega), next _ 1 pile2 sy2.symm⟩
    · rw [if_neg (by omega), wp_gd]
      exact ⟨jr_iff.mpr (by omega), stay _ _ (sK_no hk)⟩
