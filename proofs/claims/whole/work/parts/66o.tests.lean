set_option maxHeartbeats 4000000
set_option maxRecDepth 100000
/-! tests: the waiting list -/
def n16 (x : Int) : Bool := decide (x = 16)
def n14 (x : Int) : Bool := decide (x = 14)
def n45 (x : Int) : Bool := decide (x = 14 ∨ x = 15)
def n25 (x : Int) : Bool := decide (x ≠ 25)
theorem n16_iff {x : Int} : n16 x = true ↔ x = 16 := decide_eq_true_iff
theorem n14_iff {x : Int} : n14 x = true ↔ x = 14 := decide_eq_true_iff
theorem n45_iff {x : Int} : n45 x = true ↔ x = 14 ∨ x = 15 := decide_eq_true_iff
theorem n25_iff {x : Int} : n25 x = true ↔ x ≠ 25 := decide_eq_true_iff
theorem w_dn [Inhabited Frm] {N : Nat} {k : Nat → Int} {Q : R_iM_dropsNots → Prop} : ∀ (W L : List Int) (m : Nat) (s o w : Int) (v : Nat → Int), W.length < m → W.length ≤ 700 → L.length + W.length < 100000 → (W.length : Int) - 10000 ≤ o ∧ o ≤ 100 → w = W.length → stk k W → cod v s L → (∀ s2 v2, cod v2 s2 (L ++ tkw n16 W) → Q (s2, o - (tkw n16 W).length, ((drw n16 W).length : Int), v2)) → wp (iM_dropsNots_b0 N 0 k m s o w v) Q := by
  intro W
  induction W with
  | nil =>
    intro L m s o w v hm hl hL ho hw h hv kk
    obtain ⟨m2, rfl⟩ : ∃ m2, m = m2 + 1 := ⟨m - 1, by have : 0 < m := hm; omega⟩
    show wp (iM_dropsNots_b0_F N 0 k _ s o w v) Q
    unfold iM_dropsNots_b0_F
    rw [if_pos rfl, wp_bd1, w_isOn hw hl h, wp_some]
    show wp (if (0 : Int) = 0 then _ else _) Q
    rw [if_pos rfl, wp_some]
    have := kk s v (by show cod v s (L ++ []); rw [List.append_nil]; exact hv)
    rw [hw]
    have e : o - ((tkw n16 []).length : Nat) = o := Int.sub_zero o
    rw [e] at this
    exact this
  | cons x W ih =>
    intro L m s o w v hm hl hL ho hw h hv kk
    have hm1 : W.length + 1 < m := hm
    obtain ⟨m2, rfl⟩ : ∃ m2, m = m2 + 1 := ⟨m - 1, by omega⟩
    have hl2 : W.length + 1 ≤ 700 := hl
    have hL2 : L.length + (W.length + 1) < 100000 := hL
    have ho2 : (W.length : Int) + 1 - 10000 ≤ o := ho.1
    show wp (iM_dropsNots_b0_F N 0 k (iM_dropsNots_b0 N 0 k m2) s o w v) Q
    unfold iM_dropsNots_b0_F
    rw [if_pos rfl, wp_bd1, w_isOn hw hl h, wp_some, onT_c]
    by_cases c : x = 16
    · rw [if_pos c, if_neg (by decide), wp_bd3]
      refine w_drops hw (by omega) h hv (by omega) (fun v2 h2 => ?_)
      rw [wp_gd]
      refine ⟨jr_iff.mpr (by omega), ih (L ++ [x]) m2 (s + 1) (o - 1) _ v2 (by omega) (by omega) (by rw [List.length_append]; show L.length + 1 + W.length < 100000; omega) (by omega) rfl h.2 h2 (fun s3 v3 h3 => ?_)⟩
      rw [tkw_p (n16_iff.mpr c), drw_p (n16_iff.mpr c)] at kk
      have := kk s3 v3 (by rw [List.append_assoc] at h3; exact h3)
      rw [len_c] at this
      rw [show o - 1 - ((tkw n16 W).length : Int) = o - (((tkw n16 W).length : Int) + 1) by omega]
      exact this
    · rw [if_neg c, if_pos rfl, wp_some]
      have cn : ¬ n16 x = true := fun g => c (n16_iff.mp g)
      rw [tkw_n cn, drw_n cn] at kk
      have := kk s v (by rw [List.append_nil]; exact hv)
      rw [hw]
      have e : o - (([] : List Int).length : Int) = o := Int.sub_zero o
      rw [e] at this
      exact this
theorem stk_mem {k : Nat → Int} {a : Int} : ∀ {W : List Int}, stk k W → ((∃ i, i < W.length ∧ k i = a) ↔ a ∈ W)
  | [], _ => ⟨fun ⟨i, h, _⟩ => absurd h (Nat.not_lt_zero i), fun h => absurd h List.not_mem_nil⟩
  | x :: W, h => by
    have ih := stk_mem (a := a) h.2
    constructor
    · intro ⟨i, hi, e⟩
      have hi2 : i < W.length + 1 := hi
      by_cases c : i = W.length
      · rw [c, h.1] at e
        rw [e]
        exact List.mem_cons_self ..
      · exact List.mem_cons_of_mem _ (ih.mp ⟨i, by omega, e⟩)
    · intro g
      rcases List.mem_cons.mp g with e | g
      · exact ⟨W.length, Nat.lt_succ_self _, by rw [h.1, e]⟩
      · obtain ⟨i, hi, e⟩ := ih.mpr g
        exact ⟨i, Nat.lt_succ_of_lt hi, e⟩
theorem w_hasSq {N : Nat} (hN : 5000 ≤ N) {w : Int} {k : Nat → Int} {W : List Int} (hw : w = W.length) (hl : W.length ≤ 700) (h : stk k W) : ∃ b : Int, (b = 0 ∨ b = 1) ∧ (b = 1 ↔ 25 ∈ W) ∧ iM_hasSquare N w k = some b := by
  have H : wp (iM_hasSquare N w k) (fun b => (b = 0 ∨ b = 1) ∧ (b = 1 ↔ 25 ∈ W)) := by
    unfold iM_hasSquare iM_hasSquare_b2
    refine wp_zlp1 (fun (m : Nat) (x : Int) => ∃ i : Nat, x = i ∧ i + m = W.length ∧ ∀ j, j < i → k j ≠ 25) ?_ N W.length 0 (by omega) ⟨0, rfl, by omega, fun j hj => absurd hj (Nat.not_lt_zero j)⟩
    intro self m x ⟨i, e1, e2, e3⟩ ih
    subst e1
    have ei : (i : Int).toNat = i := rfl
    unfold iM_hasSquare_b2_F
    rw [wp_ite]
    refine ⟨fun c => ?_, fun c => ?_⟩
    · rw [wp_some]
      refine ⟨Or.inl rfl, ⟨fun g => absurd g (by decide), fun g => ?_⟩⟩
      obtain ⟨j, hj, e⟩ := (stk_mem h).mpr g
      exact absurd e (e3 j (by omega))
    · rw [wp_gd, wp_ite, ei]
      refine ⟨jb_iff.mpr (by omega), fun g => ?_, fun g => ?_⟩
      · rw [wp_some]
        exact ⟨Or.inr rfl, ⟨fun _ => (stk_mem h).mp ⟨i, by omega, g⟩, fun _ => rfl⟩⟩
      · rw [wp_gd]
        refine ⟨jr_iff.mpr (by omega), ih (m - 1) _ (by omega) ⟨i + 1, by omega, by omega, fun j hj => ?_⟩⟩
        by_cases d : j = i
        · rw [d]
          exact g
        · exact e3 j (by omega)
  obtain ⟨b, e1, e2, e3⟩ := H
  exact ⟨b, e2, e3, e1⟩
theorem w_33 [Inhabited Frm] {N : Nat} {n a bad bp e o : Int} {aw ow T k : Nat → Int} {kk2 : Int → Int → (Nat → Int) → Option R_iM_goesOnTest} {Q : R_iM_goesOnTest → Prop} : ∀ (W L : List Int) (m : Nat) (s w : Int) (v : Nat → Int), W.length < m → W.length ≤ 700 → L.length + W.length < 100000 → w = W.length → stk k W → cod v s L → 25 ∈ W → (∀ s2 v2, cod v2 s2 (L ++ tkw n25 W) → wp (kk2 s2 ((drw n25 W).length : Int) v2) Q) → wp (iM_goesOnTest_b33 N n aw ow T a bad bp e o k kk2 m s w v) Q := by
  intro W
  induction W with
  | nil =>
    intro L m s w v hm hl hL hw h hv h25 kk
    exact absurd h25 List.not_mem_nil
  | cons x W ih =>
    intro L m s w v hm hl hL hw h hv h25 kk
    have hm1 : W.length + 1 < m := hm
    obtain ⟨m2, rfl⟩ : ∃ m2, m = m2 + 1 := ⟨m - 1, by omega⟩
    have hl2 : W.length + 1 ≤ 700 := hl
    have hL2 : L.length + (W.length + 1) < 100000 := hL
    show wp (iM_goesOnTest_b33_F N n aw ow T a bad bp e o k kk2 (iM_goesOnTest_b33 N n aw ow T a bad bp e o k kk2 m2) s w v) Q
    unfold iM_goesOnTest_b33_F
    rw [wp_bd1, w_isOn hw hl h, wp_some, onT_c]
    by_cases c : x = 25
    · rw [if_pos c, if_neg (by decide)]
      have cn : ¬ n25 x = true := fun g => (n25_iff.mp g) c
      rw [tkw_n cn, drw_n cn] at kk
      rw [hw]
      exact kk s v (by rw [List.append_nil]; exact hv)
    · rw [if_neg c, if_pos rfl, wp_bd3]
      refine w_drops hw (by omega) h hv (by omega) (fun v2 h2 => ?_)
      refine ih (L ++ [x]) m2 (s + 1) _ v2 (by omega) (by omega) (by rw [List.length_append]; show L.length + 1 + W.length < 100000; omega) rfl h.2 h2 ?_ (fun s3 v3 h3 => ?_)
      · rcases List.mem_cons.mp h25 with g | g
        · exact absurd g.symm c
        · exact g
      · rw [tkw_p (n25_iff.mpr c), drw_p (n25_iff.mpr c)] at kk
        exact kk s3 v3 (by rw [List.append_assoc] at h3; exact h3)
theorem w_87 [Inhabited Frm] {N : Nat} {n a bad bp e o : Int} {aw ow T k : Nat → Int} {Q : R_iM_goesOnTest → Prop} : ∀ (W L : List Int) (m : Nat) (s w : Int) (v : Nat → Int), W.length < m → W.length < 700 → L.length + W.length < 100000 → w = W.length → stk k W → cod v s L → (∀ s2 v2 k2, cod v2 s2 (L ++ tkw n14 W) → stk k2 (14 :: drw n14 W) → Q (1, a, bad, bp, s2, e, o, ((drw n14 W).length : Int) + 1, v2, k2)) → wp (iM_goesOnTest_b87 N n aw ow T a bad bp e o k m s w v) Q := by
  intro W
  induction W with
  | nil =>
    intro L m s w v hm hl hL hw h hv kk
    obtain ⟨m2, rfl⟩ : ∃ m2, m = m2 + 1 := ⟨m - 1, by have : 0 < m := hm; omega⟩
    have hw2 : w = 0 := hw
    show wp (iM_goesOnTest_b87_F N n aw ow T a bad bp e o k _ s w v) Q
    unfold iM_goesOnTest_b87_F
    rw [wp_bd1, w_isOn hw (by omega) h, wp_some]
    show wp (if (0 : Int) = 0 then _ else _) Q
    rw [if_pos rfl]
    rw [wp_gd, wp_gd, wp_some]
    refine ⟨jb_iff.mpr (by omega), jr_iff.mpr (by omega), ?_⟩
    have := kk s v (va_up k w.toNat 14) (by show cod v s (L ++ []); rw [List.append_nil]; exact hv) (w_pushE h hw)
    rw [hw]
    rw [hw] at this
    exact this
  | cons x W ih =>
    intro L m s w v hm hl hL hw h hv kk
    have hm1 : W.length + 1 < m := hm
    obtain ⟨m2, rfl⟩ : ∃ m2, m = m2 + 1 := ⟨m - 1, by omega⟩
    have hl2 : W.length + 1 < 700 := hl
    have hl3 : (x :: W).length ≤ 700 := by show W.length + 1 ≤ 700; omega
    have hL2 : L.length + (W.length + 1) < 100000 := hL
    have hw2 : w = (W.length : Int) + 1 := hw
    have dr : n14 x = true → wp (bd3 (iM_drops s w v k) fun s3 w3 v3 => iM_goesOnTest_b87 N n aw ow T a bad bp e o k m2 s3 w3 v3) Q := fun c => by
      rw [wp_bd3]
      refine w_drops hw (by omega) h hv (by omega) (fun v2 h2 => ?_)
      refine ih (L ++ [x]) m2 (s + 1) _ v2 (by omega) (by omega) (by rw [List.length_append]; show L.length + 1 + W.length < 100000; omega) rfl h.2 h2 (fun s3 v3 k3 h3 g3 => ?_)
      rw [tkw_p c, drw_p c] at kk
      exact kk s3 v3 k3 (by rw [List.append_assoc] at h3; exact h3) g3
    have fin : ¬ n14 x = true → wp (gd (jb w 700) <| gd (jr (w + 1)) <| some ((1 : Int), a, bad, bp, s, e, o, w + 1, v, va_up k w.toNat 14)) Q := fun cn => by
      rw [wp_gd, wp_gd, wp_some]
      rw [tkw_n cn, drw_n cn] at kk
      refine ⟨jb_iff.mpr (by omega), jr_iff.mpr (by omega), ?_⟩
      have := kk s v (va_up k w.toNat 14) (by rw [List.append_nil]; exact hv) (w_pushE h hw)
      rw [hw]
      rw [hw] at this
      exact this
    show wp (iM_goesOnTest_b87_F N n aw ow T a bad bp e o k (iM_goesOnTest_b87 N n aw ow T a bad bp e o k m2) s w v) Q
    unfold iM_goesOnTest_b87_F
    rw [wp_bd1, w_isOn hw hl3 h, wp_some, onT_c]
    by_cases c : x = 14
    · rw [if_pos c, if_neg (by decide)]
      exact dr (n14_iff.mpr c)
    · rw [if_neg c, if_pos rfl]
      exact fin (fun g => c (n14_iff.mp g))
theorem w_137 [Inhabited Frm] {N : Nat} {n a bad bp e o : Int} {aw ow T k : Nat → Int} {Q : R_iM_goesOnTest → Prop} : ∀ (W L : List Int) (m : Nat) (s w : Int) (v : Nat → Int), W.length < m → W.length < 700 → L.length + W.length < 100000 → w = W.length → stk k W → cod v s L → (∀ s2 v2 k2, cod v2 s2 (L ++ tkw n45 W) → stk k2 (15 :: drw n45 W) → Q (1, a, bad, bp, s2, e, o, ((drw n45 W).length : Int) + 1, v2, k2)) → wp (iM_goesOnTest_b137 N n aw ow T a bad bp e o k m s w v) Q := by
  intro W
  induction W with
  | nil =>
    intro L m s w v hm hl hL hw h hv kk
    obtain ⟨m2, rfl⟩ : ∃ m2, m = m2 + 1 := ⟨m - 1, by have : 0 < m := hm; omega⟩
    have hw2 : w = 0 := hw
    show wp (iM_goesOnTest_b137_F N n aw ow T a bad bp e o k _ s w v) Q
    unfold iM_goesOnTest_b137_F
    rw [wp_bd1, w_isOn hw (by omega) h, wp_some]
    show wp (if (0 : Int) = 0 then _ else _) Q
    rw [if_pos rfl]
    rw [wp_bd1, w_isOn hw (by omega) h, wp_some]
    show wp (if (0 : Int) = 0 then _ else _) Q
    rw [if_pos rfl]
    rw [wp_gd, wp_gd, wp_some]
    refine ⟨jb_iff.mpr (by omega), jr_iff.mpr (by omega), ?_⟩
    have := kk s v (va_up k w.toNat 15) (by show cod v s (L ++ []); rw [List.append_nil]; exact hv) (w_pushE h hw)
    rw [hw]
    rw [hw] at this
    exact this
  | cons x W ih =>
    intro L m s w v hm hl hL hw h hv kk
    have hm1 : W.length + 1 < m := hm
    obtain ⟨m2, rfl⟩ : ∃ m2, m = m2 + 1 := ⟨m - 1, by omega⟩
    have hl2 : W.length + 1 < 700 := hl
    have hl3 : (x :: W).length ≤ 700 := by show W.length + 1 ≤ 700; omega
    have hL2 : L.length + (W.length + 1) < 100000 := hL
    have hw2 : w = (W.length : Int) + 1 := hw
    have dr : n45 x = true → wp (bd3 (iM_drops s w v k) fun s3 w3 v3 => iM_goesOnTest_b137 N n aw ow T a bad bp e o k m2 s3 w3 v3) Q := fun c => by
      rw [wp_bd3]
      refine w_drops hw (by omega) h hv (by omega) (fun v2 h2 => ?_)
      refine ih (L ++ [x]) m2 (s + 1) _ v2 (by omega) (by omega) (by rw [List.length_append]; show L.length + 1 + W.length < 100000; omega) rfl h.2 h2 (fun s3 v3 k3 h3 g3 => ?_)
      rw [tkw_p c, drw_p c] at kk
      exact kk s3 v3 k3 (by rw [List.append_assoc] at h3; exact h3) g3
    have fin : ¬ n45 x = true → wp (gd (jb w 700) <| gd (jr (w + 1)) <| some ((1 : Int), a, bad, bp, s, e, o, w + 1, v, va_up k w.toNat 15)) Q := fun cn => by
      rw [wp_gd, wp_gd, wp_some]
      rw [tkw_n cn, drw_n cn] at kk
      refine ⟨jb_iff.mpr (by omega), jr_iff.mpr (by omega), ?_⟩
      have := kk s v (va_up k w.toNat 15) (by rw [List.append_nil]; exact hv) (w_pushE h hw)
      rw [hw]
      rw [hw] at this
      exact this
    show wp (iM_goesOnTest_b137_F N n aw ow T a bad bp e o k (iM_goesOnTest_b137 N n aw ow T a bad bp e o k m2) s w v) Q
    unfold iM_goesOnTest_b137_F
    rw [wp_bd1, w_isOn hw hl3 h, wp_some, onT_c]
    by_cases c : x = 14
    · rw [if_pos c, if_neg (by decide)]
      unfold iM_goesOnTest_b155
      exact dr (n45_iff.mpr (Or.inl c))
    · rw [if_neg c, if_pos rfl, wp_bd1, w_isOn hw hl3 h, wp_some, onT_c]
      by_cases c2 : x = 15
      · rw [if_pos c2, if_neg (by decide)]
        unfold iM_goesOnTest_b155
        exact dr (n45_iff.mpr (Or.inr c2))
      · rw [if_neg c2, if_pos rfl]
        exact fin (fun g => by have := n45_iff.mp g; omega)
