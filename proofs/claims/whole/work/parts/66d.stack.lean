set_option maxHeartbeats 4000000
set_option maxRecDepth 100000
/-! the reference's waiting list, as a list (top first) -/
def stk (k : Nat → Int) : List Int → Prop
  | [] => True
  | x :: W => k W.length = x ∧ stk k W
theorem stk_up {k : Nat → Int} {i : Nat} {x : Int} : ∀ {W : List Int}, stk k W → W.length ≤ i → stk (va_up k i x) W
  | [], _, _ => trivial
  | y :: W, h, hi => by
    have hl : W.length + 1 ≤ i := hi
    exact ⟨by rw [va_up_ne _ _ (show W.length ≠ i by omega)]; exact h.1, stk_up h.2 (by omega)⟩
theorem stk_push {k : Nat → Int} {x : Int} {W : List Int} (h : stk k W) : stk (va_up k W.length x) (x :: W) := ⟨va_up_self _ _ _, stk_up h (Nat.le_refl _)⟩
theorem len_c {x : Int} {W : List Int} : ((x :: W).length : Int) = (W.length : Int) + 1 := rfl
theorem w_code [Inhabited Frm] {c s : Int} {v : Nat → Int} {L : List Int} {Q : R_iM_code → Prop} (h : cod v s L) (hl : L.length < 128640) (k : ∀ v', cod v' (s + 1) (L ++ [c]) → Q (s + 1, v')) : wp (iM_code c s v) Q := by
  have e := cod_l h
  unfold iM_code
  rw [Int.zero_add, wp_gd, wp_gd, wp_gd, wp_some]
  exact ⟨jr_iff.mpr (by omega), jb_iff.mpr (by omega), jr_iff.mpr (by omega), k _ (cod_push h)⟩
/-- is a on top? -/
def onT (a : Int) : List Int → Int
  | [] => 0
  | x :: _ => if x = a then 1 else 0
theorem w_isOn {a w : Int} {k : Nat → Int} {W : List Int} (hw : w = W.length) (hl : W.length ≤ 700) (h : stk k W) : iM_isOn a w k = some (onT a W) := by
  unfold iM_isOn
  cases W with
  | nil =>
    rw [if_pos (by rw [hw]; exact Int.le_refl 0)]
    rfl
  | cons x W =>
    rw [len_c] at hw
    have hl2 : W.length + 1 ≤ 700 := hl
    have e : (w - 1).toNat = W.length := by omega
    unfold gd
    rw [if_neg (by omega), if_pos (jr_iff.mpr (by omega)), if_pos (jb_iff.mpr (by omega)), e, h.1]
    show _ = some (if x = a then 1 else 0)
    by_cases c : x = a
    · rw [if_pos c, if_pos c]
    · rw [if_neg c, if_neg c]
theorem w_drops [Inhabited Frm] {x w s : Int} {k v : Nat → Int} {W L : List Int} {Q : R_iM_drops → Prop} (hw : w = (x :: W).length) (hl : W.length < 700) (h : stk k (x :: W)) (hv : cod v s L) (hL : L.length < 128640) (kk : ∀ v', cod v' (s + 1) (L ++ [x]) → Q (s + 1, (W.length : Int), v')) : wp (iM_drops s w v k) Q := by
  rw [len_c] at hw
  have e : (w - 1).toNat = W.length := by omega
  unfold iM_drops
  rw [wp_gd, wp_gd, wp_bd2, e, h.1]
  refine ⟨jr_iff.mpr (by omega), jb_iff.mpr (by omega), w_code hv hL (fun v' h' => ?_)⟩
  rw [wp_some]
  have := kk v' h'
  rw [show w - 1 = (W.length : Int) by omega]
  exact this
def mkB (x : Int) : Bool := decide (20 ≤ x ∧ x ≤ 24)
theorem mkB_iff {x : Int} : mkB x = true ↔ 20 ≤ x ∧ x ≤ 24 := decide_eq_true_iff
theorem w_isMk {x : Int} : iM_isMark x = some (if mkB x = true then 1 else 0) := by
  unfold iM_isMark
  by_cases h : mkB x = true
  · have := mkB_iff.mp h
    rw [if_neg (by omega), if_neg (by omega), if_pos h]
  · rw [if_neg h]
    by_cases c : x < 20
    · rw [if_pos c]
    · rw [if_neg c, if_pos (by have : ¬ (20 ≤ x ∧ x ≤ 24) := fun w => h (mkB_iff.mpr w); omega)]
/-- the first mark -/
def fm : List Int → Int
  | [] => -1
  | x :: S => if mkB x = true then x else fm S
def tkw (f : Int → Bool) : List Int → List Int
  | [] => []
  | x :: S => if f x = true then x :: tkw f S else []
def drw (f : Int → Bool) : List Int → List Int
  | [] => []
  | x :: S => if f x = true then drw f S else x :: S
def nmB (x : Int) : Bool := !mkB x
theorem drw_le {f : Int → Bool} : ∀ S : List Int, (drw f S).length ≤ S.length
  | [] => Nat.le_refl 0
  | x :: S => by
    unfold drw
    by_cases h : f x = true
    · rw [if_pos h]
      exact Nat.le_succ_of_le (drw_le S)
    · rw [if_neg h]
      exact Nat.le_refl _
theorem w_mark {N : Nat} (hN : 5000 ≤ N) {w : Int} {k : Nat → Int} {S B : List Int} (hw : w = (S ++ B).length) (hl : (S ++ B).length ≤ 700) (h : stk k (S ++ B)) : iM_mark N (B.length : Int) w k = some (fm S) := by
  have loop : ∀ (S : List Int) (m : Nat), S.length < m → (S ++ B).length ≤ 700 → stk k (S ++ B) → iM_mark_b7 N (B.length : Int) w k (fun e => iM_mark_b34 N (B.length : Int) w k e) m (((S ++ B).length : Int) - 1) = some (fm S) := by
    intro S
    induction S with
    | nil =>
      intro m hm hl h
      cases m with
      | zero => exact absurd hm (Nat.not_lt_zero _)
      | succ m =>
        show iM_mark_b7_F N (B.length : Int) w k (fun e => iM_mark_b34 N (B.length : Int) w k e) _ ((B.length : Int) - 1) = some (-1)
        unfold iM_mark_b7_F
        rw [if_pos (by omega)]
        show iM_mark_b34 N (B.length : Int) w k ((B.length : Int) - 1) = some (-1)
        unfold iM_mark_b34
        rw [if_pos (by omega)]
    | cons x S ih =>
      intro m hm hl h
      cases m with
      | zero => exact absurd hm (Nat.not_lt_zero _)
      | succ m =>
        have hl2 : (S ++ B).length + 1 ≤ 700 := hl
        have hb : B.length ≤ (S ++ B).length := by rw [List.length_append]; omega
        have e : ((((x :: S) ++ B).length : Int) - 1) = ((S ++ B).length : Int) := by
          show (((S ++ B).length + 1 : Nat) : Int) - 1 = _
          omega
        rw [e]
        show iM_mark_b7_F N (B.length : Int) w k (fun e => iM_mark_b34 N (B.length : Int) w k e) (iM_mark_b7 N (B.length : Int) w k (fun e => iM_mark_b34 N (B.length : Int) w k e) m) ((S ++ B).length : Int) = some (if mkB x = true then x else fm S)
        have hx : k ((S ++ B).length : Int).toNat = x := h.1
        unfold iM_mark_b7_F gd bd1
        rw [if_neg (by omega), if_pos (jb_iff.mpr (by omega)), hx, w_isMk]
        show (if (if mkB x = true then (1 : Int) else 0) = 0 then _ else _) = _
        by_cases c : mkB x = true
        · rw [if_pos c, if_neg (by decide), if_pos c]
          show iM_mark_b34 N (B.length : Int) w k ((S ++ B).length : Int) = some x
          unfold iM_mark_b34 gd
          rw [if_neg (by omega), if_pos (jb_iff.mpr (by omega)), hx]
        · rw [if_neg c, if_pos rfl, if_neg c, if_pos (jr_iff.mpr (by omega))]
          exact ih m (by have : S.length + 1 < m + 1 := hm; omega) (by omega) h.2
  unfold iM_mark gd
  rw [if_pos (jr_iff.mpr (by omega)), hw]
  have hs : S.length ≤ (S ++ B).length := by rw [List.length_append]; omega
  rw [hw] at loop
  exact loop S N (by omega) hl h
theorem w_dtm [Inhabited Frm] {N : Nat} {k : Nat → Int} {B : List Int} {Q : R_iM_dropsToMark → Prop} : ∀ (S L : List Int) (m : Nat) (s w : Int) (v : Nat → Int), S.length < m → (S ++ B).length ≤ 700 → L.length + S.length < 100000 → w = (S ++ B).length → stk k (S ++ B) → cod v s L → (∀ s' v', cod v' s' (L ++ tkw nmB S) → Q (s', ((drw nmB S ++ B).length : Int), v')) → wp (iM_dropsToMark_b0 N (B.length : Int) k m s w v) Q := by
  intro S
  induction S with
  | nil =>
    intro L m s w v hm hl hL hw h hv kk
    cases m with
    | zero => exact absurd hm (Nat.not_lt_zero _)
    | succ m =>
      show wp (iM_dropsToMark_b0_F N (B.length : Int) k _ s w v) Q
      have hw2 : w = (B.length : Int) := hw
      unfold iM_dropsToMark_b0_F
      rw [if_pos (by omega), wp_some, hw2]
      exact kk s v (by show cod v s (L ++ []); rw [List.append_nil]; exact hv)
  | cons x S ih =>
    intro L m s w v hm hl hL hw h hv kk
    cases m with
    | zero => exact absurd hm (Nat.not_lt_zero _)
    | succ m =>
      show wp (iM_dropsToMark_b0_F N (B.length : Int) k (iM_dropsToMark_b0 N (B.length : Int) k m) s w v) Q
      have hw2 : w = ((S ++ B).length : Int) + 1 := hw
      have hl2 : (S ++ B).length + 1 ≤ 700 := hl
      have hm2 : S.length < m := by have : S.length + 1 < m + 1 := hm; omega
      have hL2 : L.length + (S.length + 1) < 100000 := hL
      have hb : B.length ≤ (S ++ B).length := by rw [List.length_append]; omega
      have e : (w - 1).toNat = (S ++ B).length := by omega
      have hx : k (S ++ B).length = x := h.1
      unfold iM_dropsToMark_b0_F
      rw [if_neg (by omega), wp_gd, wp_gd, wp_bd1, e, hx, w_isMk, wp_some]
      refine ⟨jr_iff.mpr (by omega), jb_iff.mpr (by omega), ?_⟩
      by_cases c : mkB x = true
      · rw [if_pos c, if_neg (by decide), wp_some, hw]
        have n0 : ¬ nmB x = true := by unfold nmB; rw [c]; decide
        have := kk s v (by unfold tkw; rw [if_neg n0, List.append_nil]; exact hv)
        unfold drw at this
        rw [if_neg n0] at this
        exact this
      · rw [if_neg c, if_pos rfl, wp_bd3]
        have n1 : nmB x = true := by
          unfold nmB
          cases g : mkB x with
          | true => exact absurd g c
          | false => rfl
        refine w_drops (W := S ++ B) hw (by omega) h hv (by omega) (fun v' h' => ?_)
        refine ih (L ++ [x]) m (s + 1) _ v' hm2 (by omega) (by rw [List.length_append]; show L.length + 1 + S.length < 100000; omega) rfl h.2 h' (fun s2 v2 h2 => ?_)
        have e1 : tkw nmB (x :: S) = x :: tkw nmB S := if_pos n1
        have e2 : drw nmB (x :: S) = drw nmB S := if_pos n1
        rw [e1, e2] at kk
        exact kk s2 v2 (by rw [List.append_assoc] at h2; exact h2)
