set_option maxHeartbeats 4000000
set_option maxRecDepth 100000
/-! the class: told otherwise -/
theorem w_entry0 {N a : Nat} (ha : a ≤ 39) {al de fa pa py pu : Nat → Int} : iRoll_entry N a 0 al de fa pa py pu = some (de a) := by
  have ek : (a : Int).toNat = a := rfl
  unfold iRoll_entry iK_isTerm
  rw [if_neg (by omega), if_neg (by omega), bd1_v, if_neg (by decide), if_pos rfl, gd, if_pos (jb_iff.mpr (by omega)), ek]
theorem w_isLike {N x : Nat} (hN : 5000 ≤ N) (hx : x ≤ 39) {de1 pu1 de pu : Nat → Int} : wp (iRoll_isLike N x de1 pu1 de pu) (fun r => (r = 0 ∨ r = 1) ∧ (r = 1 → de x = de1 x ∧ ∀ j, j < 19 → pu (x * 19 + j) = pu1 (x * 19 + j))) := by
  have ek : (x : Int).toNat = x := rfl
  unfold iRoll_isLike
  rw [wp_bd1, w_isTerm]
  refine ⟨fun _ => ?_, fun z => absurd (show (0 : Int) ≤ x ∧ (x : Int) < 40 by omega) z⟩
  rw [if_neg (by decide), wp_gd, ek, wp_ite]
  refine ⟨jb_iff.mpr (by omega), fun c => ?_, fun c => ?_⟩
  · rw [wp_gd]
    refine ⟨jr_iff.mpr (by omega), ?_⟩
    unfold iRoll_isLike_b30
    refine wp_zlp1 (fun (m : Nat) (x3 : Int) => ∃ k : Nat, k + m = 19 ∧ x3 = ((x * 19 + k : Nat) : Int) ∧ ∀ j, j < k → pu (x * 19 + j) = pu1 (x * 19 + j)) ?_ N 19 ((x : Int) * 19) (by omega) ⟨0, rfl, by omega, fun j hj => absurd hj (Nat.not_lt_zero j)⟩
    intro self m x3 ⟨k, k1, k2, k3⟩ ih
    subst k2
    have e2 : ((x * 19 + k : Nat) : Int).toNat = x * 19 + k := rfl
    unfold iRoll_isLike_b30_F
    rw [wp_gd, wp_gd, wp_ite]
    refine ⟨jr_iff.mpr (by omega), jr_iff.mpr (by omega), fun c2 => ?_, fun c2 => ?_⟩
    · rw [wp_some]
      exact ⟨Or.inr rfl, fun _ => ⟨c, fun j hj => k3 j (by omega)⟩⟩
    · rw [wp_gd, e2, wp_ite]
      refine ⟨jb_iff.mpr (by omega), fun c3 => ?_, fun c3 => ?_⟩
      · rw [wp_gd]
        refine ⟨jr_iff.mpr (by omega), ih (m - 1) _ (by omega) ⟨k + 1, by omega, by omega, fun j hj => ?_⟩⟩
        by_cases e : j = k
        · rw [e]
          exact c3
        · exact k3 j (by omega)
      · rw [wp_some]
        exact ⟨Or.inl rfl, fun q => absurd q (by decide)⟩
  · rw [wp_some]
    exact ⟨Or.inl rfl, fun q => absurd q (by decide)⟩
theorem w_begin {u t1 : Nat} (h1 : t1 ≤ 40) {s : Int} {W : RW} {sh0 to0 : Int} {de1 pu1 de pu : Nat → Int} (h : RlD s W t1 de1 pu1) {Q : R_iRoll_beginLike → Prop} (hQ : ∀ de2 pu2, RlD s W (min u t1) de2 pu2 → Q (s, ((min u t1 : Nat) : Int), de2, pu2)) : wp (iRoll_beginLike u s t1 de1 pu1 sh0 to0 de pu) Q := by
  have e1 : jmax 0 (jmin (u : Int) (t1 : Int)) = ((min u t1 : Nat) : Int) := by
    unfold jmax jmin
    split <;> split <;> omega
  have ek : ((min u t1 : Nat) : Int).toNat = min u t1 := rfl
  have ek2 : (((min u t1 : Nat) : Int) * 19).toNat = min u t1 * 19 := by omega
  unfold iRoll_beginLike
  rw [e1, wp_gd, wp_gd, wp_gd, wp_some, ek, ek2]
  refine ⟨decide_eq_true (by omega), jr_iff.mpr (by omega), decide_eq_true (by omega), hQ _ _ (fun x hx => ?_)⟩
  obtain ⟨a, b⟩ := h x (by omega)
  refine ⟨?_, fun j hj => ?_⟩
  · rw [pk_cpy_in (Nat.zero_le _) (by omega), Nat.sub_zero, Nat.zero_add]
    exact a
  · rw [pk_cpy_in (Nat.zero_le _) (by omega), Nat.sub_zero, Nat.zero_add]
    exact b j hj
theorem like_all {s : Int} {W W0 : RW} (hW : W.ok) (hW0 : W0.ok) {x : Nat} (hx : x ≤ 39) {de pu de1 pu1 : Nat → Int} {t t1 : Nat} (h : RlD s W t de pu) (h1 : RlD s W0 t1 de1 pu1) (hxt : x < t) (hxt1 : x < t1) (e1 : de x = de1 x) (e2 : ∀ j, j < 19 → pu (x * 19 + j) = pu1 (x * 19 + j)) : (roll s W (x + 1)).d = (roll s W0 (x + 1)).d ∧ ∀ j, (roll s W (x + 1)).o j = (roll s W0 (x + 1)).o j := by
  obtain ⟨a, b⟩ := h x hxt
  obtain ⟨a1, b1⟩ := h1 x hxt1
  refine ⟨by rw [← a, ← a1, e1], fun j => ?_⟩
  by_cases hj : j < 19
  · rw [← b j hj, ← b1 j hj, e2 j hj]
  · rw [(roll_ok (sh := s) hW (show x + 1 ≤ 40 by omega)).1.2 j (by omega), (roll_ok (sh := s) hW0 (show x + 1 ≤ 40 by omega)).1.2 j (by omega)]
/-- the acts and the chest, as the class's rolls see them -/
def CW (A : AW) (gr : Nat → Int) (D : DynI) (aw : Nat → Option Nat) : Prop := A.ok ∧ (∀ i, i < 10 → gr i = A.gw i) ∧ KWs A D aw
theorem w_tellsO {N a f t1 : Nat} (hN : 5000 ≤ N) (ha : a ≤ 39) {A : AW} {gr : Nat → Int} {D : DynI} {aw : Nat → Option Nat} (hC : CW A gr D aw) {at_ wo mv mt s M : Int} {fi fp nx wr de1 pu1 : Nat → Int} {W0 : RW} (hW0 : W0.ok) (hK : KnOk A at_ wo mv mt fi fp nx wr) (h1 : RlD s W0 t1 de1 pu1) (ht1 : a < t1) (hM : (roll s W0 (a + 1)).d ≠ M) (hS : ∀ y, f < y → y ≤ a → sameW (wld A at_ wo mv mt s) W0 y) {told : Nat} (ht : told ≤ 40) {jd jp js jt bl db pd : Int} {jst al de fa pa py pu : Nat → Int} (hR : RlD s (wld A at_ wo mv mt s) told de pu) {Q : R_iAudit_tellsOtherwise → Prop} (hQ : ∀ (jd2 jp2 js2 jt2 : Int) (jst2 : Nat → Int) (bl2 db2 pd2 to2 : Int) (al2 de2 fa2 pa2 py2 pu2 : Nat → Int), Q ((if (roll s (wld A at_ wo mv mt s) (a + 1)).d = M then 1 else 0), jd2, jp2, js2, jt2, jst2, bl2, db2, pd2, to2, al2, de2, fa2, pa2, py2, pu2)) : wp (iAudit_tellsOtherwise N f a M de1 pu1 A.c A.am A.ki A.sh aw gr D jd jp js jt jst fi fp nx wr bl db pd s told al de fa pa py pu) Q := by
  obtain ⟨hA, hg, hw⟩ := hC
  have hWok := wld_ok hA at_ wo mv mt s
  unfold iAudit_tellsOtherwise iRoll_nextTerm
  rw [wp_bd1, wp_some]
  unfold iAudit_tellsOtherwise_b9
  have b51 : ∀ (jd jp js jt : Int) (jst : Nat → Int) (bl db pd : Int) (t : Nat) (al de fa pa py pu : Nat → Int), a < t → RlD s (wld A at_ wo mv mt s) t de pu → wp (iAudit_tellsOtherwise_b51 N f a M de1 pu1 A.c A.am A.ki A.sh aw gr D fi fp nx wr s jd jp js jt jst bl db pd t al de fa pa py pu) Q := by
    intro jd jp js jt jst bl db pd t al de fa pa py pu hat hR2
    unfold iAudit_tellsOtherwise_b51
    rw [wp_bd1, w_entry0 ha, wp_some, (hR2 a hat).1]
    by_cases c : (roll s (wld A at_ wo mv mt s) (a + 1)).d = M
    · have q := hQ jd jp js jt jst bl db pd t al de fa pa py pu
      rw [if_pos c] at q
      rw [if_pos c, wp_some]
      exact q
    · have q := hQ jd jp js jt jst bl db pd t al de fa pa py pu
      rw [if_neg c] at q
      rw [if_neg c, wp_some]
      exact q
  refine wp_zlp16 (fun (m : Nat) (x6 jd jp js jt : Int) (jst : Nat → Int) (bl db pd to : Int) (al de fa pa py pu : Nat → Int) => ∃ k : Nat, 40 - k = m ∧ x6 = k ∧ to = k ∧ k ≤ 40 ∧ RlD s (wld A at_ wo mv mt s) k de pu) ?_ N (40 - told) told jd jp js jt jst bl db pd told al de fa pa py pu (by omega) ⟨told, rfl, rfl, rfl, ht, hR⟩
  intro self m x6 jd jp js jt jst bl db pd to al de fa pa py pu ⟨k, k1, k2, k3, k4, k5⟩ ih
  subst k2 k3
  unfold iAudit_tellsOtherwise_b9_F
  rw [wp_ite]
  refine ⟨fun c => b51 jd jp js jt jst bl db pd k al de fa pa py pu (by omega) k5, fun c => ?_⟩
  have hk : k ≤ a := by omega
  rw [wp_bd15]
  refine w_goTo (a := k) hN (by omega) hA hK hg hw (by omega) k5 (fun jd2 jp2 js2 jt2 jst2 bl2 db2 pd2 tl2 al2 de2 fa2 pa2 py2 pu2 q1 q2 q3 q4 => ?_)
  rw [if_neg (Nat.lt_irrefl k)] at q1
  subst q1
  have go : wp (gd (jr ((k : Int) + 1)) (self ((k : Int) + 1) jd2 jp2 js2 jt2 jst2 bl2 db2 pd2 ((k + 1 : Nat) : Int) al2 de2 fa2 pa2 py2 pu2)) Q := by
    rw [wp_gd]
    exact ⟨jr_iff.mpr (by omega), ih (m - 1) _ _ _ _ _ _ _ _ _ _ _ _ _ _ _ _ (by omega) ⟨k + 1, by omega, by omega, rfl, by omega, q2⟩⟩
  show wp (if (k : Int) < f then _ else _) Q
  rw [wp_ite]
  refine ⟨fun _ => go, fun c2 => ?_⟩
  rw [wp_bd1]
  refine wp_mono (w_isLike hN (show k ≤ 39 by omega)) (fun r hr => ?_)
  rw [wp_ite]
  refine ⟨fun _ => go, fun c3 => ?_⟩
  obtain ⟨e1, e2⟩ := hr.2 (hr.1.resolve_left c3)
  have la := like_all hWok hW0 (show k ≤ 39 by omega) q2 h1 (Nat.lt_succ_self k) (by omega) e1 e2
  have fin := (roll_like (x := k + 1) (Or.inr la) (a - k) (fun y y1 y2 => hS y (by omega) (by omega))).1
  rw [show k + 1 + (a - k) = a + 1 by omega] at fin
  rw [wp_some]
  have q := hQ jd2 jp2 js2 jt2 jst2 bl2 db2 pd2 ((k + 1 : Nat) : Int) al2 de2 fa2 pa2 py2 pu2
  rw [if_neg (fun z => hM (by rw [← fin]; exact z))] at q
  exact q
