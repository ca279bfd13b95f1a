set_option maxHeartbeats 4000000
set_option maxRecDepth 100000
/-! the class: one term after another -/
theorem lsum_b {A : AW} {g : Nat → Int} : ∀ {L : List Nat}, (∀ j, j ∈ L → 0 ≤ g j ∧ g j ≤ 3000000) → 0 ≤ lsum g L ∧ lsum g L ≤ 3000000 * L.length
  | [], _ => ⟨Int.le_refl 0, by show (0 : Int) ≤ 3000000 * ((0 : Nat) : Int); omega⟩
  | j :: L, h => by
    have a := h j (List.mem_cons_self ..)
    have b := lsum_b (A := A) (L := L) (fun z hz => h z (List.mem_cons_of_mem _ hz))
    show 0 ≤ g j + lsum g L ∧ g j + lsum g L ≤ 3000000 * ((L.length + 1 : Nat) : Int)
    omega
theorem w_takeIn {N x : Nat} (hN : 5000 ≤ N) (hx : x ≤ 39) {A : AW} (hA : A.ok) {at_ wo mv mt s bl d : Int} {gr fi fp nx wr : Nat → Int} (hK : KnOk A at_ wo mv mt fi fp nx wr) (hg : ∀ i, i < 10 → gr i = A.gw i) (hd : bB d 8000000000000) : wp (iRoll_takeIn N x A.c A.am A.ki A.sh gr fi fp nx bl d 0 s) (fun r => r = (d - (wld A at_ wo mv mt s).py x bl, (wld A at_ wo mv mt s).py x bl)) := by
  have hc := hA.1
  obtain ⟨d1, d2⟩ := hd
  obtain ⟨_, kf, kl⟩ := hK
  obtain ⟨L, l1, l2, l3, l4⟩ := kl x (by omega)
  have fb := fA_b hA at_ wo x A.c (Nat.le_refl _)
  have ef := fA_mK A at_ wo x A.c
  have ms := mK_s A at_ wo 4 x A.c
  have fx := kf x (by omega)
  have epy : (wld A at_ wo mv mt s).py x bl = lsum (fun k => if A.sh k = s then wrt A (fA A at_ wo x A.c) bl k else 0) L := by
    show pA A at_ wo mv mt s x (fA A at_ wo x A.c) bl A.c = _
    rw [pA_sum, l4]
  rw [epy]
  generalize hF : fA A at_ wo x A.c = F at *
  generalize hG : (fun k => if A.sh k = s then wrt A F bl k else 0) = G at *
  have gb : ∀ j, j ∈ L → 0 ≤ G j ∧ G j ≤ 3000000 := fun j hj => by
    rw [← hG]
    show 0 ≤ (if A.sh j = s then wrt A F bl j else 0) ∧ (if A.sh j = s then wrt A F bl j else 0) ≤ 3000000
    by_cases c : A.sh j = s
    · rw [if_pos c]
      exact wrt_b hA fb (l3 j hj).1.1 (l3 j hj).1.2 (l3 j hj).2
    · rw [if_neg c]
      omega
  have ex : (x : Int).toNat = x := rfl
  have loop : ∀ (L2 : List Nat) (m n : Nat) (x2 p : Int), lnk nx x2 L2 → L2.length < m → n + L2.length ≤ 200 → (∀ j, j ∈ L2 → (1 ≤ j ∧ j ≤ A.c) ∧ (A.ki j = 2 ∨ A.ki j = 3)) → (∀ j, j ∈ L2 → 0 ≤ G j ∧ G j ≤ 3000000) → (0 ≤ p ∧ p ≤ 3000000 * n) → wp (iRoll_takeIn_b11 N x A.c A.am A.ki A.sh gr fi fp nx bl s d (fun e13_ => iRoll_takeIn_b75 N x A.c A.am A.ki A.sh gr fi fp nx bl s d e13_) m x2 n p) (fun r => r = (d - (p + lsum G L2), p + lsum G L2)) := by
    intro L2
    induction L2 with
    | nil =>
      intro m n x2 p h1 hm hn h3 h4 hp
      obtain ⟨m2, rfl⟩ : ∃ m2, m = m2 + 1 := ⟨m - 1, by have : 0 < m := hm; omega⟩
      obtain ⟨p1, p2⟩ := hp
      have h1' : x2 = 0 := h1
      subst h1'
      have fin : wp (iRoll_takeIn_b75 N x A.c A.am A.ki A.sh gr fi fp nx bl s d p) (fun r => r = (d - (p + lsum G []), p + lsum G [])) := by
        unfold iRoll_takeIn_b75
        rw [wp_gd, wp_some]
        show _ ∧ (d - p, p) = (d - (p + 0), p + 0)
        rw [Int.add_zero]
        exact ⟨jR_iff.mpr (by omega), rfl⟩
      show wp (iRoll_takeIn_b11_F N x A.c A.am A.ki A.sh gr fi fp nx bl s d (fun e13_ => iRoll_takeIn_b75 N x A.c A.am A.ki A.sh gr fi fp nx bl s d e13_) _ 0 n p) _
      unfold iRoll_takeIn_b11_F
      rw [wp_ite]
      refine ⟨fun _ => fin, fun _ => ?_⟩
      have ip : iActs_isPayment 0 A.c A.ki = some 0 := by
        unfold iActs_isPayment iActs_isAct
        rw [if_pos (by decide), bd1_v, if_pos rfl]
      rw [wp_bd1, ip, wp_some, if_pos rfl]
      exact fin
    | cons k L2 ih =>
      intro m n x2 p h1 hm hn h3 h4 hp
      have hm1 : L2.length + 1 < m := hm
      have hn1 : n + (L2.length + 1) ≤ 200 := hn
      obtain ⟨m2, rfl⟩ : ∃ m2, m = m2 + 1 := ⟨m - 1, by omega⟩
      obtain ⟨e1, h1b⟩ := h1
      subst e1
      obtain ⟨⟨k1, k2⟩, k3⟩ := h3 k (List.mem_cons_self ..)
      have ek : (k : Int).toNat = k := rfl
      have gk := h4 k (List.mem_cons_self ..)
      obtain ⟨p1, p2⟩ := hp
      have lb := lsum_b (A := A) (L := L2) (g := G) (fun z hz => h4 z (List.mem_cons_of_mem _ hz))
      show wp (iRoll_takeIn_b11_F N x A.c A.am A.ki A.sh gr fi fp nx bl s d (fun e13_ => iRoll_takeIn_b75 N x A.c A.am A.ki A.sh gr fi fp nx bl s d e13_) (iRoll_takeIn_b11 N x A.c A.am A.ki A.sh gr fi fp nx bl s d (fun e13_ => iRoll_takeIn_b75 N x A.c A.am A.ki A.sh gr fi fp nx bl s d e13_) m2) k n p) _
      unfold iRoll_takeIn_b11_F
      have b60 : ∀ z : Int, z = p + G k → (0 ≤ z ∧ z ≤ 3000000 * ((n + 1 : Nat) : Int)) → wp (iRoll_takeIn_b60 N x A.c A.am A.ki A.sh gr fi fp nx bl s (iRoll_takeIn_b11 N x A.c A.am A.ki A.sh gr fi fp nx bl s d (fun e13_ => iRoll_takeIn_b75 N x A.c A.am A.ki A.sh gr fi fp nx bl s d e13_) m2) (fun e13_ => iRoll_takeIn_b75 N x A.c A.am A.ki A.sh gr fi fp nx bl s d e13_) k n d z) (fun r => r = (d - (p + lsum G (k :: L2)), p + lsum G (k :: L2))) := fun z hz hzb => by
        unfold iRoll_takeIn_b60 iKnown_nextPayment
        rw [if_neg (by omega), if_neg (by omega), wp_bd1, wp_gd, wp_some, wp_gd, ek]
        have := ih m2 (n + 1) (nx k) z h1b (by omega) (by omega) (fun j hj => h3 j (List.mem_cons_of_mem _ hj)) (fun j hj => h4 j (List.mem_cons_of_mem _ hj)) hzb
        have e2 : p + lsum G (k :: L2) = z + lsum G L2 := by
          show p + (G k + lsum G L2) = _
          omega
        rw [e2]
        exact ⟨jb_iff.mpr (by omega), jr_iff.mpr (by omega), this⟩
      rw [if_neg (by omega), wp_bd1, w_isPayK hA k1 k2, wp_some, if_pos k3, if_neg (by decide), wp_gd, ek]
      refine ⟨jb_iff.mpr (by omega), ?_⟩
      by_cases cs : A.sh k = s
      · have eG : G k = wrt A F bl k := by
          rw [← hG]
          exact if_pos cs
        have wf : wp (iRoll_worthOf k x A.am A.ki gr fi bl) (fun r => r = wrt A F bl k) := by
          have o := hA.2.1 k k1 k2
          unfold iRoll_worthOf wrt
          rw [wp_gd, ek]
          refine ⟨jb_iff.mpr (by omega), ?_⟩
          by_cases c3 : A.ki k = 3
          · have ab := o.2.2.2.2.2.1 c3
            rw [if_pos c3, if_neg (show ¬ A.ki k = 2 by omega), wp_bd1]
            unfold iChest_goodWorth iK_isStick
            rw [if_neg (by omega), if_neg (by omega), wp_bd1, wp_some, if_neg (by decide), wp_gd, wp_some, wp_some]
            exact ⟨jb_iff.mpr (by omega), hg _ (by omega)⟩
          · have c2 := k3.resolve_right c3
            have ab := o.2.2.2.2.1 c2
            rw [if_neg c3, if_pos c2]
            by_cases cb : bl = 0
            · rw [if_pos cb, if_pos cb, wp_some]
            · rw [if_neg cb, if_neg cb, wp_bd1]
              unfold iKnown_fireOf
              rw [wp_bd1, w_isTerm]
              refine ⟨fun _ => ?_, fun z => absurd (show (0 : Int) ≤ x ∧ (x : Int) < 40 by omega) z⟩
              have m0 : 0 ≤ A.am k * F := Int.mul_nonneg (by omega) fb.1
              have m1 : A.am k * F ≤ A.am k * 120 := Int.mul_le_mul_of_nonneg_left fb.2 (by omega)
              have last : wp (gd (jR (A.am k * F)) (gd (jR ((A.am k * F).tdiv 240)) (gd (jR (A.am k - (A.am k * F).tdiv 240)) (some (A.am k - (A.am k * F).tdiv 240))))) (fun r => r = A.am k - A.am k * F / 240) := by
                rw [wp_gd, wp_gd, wp_gd, wp_some, Int.tdiv_eq_ediv_of_nonneg m0]
                exact ⟨jR_iff.mpr (by omega), jR_iff.mpr (by omega), jR_iff.mpr (by omega), rfl⟩
              rw [if_neg (by decide), wp_gd, ex, fx]
              refine ⟨jb_iff.mpr (by omega), ?_⟩
              by_cases cm : mK A at_ wo 4 x A.c = 0
              · rw [if_pos (by omega), wp_some]
                rw [if_pos cm] at ef
                rw [← ef]
                exact last
              · rw [if_neg cm] at ef
                have em : ((mK A at_ wo 4 x A.c : Nat) : Int).toNat = mK A at_ wo 4 x A.c := rfl
                rw [if_neg (by omega), wp_gd, wp_some, em, ← ef]
                exact ⟨jb_iff.mpr (by omega), last⟩
        rw [if_pos cs, wp_bd1]
        refine wp_mono wf (fun r hr => ?_)
        subst hr
        rw [wp_gd]
        rw [← eG]
        exact ⟨jR_iff.mpr (by omega), b60 _ rfl ⟨by omega, by omega⟩⟩
      · have eG : G k = 0 := by
          rw [← hG]
          exact if_neg cs
        rw [if_neg cs]
        exact b60 p (by omega) ⟨p1, by omega⟩
  unfold iRoll_takeIn iKnown_firstPayment
  rw [wp_bd1, wp_bd1, w_isTerm]
  refine ⟨fun _ => ?_, fun z => absurd (show (0 : Int) ≤ x ∧ (x : Int) < 40 by omega) z⟩
  rw [if_neg (by decide), wp_gd, wp_some, ex]
  refine ⟨jb_iff.mpr (by omega), ?_⟩
  have := loop L N 0 (fp x) 0 l1 (by omega) (by omega) l3 gb ⟨Int.le_refl 0, by decide⟩
  rw [Int.zero_add] at this
  exact this
/-- told so far: debts and what is put off -/
def RlD (s : Int) (W : RW) (told : Nat) (de pu : Nat → Int) : Prop := ∀ x, x < told → de x = (roll s W (x + 1)).d ∧ PO x pu (roll s W (x + 1)).o
theorem w_comeDue {N x : Nat} (hN : 5000 ≤ N) (hx : x ≤ 39) {s : Int} {W : RW} (hW : W.ok) {d : Int} {de pu : Nat → Int} (h : ∀ y, y + 1 = x → de y = (roll s W x).d ∧ PO y pu (roll s W x).o) {Q : R_iRoll_comeDue → Prop} (hQ : ∀ pu2, PO x pu2 (fun j => (roll s W x).o (j + 1)) → outR x pu pu2 → Q ((roll s W x).d + (roll s W x).o 0, pu2)) : wp (iRoll_comeDue N x d de pu) Q := by
  unfold iRoll_comeDue
  by_cases h0 : x = 0
  · subst h0
    rw [if_pos (show ((0 : Nat) : Int) = 0 from rfl)]
    unfold iRoll_comeDue_b16
    refine wp_zlp2 (fun (m : Nat) (x3 : Int) (u : Nat → Int) => ∃ k : Nat, k + m = 19 ∧ x3 = k ∧ (∀ j, j < k → u j = 0) ∧ ∀ j, 19 ≤ j → u j = pu j) ?_ N 19 0 pu (by omega) ⟨0, rfl, rfl, fun j hj => absurd hj (Nat.not_lt_zero j), fun _ _ => rfl⟩
    intro self m x3 u ⟨k, k1, k2, k3, k4⟩ ih
    subst k2
    have ek : (k : Int).toNat = k := rfl
    unfold iRoll_comeDue_b16_F
    rw [wp_ite]
    refine ⟨fun c => ?_, fun c => ?_⟩
    · unfold iRoll_comeDue_b35
      rw [wp_some]
      refine hQ u (fun j hj => ?_) (fun y hy => k4 y (by omega))
      show u (0 * 19 + j) = 0
      rw [show 0 * 19 + j = j by omega]
      exact k3 j (by omega)
    · rw [wp_gd, wp_gd, ek]
      refine ⟨jb_iff.mpr (by omega), jr_iff.mpr (by omega), ih (m - 1) _ _ (by omega) ⟨k + 1, by omega, by omega, fun j hj => ?_, fun j hj => ?_⟩⟩
      · by_cases e : j = k
        · rw [e, va_up_self]
        · rw [va_up_ne _ _ e]
          exact k3 j (by omega)
      · rw [va_up_ne _ _ (by omega)]
        exact k4 j hj
  · obtain ⟨y, rfl⟩ : ∃ y, x = y + 1 := ⟨x - 1, by omega⟩
    obtain ⟨e1, e2⟩ := h y rfl
    have rb := roll_b (sh := s) hW (show y + 1 ≤ 40 by omega)
    have ro := (roll_ok (sh := s) hW (show y + 1 ≤ 40 by omega)).1
    obtain ⟨⟨b1, b2⟩, b3⟩ := rb
    have b30 := b3 0
    have p0 := e2 0 (by omega)
    have t1 : (((y + 1 : Nat) : Int) - 1).toNat = y := by omega
    have t2 : ((((y + 1 : Nat) : Int) * 19 - 19)).toNat = y * 19 := by omega
    have t3 : ((((y + 1 : Nat) : Int) * 19 - 19) + 1).toNat = y * 19 + 1 := by omega
    have t4 : (((y + 1 : Nat) : Int) * 19).toNat = (y + 1) * 19 := by omega
    have t5 : ((((y + 1 : Nat) : Int) * 19 + 19) - 1).toNat = (y + 1) * 19 + 18 := by omega
    rw [if_neg (by omega), wp_gd, wp_gd, wp_gd, wp_gd, wp_gd, wp_gd, wp_gd, wp_gd, wp_gd, wp_gd, wp_gd, wp_some, t1, t2, t3, t4, t5, e1]
    have p0' : pu (y * 19) = (roll s W (y + 1)).o 0 := p0
    rw [p0']
    refine ⟨jr_iff.mpr (by omega), jb_iff.mpr (by omega), jr_iff.mpr (by omega), jr_iff.mpr (by omega), jb_iff.mpr (by omega), jr_iff.mpr (by omega), decide_eq_true (by omega), jr_iff.mpr (by omega), jr_iff.mpr (by omega), jb_iff.mpr (by omega), jR_iff.mpr (by omega), hQ _ (fun j hj => ?_) (fun z hz => ?_)⟩
    · by_cases ej : j = 18
      · subst ej
        rw [va_up_self]
        exact (ro.2 19 (Nat.le_refl 19)).symm
      · rw [va_up_ne _ _ (by omega), pk_cpy_in (by omega) (by omega)]
        rw [show y * 19 + 1 + ((y + 1) * 19 + j - (y + 1) * 19) = y * 19 + (j + 1) by omega]
        exact e2 (j + 1) (by omega)
    · rw [va_up_ne _ _ (by omega), pk_cpy_out (by omega)]
/-- the class's row of writs -/
def KWs (A : AW) (D : DynI) (aw : Nat → Option Nat) : Prop := aw 0 = none ∧ ∀ k, 1 ≤ k → k ≤ A.c → A.ki k = 1 → ∃ w, aw k = some w ∧ KWr D w (A.Wf k)
def RlE (s : Int) (W : RW) (x : Nat) (al fa pa py : Nat → Int) : Prop := fa x = (roll s W (x + 1)).fa ∧ al x = (roll s W (x + 1)).al ∧ pa x = (roll s W (x + 1)).pa ∧ py x = (roll s W (x + 1)).pd
theorem w_goTo {N a : Nat} (hN : 5000 ≤ N) (ha : a ≤ 39) {A : AW} (hA : A.ok) {at_ wo mv mt s : Int} {gr fi fp nx wr : Nat → Int} {D : DynI} {aw : Nat → Option Nat} (hK : KnOk A at_ wo mv mt fi fp nx wr) (hg : ∀ i, i < 10 → gr i = A.gw i) (hw : KWs A D aw) {told : Nat} (ht : told ≤ 40) {jd jp js jt bl d p : Int} {jst al de fa pa py pu : Nat → Int} (hR : RlD s (wld A at_ wo mv mt s) told de pu) {Q : R_iRoll_goTo → Prop} (hQ : ∀ (jd2 jp2 js2 jt2 : Int) (jst2 : Nat → Int) (bl2 d2 p2 : Int) (tl2 : Nat) (al2 de2 fa2 pa2 py2 pu2 : Nat → Int), tl2 = (if a < told then told else a + 1) → RlD s (wld A at_ wo mv mt s) tl2 de2 pu2 → (∀ x, told ≤ x → x < tl2 → RlE s (wld A at_ wo mv mt s) x al2 fa2 pa2 py2) → (∀ x, x < told → al2 x = al x ∧ de2 x = de x ∧ fa2 x = fa x ∧ pa2 x = pa x ∧ py2 x = py x) → Q (jd2, jp2, js2, jt2, jst2, bl2, d2, p2, tl2, al2, de2, fa2, pa2, py2, pu2)) : wp (iRoll_goTo N a A.c A.am A.ki A.sh aw gr D jd jp js jt jst fi fp nx wr bl d p s told al de fa pa py pu) Q := by
  have hWok := wld_ok hA at_ wo mv mt s
  have wte : ∀ x, (wld A at_ wo mv mt s).wt x = wtA A at_ wo x := fun x => rfl
  have hc := hA.1
  unfold iRoll_goTo iRoll_goTo_b5
  generalize hWl : wld A at_ wo mv mt s = Wl at *
  refine wp_zlp16 (fun (m : Nat) (x2 jd jp js jt : Int) (jst : Nat → Int) (bl d p tl : Int) (al2 de2 fa2 pa2 py2 pu2 : Nat → Int) => ∃ k : Nat, k + m = (if a < told then told else a + 1) ∧ told ≤ k ∧ x2 = k ∧ tl = k ∧ RlD s Wl k de2 pu2 ∧ (∀ x, told ≤ x → x < k → RlE s Wl x al2 fa2 pa2 py2) ∧ ∀ x, x < told → al2 x = al x ∧ de2 x = de x ∧ fa2 x = fa x ∧ pa2 x = pa x ∧ py2 x = py x) ?_ N ((if a < told then told else a + 1) - told) told jd jp js jt jst bl d p told al de fa pa py pu (by split <;> omega) ⟨told, by split <;> omega, Nat.le_refl _, rfl, rfl, hR, fun x h1 h2 => by omega, fun _ _ => ⟨rfl, rfl, rfl, rfl, rfl⟩⟩
  intro self m x2 jd jp js jt jst bl d p tl al2 de2 fa2 pa2 py2 pu2 ⟨k, k1, k2, k3, k4, k5, k6, k7⟩ ih
  subst k3 k4
  unfold iRoll_goTo_b5_F
  rw [wp_ite]
  refine ⟨fun c => ?_, fun c => ?_⟩
  · have e : k = (if a < told then told else a + 1) := by split at k1 <;> split <;> omega
    rw [wp_some]
    exact hQ _ _ _ _ _ _ _ _ k _ _ _ _ _ _ e k5 k6 k7
  · have hk : k ≤ 39 := by omega
    have hka : ¬ a < told := by omega
    rw [if_neg hka] at k1
    have ek : (k : Int).toNat = k := rfl
    rw [if_neg (by omega)]
    have hS := roll_ok (sh := s) hWok (show k ≤ 40 by omega)
    have sb := step_b (sh := s) hWok hk hS
    have enx : roll s Wl (k + 1) = rstep s Wl k (roll s Wl k) := rfl
    obtain ⟨b1, b2, b3, b4, b5, b6, b7, b8, b9, c1, c2, c3, c4, c5⟩ := sb
    -- the term's writ
    have ws := wA_s A at_ wo k A.c
    have kop : KOp D (aw (wA A at_ wo k A.c)) (Wl.wt k) ∧ (aw (wA A at_ wo k A.c) ≠ none → wsOk (Wl.wt k)) := by
      rw [wte]
      unfold wtA
      by_cases z : wA A at_ wo k A.c = 0
      · rw [if_pos z, z, hw.1]
        exact ⟨Or.inl ⟨rfl, rfl⟩, fun q => absurd rfl q⟩
      · have w1 := ws.2 z
        obtain ⟨w, e1, e2⟩ := hw.2 (wA A at_ wo k A.c) (by omega) ws.1 w1.1
        rw [if_neg z, e1]
        exact ⟨Or.inr ⟨w, rfl, e2⟩, fun _ => hA.2.2.1 _ (by omega) ws.1 w1.1⟩
    obtain ⟨ko1, ko2⟩ := kop
    have ewr : iKnown_writOf k aw wr = some (aw (wA A at_ wo k A.c)) := by
      have e := hK.1 k (by omega)
      have et : ((wA A at_ wo k A.c : Nat) : Int).toNat = wA A at_ wo k A.c := rfl
      have wl := ws.1
      unfold iKnown_writOf iK_isTerm
      rw [if_neg (by omega), if_neg (by omega), bd1_v, if_neg (by decide), gd, if_pos (jb_iff.mpr (by omega)), ek, e, gd, if_pos (jb_iff.mpr (by omega)), et]
    generalize hO : aw (wA A at_ wo k A.c) = O at *
    have vOk : ∀ w, w ∈ Wl.wt k → wOk w := (hWok.1 k).2
    have g2 : (st2 s Wl k (roll s Wl k)).2.2 = (st1 s Wl k (roll s Wl k)).2.2 := runK_bl (Or.inl rfl) vOk
    have g3 : (st3 s Wl k (roll s Wl k)).2.2 = (st2 s Wl k (roll s Wl k)).2.2 := runK_bl (Or.inr rfl) vOk
    rw [wp_bd1, ewr, wp_some, wp_bd2]
    refine w_comeDue hN hk hWok (fun y hy => by subst hy; exact k5 y (by omega)) (fun pu3 p1 p2 => ?_)
    rw [wp_bd8]
    refine w_reck (V := Wl.wt k) hN hk (Or.inl rfl) ko2 ko1 b1 (Or.inl rfl) (fun jd3 jp3 js3 jt3 jst3 => ?_)
    show wp (gd (jb k 40) (bd8 (iRoll_reckon N O k 2 D jd3 jp3 js3 jt3 jst3 (st1 s Wl k (roll s Wl k)).2.2 (st1 s Wl k (roll s Wl k)).1 0 s) _)) Q
    rw [wp_gd, wp_bd8]
    refine ⟨jb_iff.mpr (by omega), ?_⟩
    refine w_reck (V := Wl.wt k) hN hk (Or.inr (Or.inl rfl)) ko2 ko1 b2 b4 (fun jd4 jp4 js4 jt4 jst4 => ?_)
    rw [wp_bd8]
    show wp (iRoll_reckon N O k 3 D jd4 jp4 js4 jt4 jst4 (st2 s Wl k (roll s Wl k)).2.2 (st2 s Wl k (roll s Wl k)).1 0 s) _
    refine w_reck (V := Wl.wt k) hN hk (Or.inr (Or.inr rfl)) ko2 ko1 b5 b7 (fun jd5 jp5 js5 jt5 jst5 => ?_)
    rw [wp_bd2]
    show wp (iRoll_takeIn N k A.c A.am A.ki A.sh gr fi fp nx (st3 s Wl k (roll s Wl k)).2.2 (st3 s Wl k (roll s Wl k)).1 0 s) _
    have pay := w_takeIn hN hk hA (s := s) (bl := (st3 s Wl k (roll s Wl k)).2.2) (d := (st3 s Wl k (roll s Wl k)).1) hK hg ⟨by have := b8.1; omega, by have := b8.2; omega⟩
    rw [hWl] at pay
    refine wp_mono pay (fun r hr => ?_)
    have esp : Wl.py k (st3 s Wl k (roll s Wl k)).2.2 = stP s Wl k (roll s Wl k) := rfl
    rw [esp] at hr
    subst hr
    rw [wp_bd7]
    have po : aB ((st3 s Wl k (roll s Wl k)).1 - stP s Wl k (roll s Wl k)) + oS (fun j => (roll s Wl k).o (j + 1)) 19 ≤ 10000000000000 := by
      have q := c5.2
      have rs := (runS_b (sh := s) (p := stP s Wl k (roll s Wl k)) (x := k) (V := Wl.wt k) (s := ((st3 s Wl k (roll s Wl k)).1 - stP s Wl k (roll s Wl k), fun j => (roll s Wl k).o (j + 1))) vOk c4).2
      have q2 : aB (st4 s Wl k (roll s Wl k)).1 + oS (st4 s Wl k (roll s Wl k)).2 19 ≤ 172000000000 * ((k + 1 : Nat) : Int) := q
      have q3 : aB (st4 s Wl k (roll s Wl k)).1 + oS (st4 s Wl k (roll s Wl k)).2 19 = aB ((st3 s Wl k (roll s Wl k)).1 - stP s Wl k (roll s Wl k)) + oS (fun j => (roll s Wl k).o (j + 1)) 19 := rs
      omega
    refine w_split (V := Wl.wt k) hN hk ko2 ko1 c4 p1 po (fun jd6 jp6 js6 jt6 jst6 pu6 q1 q2 => ?_)
    rw [wp_gd]
    refine ⟨jr_iff.mpr (by omega), ih (m - 1) _ _ _ _ _ _ _ _ _ _ _ _ _ _ _ _ (by omega) ⟨k + 1, by rw [if_neg hka]; omega, by omega, rfl, rfl, ?_, ?_, ?_⟩⟩
    · intro x hx
      rw [ek]
      by_cases e : x = k
      · subst e
        rw [va_up_self, enx]
        exact ⟨rfl, q1⟩
      · have h5 := k5 x (by omega)
        rw [va_up_ne _ _ e]
        refine ⟨h5.1, fun j hj => ?_⟩
        show pu6 (x * 19 + j) = _
        rw [q2 _ (by omega)]
        show pu3 (x * 19 + j) = _
        rw [p2 _ (by omega)]
        exact h5.2 j hj
    · intro x hx1 hx2
      rw [ek]
      by_cases e : x = k
      · subst e
        unfold RlE
        rw [va_up_self, va_up_self, va_up_self, va_up_self, enx]
        exact ⟨rfl, rfl, rfl, rfl⟩
      · have h6 := k6 x hx1 (by omega)
        unfold RlE at h6 ⊢
        rw [va_up_ne _ _ e, va_up_ne _ _ e, va_up_ne _ _ e, va_up_ne _ _ e]
        exact h6
    · intro x hx
      rw [ek, va_up_ne _ _ (by omega), va_up_ne _ _ (by omega), va_up_ne _ _ (by omega), va_up_ne _ _ (by omega), va_up_ne _ _ (by omega)]
      exact k7 x hx
