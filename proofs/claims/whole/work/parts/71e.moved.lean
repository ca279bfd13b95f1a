set_option maxHeartbeats 4000000
set_option maxRecDepth 100000
/-! the class: a payment moved to another term -/
theorem mK_cg {A : AW} {a1 w1 a2 w2 kd : Int} {x : Nat} (h : ∀ k, 1 ≤ k → k ≤ A.c → A.ki k = kd → (knw A a1 w1 k ↔ knw A a2 w2 k)) : ∀ n, n ≤ A.c → mK A a1 w1 kd x n = mK A a2 w2 kd x n
  | 0, _ => rfl
  | n + 1, hn => by
    have ih := mK_cg (x := x) h n (by omega)
    show (if _ then _ else _) = (if _ then _ else _)
    rw [ih]
    by_cases c : A.ki (n + 1) = kd
    · have e := h (n + 1) (by omega) hn c
      by_cases c2 : A.ki (n + 1) = kd ∧ knw A a2 w2 (n + 1) ∧ A.te (n + 1) = x
      · rw [if_pos c2, if_pos ⟨c2.1, e.mpr c2.2.1, c2.2.2⟩]
      · rw [if_neg c2, if_neg (fun q => c2 ⟨q.1, e.mp q.2.1, q.2.2⟩)]
    · rw [if_neg (fun q => c q.1), if_neg (fun q => c q.1)]
theorem pSum_mv {A : AW} {a : Int} {k t : Nat} (hk : A.ki k = 2 ∨ A.ki k = 3) (hn : knw A a (-1) k) (g : Nat → Int) (y : Nat) (h1 : 1 ≤ k) : ∀ n, pSum A a (-1) k t y g n = pSum A a k (-1) 0 y g n + if y = t ∧ k ≤ n then g k else 0
  | 0 => by
    show (0 : Int) = 0 + if y = t ∧ k ≤ 0 then g k else 0
    rw [if_neg (fun q => by have := q.2; omega)]
    rfl
  | n + 1 => by
    have ih := pSum_mv (t := t) hk hn g y h1 n
    show pSum A a (-1) k t y g n + (if isT A a (-1) k t y (n + 1) then g (n + 1) else 0) = pSum A a k (-1) 0 y g n + (if isT A a k (-1) 0 y (n + 1) then g (n + 1) else 0) + _
    rw [ih]
    by_cases e : n + 1 = k
    · have no : ¬ isT A a k (-1) 0 y (n + 1) := fun q => q.2.1.2.2 (by rw [e])
      rw [if_neg no]
      by_cases ey : y = t
      · have yes : isT A a (-1) k t y (n + 1) := by
          rw [e]
          exact ⟨hk, hn, by rw [if_pos rfl, ey]⟩
        rw [if_pos yes, if_neg (fun q => by have := q.2; omega), if_pos ⟨ey, by omega⟩, e]
        try omega
      · have no2 : ¬ isT A a (-1) k t y (n + 1) := fun q => by
          have q2 := q.2.2
          rw [e, if_pos rfl] at q2
          omega
        rw [if_neg no2, if_neg (fun q => ey q.1), if_neg (fun q => ey q.1)]
    · have ei : isT A a (-1) k t y (n + 1) ↔ isT A a k (-1) 0 y (n + 1) := by
        unfold isT
        rw [if_neg (show ¬ ((n + 1 : Nat) : Int) = (k : Int) by omega), if_neg (show ¬ ((n + 1 : Nat) : Int) = -1 by omega)]
        constructor
        · exact fun q => ⟨q.1, ⟨q.2.1.1, q.2.1.2.1, by omega⟩, q.2.2⟩
        · exact fun q => ⟨q.1, ⟨q.2.1.1, q.2.1.2.1, by omega⟩, q.2.2⟩
      have ek : (y = t ∧ k ≤ n) ↔ (y = t ∧ k ≤ n + 1) := ⟨fun q => ⟨q.1, by omega⟩, fun q => ⟨q.1, by omega⟩⟩
      by_cases c : isT A a k (-1) 0 y (n + 1)
      · rw [if_pos c, if_pos (ei.mpr c)]
        by_cases c2 : y = t ∧ k ≤ n
        · rw [if_pos c2, if_pos (ek.mp c2)]
          omega
        · rw [if_neg c2, if_neg (fun q => c2 (ek.mpr q))]
          omega
      · rw [if_neg c, if_neg (fun q => c (ei.mp q))]
        by_cases c2 : y = t ∧ k ≤ n
        · rw [if_pos c2, if_pos (ek.mp c2)]
          omega
        · rw [if_neg c2, if_neg (fun q => c2 (ek.mpr q))]
          try omega
theorem pSum_one {A : AW} {a : Int} {k y : Nat} : ∀ n, pSum A a k (-1) 0 y (fun _ => 1) n + (if 1 ≤ k ∧ k ≤ n then 1 else 0) ≤ n
  | 0 => by
    show (0 : Int) + (if 1 ≤ k ∧ k ≤ 0 then 1 else 0) ≤ ((0 : Nat) : Int)
    rw [if_neg (by omega)]
    omega
  | n + 1 => by
    have ih := pSum_one (A := A) (a := a) (k := k) (y := y) n
    show pSum A a k (-1) 0 y (fun _ => 1) n + (if isT A a k (-1) 0 y (n + 1) then (1 : Int) else 0) + (if 1 ≤ k ∧ k ≤ n + 1 then 1 else 0) ≤ ((n + 1 : Nat) : Int)
    by_cases e : n + 1 = k
    · rw [if_neg (fun q => q.2.1.2.2 (by rw [e]))]
      rw [if_neg (by omega)] at ih
      rw [if_pos (by omega)]
      omega
    · by_cases c : 1 ≤ k ∧ k ≤ n
      · rw [if_pos c] at ih
        rw [if_pos (show 1 ≤ k ∧ k ≤ n + 1 by omega)]
        split <;> omega
      · rw [if_neg c] at ih
        rw [if_neg (show ¬ (1 ≤ k ∧ k ≤ n + 1) by omega)]
        split <;> omega
theorem pSum_at {A : AW} {a : Int} {k y : Nat} : ∀ n, pSum A a k (-1) 0 y (fun j => if j = k then 1 else 0) n = 0
  | 0 => rfl
  | n + 1 => by
    have ih := pSum_at (A := A) (a := a) (k := k) (y := y) n
    show pSum A a k (-1) 0 y (fun j => if j = k then 1 else 0) n + (if isT A a k (-1) 0 y (n + 1) then (if n + 1 = k then (1 : Int) else 0) else 0) = 0
    rw [ih]
    by_cases e : n + 1 = k
    · rw [if_neg (fun q => q.2.1.2.2 (by rw [e]))]
      rfl
    · rw [if_neg e]
      split <;> rfl
theorem lsum_one : ∀ L : List Nat, lsum (fun _ => 1) L = L.length
  | [] => rfl
  | _ :: L => by
    show 1 + lsum (fun _ => 1) L = ((L.length + 1 : Nat) : Int)
    rw [lsum_one L]
    omega
theorem lsum_mem {k : Nat} : ∀ {L : List Nat}, k ∈ L → 1 ≤ lsum (fun j => if j = k then 1 else 0) L ∧ 0 ≤ lsum (fun j => if j = k then 1 else 0) L
  | [], h => by cases h
  | j :: L, h => by
    have nn : ∀ L : List Nat, 0 ≤ lsum (fun j => if j = k then 1 else 0) L := by
      intro L
      induction L with
      | nil => exact Int.le_refl 0
      | cons x L ih =>
        show 0 ≤ (if x = k then (1 : Int) else 0) + lsum _ L
        split <;> omega
    have n0 := nn L
    show 1 ≤ (if j = k then (1 : Int) else 0) + lsum _ L ∧ 0 ≤ (if j = k then (1 : Int) else 0) + lsum _ L
    rcases List.mem_cons.mp h with e | e
    · rw [if_pos e.symm]
      omega
    · have := lsum_mem e
      split <;> omega
/-- the act that isn't known stands in no list -/
theorem kn_not {A : AW} {a : Int} {k y : Nat} {L : List Nat} (h : ∀ g, lsum g L = pSum A a k (-1) 0 y g A.c) (h1 : 1 ≤ k) (h2 : k ≤ A.c) : (∀ j, j ∈ L → j ≠ k) ∧ L.length + 1 ≤ A.c := by
  refine ⟨fun j hj e => ?_, ?_⟩
  · subst e
    have a1 := (lsum_mem hj).1
    rw [h, pSum_at] at a1
    omega
  · have e := h (fun _ => 1)
    rw [lsum_one] at e
    have b := pSum_one (A := A) (a := a) (k := k) (y := y) A.c
    rw [if_pos ⟨h1, h2⟩] at b
    omega
theorem KnOk_mv {A : AW} (hA : A.ok) {a : Int} {k t : Nat} {fi fp nx wr : Nat → Int} (h : KnOk A a k (-1) 0 fi fp nx wr) (h1 : 1 ≤ k) (h2 : k ≤ A.c) (hk : A.ki k = 2 ∨ A.ki k = 3) (hn : knw A a (-1) k) (ht : t < 40) : KnOk A a (-1) k t fi (va_up fp t k) (va_up nx k (fp t)) wr := by
  obtain ⟨g1, g2, g3⟩ := h
  have kn : ∀ j, A.ki j = 1 ∨ A.ki j = 4 → (knw A a k j ↔ knw A a (-1) j) := fun j hj => by
    have : j ≠ k := fun e => by
      subst e
      omega
    exact ⟨fun q => ⟨q.1, q.2.1, by omega⟩, fun q => ⟨q.1, q.2.1, by omega⟩⟩
  have hc := hA.1
  refine ⟨fun y hy => ?_, fun y hy => ?_, fun y hy => ?_⟩
  · rw [g1 y hy, wA_cg (fun j _ _ e _ => kn j (Or.inl e)) A.c (Nat.le_refl _)]
  · rw [g2 y hy, mK_cg (fun j _ _ e => kn j (Or.inr e)) A.c (Nat.le_refl _)]
  · obtain ⟨L, l1, l2, l3, l4⟩ := g3 y hy
    obtain ⟨n1, n2⟩ := kn_not l4 h1 h2
    by_cases e : y = t
    · subst e
      refine ⟨k :: L, ⟨va_up_self _ _ _, ?_⟩, by show L.length + 1 ≤ 200; omega, fun j hj => ?_, fun g => ?_⟩
      · rw [va_up_self]
        exact lnk_up l1 n1
      · rcases List.mem_cons.mp hj with q | q
        · rw [q]
          exact ⟨⟨h1, h2⟩, hk⟩
        · exact l3 j q
      · show g k + lsum g L = _
        rw [l4, pSum_mv hk hn g y h1, if_pos ⟨rfl, h2⟩]
        omega
    · refine ⟨L, ?_, l2, l3, fun g => ?_⟩
      · rw [va_up_ne _ _ e]
        exact lnk_up l1 n1
      · rw [l4, pSum_mv hk hn g y h1, if_neg (fun q => e q.1), Int.add_zero]
theorem KnOk_nx {A : AW} {a : Int} {k : Nat} {z : Int} {fi fp nx wr : Nat → Int} (h : KnOk A a k (-1) 0 fi fp nx wr) (h1 : 1 ≤ k) (h2 : k ≤ A.c) : KnOk A a k (-1) 0 fi fp (va_up nx k z) wr := by
  obtain ⟨g1, g2, g3⟩ := h
  refine ⟨g1, g2, fun y hy => ?_⟩
  obtain ⟨L, l1, l2, l3, l4⟩ := g3 y hy
  exact ⟨L, lnk_up l1 (kn_not l4 h1 h2).1, l2, l3, l4⟩
theorem up_id (f : Nat → Int) (t : Nat) : va_up f t (f t) = f := by
  funext k
  by_cases h : k = t
  · rw [h, va_up_self]
  · rw [va_up_ne _ _ h]
def Mo (A : AW) (at_ s M : Int) (a k t : Nat) : Prop := (A.ki k = 2 ∨ A.ki k = 3) ∧ knw A at_ (-1) k ∧ A.sh k = s ∧ (t : Int) ≠ A.te k ∧ (roll s (wld A at_ (-1) k t s) (a + 1)).d = M
def firstM (P : Nat → Nat → Prop) (c : Nat) (r mt : Int) : Prop := (r = -1 ∧ mt = -1 ∧ ∀ j t, 1 ≤ j → j ≤ c → t < 40 → ¬ P j t) ∨ ∃ k t : Nat, r = k ∧ mt = t ∧ (1 ≤ k ∧ k ≤ c) ∧ t < 40 ∧ P k t ∧ (∀ j u, 1 ≤ j → j < k → u < 40 → ¬ P j u) ∧ ∀ u, u < t → ¬ P k u
theorem firstM_u {P : Nat → Nat → Prop} {c : Nat} {r q m n : Int} (h : firstM P c r m) (g : firstM P c q n) : r = q ∧ m = n := by
  rcases h with ⟨h1, h2, h3⟩ | ⟨k, t, h1, h2, h3, h4, h5, h6, h7⟩
  · rcases g with ⟨g1, g2, g3⟩ | ⟨j, u, g1, g2, g3, g4, g5, g6, g7⟩
    · exact ⟨by rw [h1, g1], by rw [h2, g2]⟩
    · exact absurd g5 (h3 j u g3.1 g3.2 g4)
  · rcases g with ⟨g1, g2, g3⟩ | ⟨j, u, g1, g2, g3, g4, g5, g6, g7⟩
    · exact absurd h5 (g3 k t h3.1 h3.2 h4)
    · by_cases e : k = j
      · subst e
        by_cases e2 : t = u
        · exact ⟨by rw [h1, g1], by rw [h2, g2, e2]⟩
        · by_cases l : t < u
          · exact absurd h5 (g7 t l)
          · exact absurd g5 (h7 u (by omega))
      · by_cases l : k < j
        · exact absurd h5 (g6 k t h3.1 l h4)
        · exact absurd g5 (h6 j u g3.1 (by omega) g4)
theorem w_movedK {N a t1 Kt : Nat} (hN : 5000 ≤ N) (ha : a ≤ 39) {A : AW} {gr : Nat → Int} {D : DynI} {aw : Nat → Option Nat} (hC : CW A gr D aw) (hKt : Kt ≤ A.c) {s M : Int} {de1 pu1 : Nat → Int} (h1 : RlD s (wld A Kt (-1) (-1) 0 s) t1 de1 pu1) (ht1 : a < t1) (ht40 : t1 ≤ 40) (hM : (roll s (wld A Kt (-1) (-1) 0 s) (a + 1)).d ≠ M) (hLo : ∀ j, 1 ≤ j → j ≤ A.c → ¬ Lo A Kt s M a j) {jd jp js jt bl db pd sh0 to0 wbl wdb wpd wsh wto : Int} {jst fi fp nx wr al de fa pa py pu wal wde wfa wpa wpy wpu : Nat → Int} {Q : R_iAudit_findMoved → Prop} (hQ : ∀ r mt, firstM (Mo A Kt s M a) A.c r mt → ∀ (jd2 jp2 js2 jt2 : Int) (jst2 fi2 fp2 nx2 wr2 : Nat → Int) (bl2 db2 pd2 sh2 to2 : Int) (al2 de2 fa2 pa2 py2 pu2 : Nat → Int) (wbl2 wdb2 wpd2 wsh2 wto2 : Int) (wal2 wde2 wfa2 wpa2 wpy2 wpu2 : Nat → Int), Q (r, mt, jd2, jp2, js2, jt2, jst2, fi2, fp2, nx2, wr2, bl2, db2, pd2, sh2, to2, al2, de2, fa2, pa2, py2, pu2, wbl2, wdb2, wpd2, wsh2, wto2, wal2, wde2, wfa2, wpa2, wpy2, wpu2)) : wp (iAudit_findMoved N a M s t1 de1 pu1 A.c A.am A.ki A.sh A.te A.vb aw gr D Kt (-1) jd jp js jt jst fi fp nx wr bl db pd sh0 to0 al de fa pa py pu wbl wdb wpd wsh wto wal wde wfa wpa wpy wpu) Q := by
  have hC0 := hC
  obtain ⟨hA, hg, hw⟩ := hC
  have hc := hA.1
  have hW0 := wld_ok hA Kt (-1) (-1) 0 s
  unfold iAudit_findMoved iAudit_findMoved_b3
  refine wp_zlp32 (fun (m : Nat) (x5 jd jp js jt : Int) (jst fi fp nx wr : Nat → Int) (bl db pd sh0 to0 : Int) (al de fa pa py pu : Nat → Int) (wbl wdb wpd wsh wto : Int) (wal wde wfa wpa wpy wpu : Nat → Int) => ∃ k : Nat, Kt + 1 - k = m ∧ x5 = k ∧ 1 ≤ k ∧ k ≤ Kt + 1 ∧ ∀ j u, 1 ≤ j → j < k → u < 40 → ¬ Mo A Kt s M a j u) ?_ N Kt 1 jd jp js jt jst fi fp nx wr bl db pd sh0 to0 al de fa pa py pu wbl wdb wpd wsh wto wal wde wfa wpa wpy wpu (by omega) ⟨1, by omega, rfl, Nat.le_refl 1, by omega, fun j u j1 j2 => by omega⟩
  intro self m x5 jd jp js jt jst fi fp nx wr bl db pd sh0 to0 al de fa pa py pu wbl wdb wpd wsh wto wal wde wfa wpa wpy wpu ⟨k, k1, k2, k3, k4, k5⟩ ih
  subst k2
  have ek : (k : Int).toNat = k := rfl
  unfold iAudit_findMoved_b3_F
  rw [wp_ite]
  refine ⟨fun c => ?_, fun c => ?_⟩
  · rw [wp_some]
    refine hQ (-1) (-1) (Or.inl ⟨rfl, rfl, fun j u j1 j2 j3 q => ?_⟩) _ _ _ _ _ _ _ _ _ _ _ _ _ _ _ _ _ _ _ _ _ _ _ _ _ _ _ _ _ _ _
    by_cases e : j ≤ Kt
    · exact k5 j u j1 (by omega) j3 q
    · have := q.2.1.1
      omega
  · have hk : k ≤ Kt := by omega
    have hkc : k ≤ A.c := by omega
    have o := hA.2.1 k k3 hkc
    have next : (∀ u, u < 40 → ¬ Mo A Kt s M a k u) → ∀ (jd jp js jt : Int) (jst fi fp nx wr : Nat → Int) (bl db pd sh0 to0 : Int) (al de fa pa py pu : Nat → Int) (wbl wdb wpd wsh wto : Int) (wal wde wfa wpa wpy wpu : Nat → Int), wp (iAudit_findMoved_b195 N a M s t1 de1 pu1 A.c A.am A.ki A.sh A.te A.vb aw gr D Kt self k (-1) jd jp js jt jst fi fp nx wr bl db pd sh0 to0 al de fa pa py pu wbl wdb wpd wsh wto wal wde wfa wpa wpy wpu) Q := by
      intro hn jd jp js jt jst fi fp nx wr bl db pd sh0 to0 al de fa pa py pu wbl wdb wpd wsh wto wal wde wfa wpa wpy wpu
      unfold iAudit_findMoved_b195
      rw [wp_gd]
      refine ⟨jr_iff.mpr (by omega), ih (m - 1) _ _ _ _ _ _ _ _ _ _ _ _ _ _ _ _ _ _ _ _ _ _ _ _ _ _ _ _ _ _ _ _ (by omega) ⟨k + 1, by omega, by omega, by omega, by omega, fun j u j1 j2 j3 => ?_⟩⟩
      by_cases e : j = k
      · rw [e]
        exact hn u j3
      · exact k5 j u j1 (by omega) j3
    rw [wp_bd1, w_isPayK hA k3 hkc, wp_some]
    by_cases kp : A.ki k = 2 ∨ A.ki k = 3
    · rw [if_pos kp, if_neg (by decide), wp_bd1, w_isKnownK hA k3 hkc, wp_some]
      by_cases kn : (k : Int) ≤ Kt ∧ A.ki k ≠ 5 ∧ (A.vb k = 0 ∨ (Kt : Int) < A.vb k)
      · have knk : knw A Kt (-1) k := ⟨kn.1, kn.2.2, by omega⟩
        rw [if_pos kn, if_neg (by decide), wp_gd, ek]
        unfold iRoll_shireOf
        rw [wp_bd1, wp_some]
        refine ⟨jb_iff.mpr (by omega), ?_⟩
        by_cases cs : A.sh k = s
        · rw [if_pos cs, wp_bd4]
          obtain ⟨tk, htk⟩ : ∃ tk : Nat, A.te k = tk := ⟨(A.te k).toNat, by have := o.2.1; omega⟩
          have tk40 : tk < 40 := by have := o.2.1; omega
          have swo : ∀ y, y ≠ tk → sameW (wld A Kt (-1) (-1) 0 s) (wld A Kt k (-1) 0 s) y := fun y hy => wld_wo hA k3 hkc (Or.inr ⟨by omega, by omega⟩)
          refine w_setAt hN hA (by omega) (fun fi2 fp2 nx2 wr2 hK2 => ?_)
          rw [wp_bd4, htk]
          refine w_begin (u := tk) ht40 h1 (fun de2 pu2 hR2 => ?_)
          rw [wp_bd15]
          refine w_goTo (a := a) hN ha hA hK2 hg hw (show min tk t1 ≤ 40 by omega) (hR2.cg (Nat.le_refl _) (fun y hy => swo y (by omega))) (fun jd3 jp3 js3 jt3 jst3 bl3 db3 pd3 tl3 al3 de3 fa3 pa3 py3 pu3 q1 q2 q3 q4 => ?_)
          have tl3b : tl3 ≤ 40 := by
            rw [q1]
            split <;> omega
          have tla : a < tl3 := by
            rw [q1]
            split <;> omega
          have hLk := hLo k k3 hkc
          have moL : ∀ u, a < u → ¬ Mo A Kt s M a k u := fun u hu q => hLk ⟨kn.2.1, knk, by
            rw [← q.2.2.2.2, roll_same (fun y hy => wld_mv hA (a := Kt) (s := s) (t := u) k3 hkc kp (show y ≠ u by omega))]⟩
          -- the terms
          show wp (iAudit_findMoved_b106 N a M s t1 de1 pu1 A.c A.am A.ki A.sh A.te A.vb aw gr D Kt k tk (-1) fi2 wr2 bl3 db3 pd3 s tl3 al3 de3 fa3 pa3 py3 pu3 _ N 0 jd3 jp3 js3 jt3 jst3 fp2 nx2 bl db pd sh0 to0 al de fa pa py pu) Q
          unfold iAudit_findMoved_b106
          refine wp_zlp19 (fun (m : Nat) (x7 jd jp js jt : Int) (jst fp nx : Nat → Int) (bl db pd sh0 to0 : Int) (al de fa pa py pu : Nat → Int) => ∃ t : Nat, a + 1 - t = m ∧ x7 = t ∧ t ≤ a + 1 ∧ KnOk A Kt k (-1) 0 fi2 fp nx wr2 ∧ ∀ u, u < t → ¬ Mo A Kt s M a k u) ?_ N (a + 1) 0 jd3 jp3 js3 jt3 jst3 fp2 nx2 bl db pd sh0 to0 al de fa pa py pu (by omega) ⟨0, by omega, rfl, by omega, hK2, fun u hu => by omega⟩
          intro self2 m2 x7 jd4 jp4 js4 jt4 jst4 fp4 nx4 bl4 db4 pd4 sh4 to4 al4 de4 fa4 pa4 py4 pu4 ⟨t, t2, t3, t4, t5, t6⟩ ih2
          subst t3
          have et : (t : Int).toNat = t := rfl
          unfold iAudit_findMoved_b106_F
          rw [wp_ite]
          refine ⟨fun c2 => next (fun u hu => ?_) _ _ _ _ _ _ _ _ _ _ _ _ _ _ _ _ _ _ _ _ _ _ _ _ _ _ _ _ _ _ _, fun c2 => ?_⟩
          · by_cases l : u < t
            · exact t6 u l
            · exact moL u (by omega)
          · have hta : t ≤ a := by omega
            have smv : ∀ y, y ≠ t → sameW (wld A Kt (-1) k t s) (wld A Kt k (-1) 0 s) y := fun y hy => wld_mv hA k3 hkc kp hy
            have hKm := KnOk_mv hA t5 k3 hkc kp knk (show t < 40 by omega)
            have eadd : iKnown_addPayment k t A.c A.ki fp4 nx4 = some (va_up fp4 t k, va_up nx4 k (fp4 t)) := by
              unfold iKnown_addPayment iK_isTerm
              rw [w_isPayK hA k3 hkc, if_pos kp, bd1_v, if_neg (by decide), if_neg (by omega), if_neg (by omega), bd1_v, if_neg (by decide), gd, if_pos (jb_iff.mpr (by omega)), gd, if_pos (jb_iff.mpr (by omega)), et, ek]
            have b180 : (¬ Mo A Kt s M a k t) → ∀ (jd5 jp5 js5 jt5 : Int) (jst5 : Nat → Int) (bl5 db5 pd5 sh5 to5 : Int) (al5 de5 fa5 pa5 py5 pu5 : Nat → Int) (K195 : _), wp (iAudit_findMoved_b180 N a M s t1 de1 pu1 A.c A.am A.ki A.sh A.te A.vb aw gr D Kt self2 K195 k tk t (-1) jd5 jp5 js5 jt5 jst5 fi2 (va_up fp4 t k) (va_up nx4 k (fp4 t)) wr2 bl5 db5 pd5 sh5 to5 al5 de5 fa5 pa5 py5 pu5 bl3 db3 pd3 s tl3 al3 de3 fa3 pa3 py3 pu3) Q := by
              intro hn jd5 jp5 js5 jt5 jst5 bl5 db5 pd5 sh5 to5 al5 de5 fa5 pa5 py5 pu5 K195
              have edrop : iKnown_dropFirstPayment t (va_up fp4 t k) (va_up nx4 k (fp4 t)) = some fp4 := by
                unfold iKnown_dropFirstPayment iK_isTerm iKnown_nextPayment
                rw [if_neg (by omega), if_neg (by omega), bd1_v, if_neg (by decide), gd, if_pos (jb_iff.mpr (by omega)), et, va_up_self, if_neg (by omega), if_neg (by omega), gd, if_pos (jb_iff.mpr (by omega)), ek, va_up_self, bd1_v, up_up, up_id]
              unfold iAudit_findMoved_b180
              rw [wp_bd1, edrop, wp_some, wp_gd]
              refine ⟨jr_iff.mpr (by omega), ih2 (m2 - 1) _ _ _ _ _ _ _ _ _ _ _ _ _ _ _ _ _ _ _ (by omega) ⟨t + 1, by omega, by omega, by omega, KnOk_nx t5 k3 hkc, fun u hu => ?_⟩⟩
              by_cases e : u = t
              · rw [e]
                exact hn
              · exact t6 u (by omega)
            rw [wp_bd2, eadd, wp_some]
            have ef : jmax (tk : Int) (t : Int) = ((max tk t : Nat) : Int) := by
              unfold jmax
              split <;> omega
            have after : ∀ y, max tk t < y → y ≤ a → sameW (wld A Kt (-1) k t s) (wld A Kt (-1) (-1) 0 s) y := fun y y1 _ => (smv y (by omega)).tr (swo y (by omega)).sy
            have found : (roll s (wld A Kt (-1) k t s) (a + 1)).d = M → t ≠ tk → firstM (Mo A Kt s M a) A.c k t := fun cM hne => Or.inr ⟨k, t, rfl, rfl, ⟨k3, hkc⟩, by omega, ⟨kp, knk, cs, by rw [htk]; omega, cM⟩, k5, t6⟩
            have late : a < tk → ¬ t = tk → (roll s (wld A Kt (-1) k t s) (a + 1)).d ≠ M → ¬ Mo A Kt s M a k t := fun _ _ h q => h q.2.2.2.2
            show wp (if (tk : Int) ≤ (t : Int) then _ else _) Q
            rw [wp_ite]
            refine ⟨fun c3 => ?_, fun c3 => ?_⟩
            · rw [wp_bd4]
              refine w_begin (u := t) tl3b q2 (fun de6 pu6 hR6 => ?_)
              show wp (if (t : Int) = (tk : Int) then _ else _) Q
              rw [wp_ite]
              refine ⟨fun c4 => b180 (fun q => q.2.2.2.1 (by rw [htk]; exact c4)) _ _ _ _ _ _ _ _ _ _ _ _ _ _ _ _ _, fun c4 => ?_⟩
              rw [wp_bd16, ef]
              refine w_tellsO hN ha hC0 hW0 hKm h1 ht1 hM after (show min t tl3 ≤ 40 by omega) (hR6.cg (Nat.le_refl _) (fun y hy => (smv y (by omega)).sy)) (fun jd7 jp7 js7 jt7 jst7 bl7 db7 pd7 to7 al7 de7 fa7 pa7 py7 pu7 => ?_)
              show wp (if (if (roll s (wld A Kt (-1) k t s) (a + 1)).d = M then (1 : Int) else 0) = 0 then _ else _) Q
              by_cases cM : (roll s (wld A Kt (-1) k t s) (a + 1)).d = M
              · rw [if_pos cM, if_neg (by decide), wp_some]
                exact hQ k t (found cM (by omega)) _ _ _ _ _ _ _ _ _ _ _ _ _ _ _ _ _ _ _ _ _ _ _ _ _ _ _ _ _ _ _
              · rw [if_neg cM, if_pos rfl]
                exact b180 (fun q => cM q.2.2.2.2) _ _ _ _ _ _ _ _ _ _ _ _ _ _ _ _ _
            · rw [wp_bd4]
              refine w_begin (u := t) ht40 h1 (fun de6 pu6 hR6 => ?_)
              show wp (if (t : Int) = (tk : Int) then _ else _) Q
              rw [wp_ite]
              refine ⟨fun c4 => b180 (fun q => q.2.2.2.1 (by rw [htk]; exact c4)) _ _ _ _ _ _ _ _ _ _ _ _ _ _ _ _ _, fun c4 => ?_⟩
              rw [wp_bd16, ef]
              refine w_tellsO hN ha hC0 hW0 hKm h1 ht1 hM after (show min t t1 ≤ 40 by omega) (hR6.cg (Nat.le_refl _) (fun y hy => (swo y (by omega)).tr (smv y (by omega)).sy)) (fun jd7 jp7 js7 jt7 jst7 bl7 db7 pd7 to7 al7 de7 fa7 pa7 py7 pu7 => ?_)
              show wp (if (if (roll s (wld A Kt (-1) k t s) (a + 1)).d = M then (1 : Int) else 0) = 0 then _ else _) Q
              by_cases cM : (roll s (wld A Kt (-1) k t s) (a + 1)).d = M
              · rw [if_pos cM, if_neg (by decide), wp_some]
                exact hQ k t (found cM (by omega)) _ _ _ _ _ _ _ _ _ _ _ _ _ _ _ _ _ _ _ _ _ _ _ _ _ _ _ _ _ _ _
              · rw [if_neg cM, if_pos rfl]
                exact b180 (fun q => cM q.2.2.2.2) _ _ _ _ _ _ _ _ _ _ _ _ _ _ _ _ _
        · rw [if_neg cs]
          exact next (fun u _ q => cs q.2.2.1) _ _ _ _ _ _ _ _ _ _ _ _ _ _ _ _ _ _ _ _ _ _ _ _ _ _ _ _ _ _ _
      · rw [if_neg kn, if_pos rfl]
        exact next (fun u _ q => kn ⟨by omega, by omega, q.2.1.2.1⟩) _ _ _ _ _ _ _ _ _ _ _ _ _ _ _ _ _ _ _ _ _ _ _ _ _ _ _ _ _ _ _
    · rw [if_neg kp, if_pos rfl]
      exact next (fun u _ q => kp q.1) _ _ _ _ _ _ _ _ _ _ _ _ _ _ _ _ _ _ _ _ _ _ _ _ _ _ _ _ _ _ _
