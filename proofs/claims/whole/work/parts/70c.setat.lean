set_option maxHeartbeats 4000000
set_option maxRecDepth 100000
/-! the class: what is known -/
theorem lnk_up {nx : Nat → Int} {k : Nat} {v : Int} : ∀ {L : List Nat} {a : Int}, lnk nx a L → (∀ j, j ∈ L → j ≠ k) → lnk (va_up nx k v) a L
  | [], a, h, _ => h
  | j :: L, a, h, hk => by
    refine ⟨h.1, ?_⟩
    rw [va_up_ne _ _ (hk j (List.mem_cons_self ..))]
    exact lnk_up h.2 (fun z hz => hk z (List.mem_cons_of_mem _ hz))
theorem pSum_hi {A : AW} {at_ wo mv mt : Int} {t : Nat} {g : Nat → Int} {k : Nat} (h : at_ ≤ (k : Int)) : ∀ d, pSum A at_ wo mv mt t g (k + d) = pSum A at_ wo mv mt t g k
  | 0 => rfl
  | d + 1 => by
    show pSum A at_ wo mv mt t g (k + d) + (if isT A at_ wo mv mt t (k + d + 1) then _ else _) = _
    rw [if_neg (fun q => by have := q.2.1.1; omega), Int.add_zero]
    exact pSum_hi h d
theorem bd1_v {X R : Type} (x : X) (f : X → Option R) : bd1 (some x) f = f x := rfl
theorem w_isAct {k c : Nat} : iActs_isAct k c = some (if 1 ≤ k ∧ k ≤ c then 1 else 0) := by
  unfold iActs_isAct
  by_cases h : 1 ≤ k
  · rw [if_neg (by omega)]
    by_cases h2 : k ≤ c
    · rw [if_neg (by omega), if_pos ⟨h, h2⟩]
    · rw [if_pos (by omega), if_neg (fun q => h2 q.2)]
  · rw [if_pos (by omega), if_neg (fun q => h q.1)]
theorem w_isKnownK {A : AW} (hA : A.ok) {at_ : Int} {k : Nat} (h1 : 1 ≤ k) (h2 : k ≤ A.c) : iActs_isKnown k at_ A.c A.ki A.vb = some (if (k : Int) ≤ at_ ∧ A.ki k ≠ 5 ∧ (A.vb k = 0 ∨ at_ < A.vb k) then 1 else 0) := by
  have hc := hA.1
  have ek : (k : Int).toNat = k := rfl
  unfold iActs_isKnown
  rw [w_isAct, if_pos ⟨h1, h2⟩, bd1_v, if_neg (by decide)]
  by_cases c1 : at_ < (k : Int)
  · rw [if_pos c1, if_neg (fun q => by have := q.1; omega)]
  · rw [if_neg c1, gd, if_pos (jb_iff.mpr (by omega)), ek]
    by_cases c2 : A.ki k = 5
    · rw [if_pos c2, if_neg (fun q => q.2.1 c2)]
    · rw [if_neg c2]
      by_cases c3 : A.vb k = 0
      · rw [if_pos c3, if_pos ⟨by omega, c2, Or.inl c3⟩]
      · rw [if_neg c3]
        by_cases c4 : A.vb k ≤ at_
        · rw [if_pos c4, if_neg (fun q => by rcases q.2.2 with g | g <;> omega)]
        · rw [if_neg c4, if_pos ⟨by omega, c2, Or.inr (by omega)⟩]
theorem w_isPayK {A : AW} (hA : A.ok) {k : Nat} (h1 : 1 ≤ k) (h2 : k ≤ A.c) : iActs_isPayment k A.c A.ki = some (if A.ki k = 2 ∨ A.ki k = 3 then 1 else 0) := by
  have hc := hA.1
  have ek : (k : Int).toNat = k := rfl
  unfold iActs_isPayment
  rw [w_isAct, if_pos ⟨h1, h2⟩, bd1_v, if_neg (by decide), gd, if_pos (jb_iff.mpr (by omega)), ek]
  by_cases k2 : A.ki k = 2
  · rw [if_pos k2, if_pos (Or.inl k2)]
  · rw [if_neg k2]
    by_cases k3 : A.ki k = 3
    · first
        | rw [if_pos k3, if_pos (Or.inr k3)]
        | (rw [gd, if_pos (jb_iff.mpr (by omega)), if_pos k3, if_pos (Or.inr k3)])
    · first
        | rw [if_neg k3, if_neg (fun h => h.elim k2 k3)]
        | (rw [gd, if_pos (jb_iff.mpr (by omega)), if_neg k3, if_neg (fun h => h.elim k2 k3)])
/-- the acts above k are noted -/
def KnI (A : AW) (at_ wo : Int) (k : Nat) (fi fp nx wr : Nat → Int) : Prop := (∀ t, t < 40 → wr t = if k < mK A at_ wo 1 t A.c then ((mK A at_ wo 1 t A.c : Nat) : Int) else 0) ∧ (∀ t, t < 40 → fi t = if k < mK A at_ wo 4 t A.c then ((mK A at_ wo 4 t A.c : Nat) : Int) else 0) ∧ ∀ t, t < 40 → ∃ L, lnk nx (fp t) L ∧ L.length + k ≤ A.c ∧ (∀ j, j ∈ L → k < j ∧ j ≤ A.c ∧ (A.ki j = 2 ∨ A.ki j = 3)) ∧ ∀ g, lsum g L = pSum A at_ wo (-1) 0 t g A.c - pSum A at_ wo (-1) 0 t g k
theorem KnI_no {A : AW} {at_ wo : Int} {k : Nat} {fi fp nx wr : Nat → Int} (h : KnI A at_ wo (k + 1) fi fp nx wr) (hn : A.ki (k + 1) = 5 ∨ ¬ knw A at_ wo (k + 1)) : KnI A at_ wo k fi fp nx wr := by
  obtain ⟨h1, h2, h3⟩ := h
  have no : ∀ kd t, kd ≠ 5 → mK A at_ wo kd t A.c ≠ k + 1 := fun kd t hk e => by
    have := (mK_s A at_ wo kd t A.c).2.1 (by omega)
    rw [e] at this
    rcases hn with g | g
    · exact hk (by rw [← this.1, g])
    · exact g this.2.1
  refine ⟨fun t ht => ?_, fun t ht => ?_, fun t ht => ?_⟩
  · rw [h1 t ht]
    have := no 1 t (by decide)
    by_cases c : k + 1 < mK A at_ wo 1 t A.c
    · rw [if_pos c, if_pos (by omega)]
    · rw [if_neg c, if_neg (by omega)]
  · rw [h2 t ht]
    have := no 4 t (by decide)
    by_cases c : k + 1 < mK A at_ wo 4 t A.c
    · rw [if_pos c, if_pos (by omega)]
    · rw [if_neg c, if_neg (by omega)]
  · obtain ⟨L, l1, l2, l3, l4⟩ := h3 t ht
    refine ⟨L, l1, by omega, fun j hj => ⟨by have := (l3 j hj).1; omega, (l3 j hj).2⟩, fun g => ?_⟩
    rw [l4 g]
    show _ = _ - pSum A at_ wo (-1) 0 t g k
    have e : pSum A at_ wo (-1) 0 t g (k + 1) = pSum A at_ wo (-1) 0 t g k := by
      show _ + (if isT A at_ wo (-1) 0 t (k + 1) then _ else _) = _
      rw [if_neg (fun q => ?_), Int.add_zero]
      rcases hn with z | z
      · rcases q.1 with y | y <;> omega
      · exact z q.2.1
    rw [e]
theorem w_note {A : AW} (hA : A.ok) {at_ wo : Int} {k : Nat} {fi fp nx wr : Nat → Int} {Q : R_iKnown_note → Prop} (hk : k + 1 ≤ A.c) (h : KnI A at_ wo (k + 1) fi fp nx wr) (h5 : A.ki (k + 1) ≠ 5) (hkn : knw A at_ wo (k + 1)) (hQ : ∀ fi2 fp2 nx2 wr2, KnI A at_ wo k fi2 fp2 nx2 wr2 → Q (fi2, fp2, nx2, wr2)) : wp (iKnown_note ((k + 1 : Nat) : Int) (A.te (k + 1)) A.c A.ki fi fp nx wr) Q := by
  have hc := hA.1
  have o := hA.2.1 (k + 1) (by omega) hk
  have ot := o.2.1
  have ek : ((k + 1 : Nat) : Int).toNat = k + 1 := rfl
  obtain ⟨T, hT⟩ : ∃ T : Nat, A.te (k + 1) = T := ⟨(A.te (k + 1)).toNat, by omega⟩
  have eT : (T : Int).toNat = T := rfl
  obtain ⟨h1, h2, h3⟩ := h
  -- the greatest of a kind at a term, this act among them
  have mid : ∀ kd t : Nat, t < 40 → ∀ f : Nat → Int, (∀ t, t < 40 → f t = if k + 1 < mK A at_ wo kd t A.c then ((mK A at_ wo kd t A.c : Nat) : Int) else 0) → (A.ki (k + 1) = kd → t ≠ T) → f t = if k < mK A at_ wo kd t A.c then ((mK A at_ wo kd t A.c : Nat) : Int) else 0 := fun kd t ht f hf hne => by
    rw [hf t ht]
    have ne : mK A at_ wo kd t A.c ≠ k + 1 := fun e => by
      have := (mK_s A at_ wo kd t A.c).2.1 (by omega)
      rw [e] at this
      have := hne this.1
      omega
    by_cases c : k + 1 < mK A at_ wo kd t A.c
    · rw [if_pos c, if_pos (by omega)]
    · rw [if_neg c, if_neg (by omega)]
  have top : ∀ kd : Nat, A.ki (k + 1) = kd → T < 40 → ∀ f : Nat → Int, (∀ t, t < 40 → f t = if k + 1 < mK A at_ wo kd t A.c then ((mK A at_ wo kd t A.c : Nat) : Int) else 0) → ∀ t, t < 40 → va_up f T (jmax (f T) ((k + 1 : Nat) : Int)) t = if k < mK A at_ wo kd t A.c then ((mK A at_ wo kd t A.c : Nat) : Int) else 0 := fun kd hkd hT4 f hf t ht => by
    by_cases e : t = T
    · rw [e, va_up_self, hf T hT4]
      have ge := (mK_s A at_ wo kd T A.c).2.2 (k + 1) (by omega) hk ⟨hkd, hkn, hT⟩
      rw [if_pos (show k < mK A at_ wo kd T A.c by omega)]
      by_cases c : k + 1 < mK A at_ wo kd T A.c
      · rw [if_pos c]
        unfold jmax
        rw [if_neg (by omega)]
      · rw [if_neg c]
        unfold jmax
        rw [if_pos (by omega)]
        omega
    · rw [va_up_ne _ _ e]
      exact mid kd t ht f hf (fun _ => e)
  have lists : (A.ki (k + 1) ≠ 2 ∧ A.ki (k + 1) ≠ 3) → ∀ t, t < 40 → ∃ L, lnk nx (fp t) L ∧ L.length + k ≤ A.c ∧ (∀ j, j ∈ L → k < j ∧ j ≤ A.c ∧ (A.ki j = 2 ∨ A.ki j = 3)) ∧ ∀ g, lsum g L = pSum A at_ wo (-1) 0 t g A.c - pSum A at_ wo (-1) 0 t g k := fun hn t ht => by
    obtain ⟨L, l1, l2, l3, l4⟩ := h3 t ht
    refine ⟨L, l1, by omega, fun j hj => ⟨by have := (l3 j hj).1; omega, (l3 j hj).2⟩, fun g => ?_⟩
    rw [l4 g]
    have e : pSum A at_ wo (-1) 0 t g (k + 1) = pSum A at_ wo (-1) 0 t g k := by
      show _ + (if isT A at_ wo (-1) 0 t (k + 1) then _ else _) = _
      rw [if_neg (fun q => q.1.elim hn.1 hn.2), Int.add_zero]
    rw [e]
  unfold iKnown_note
  rw [hT, wp_bd1, w_isTerm]
  refine ⟨fun _ => ?_, fun z => absurd (show (0 : Int) ≤ T ∧ (T : Int) < 40 by omega) z⟩
  have hT4 : T < 40 := by omega
  rw [if_neg (by decide), wp_gd, ek, eT]
  refine ⟨jb_iff.mpr (by omega), ?_⟩
  by_cases k1 : A.ki (k + 1) = 1
  · rw [if_pos k1, wp_gd, wp_some]
    refine ⟨jb_iff.mpr (by omega), hQ _ _ _ _ ⟨top 1 k1 hT4 wr h1, fun t ht => mid 4 t ht fi h2 (fun e => by rw [k1] at e; exact absurd e (by decide)), lists (by omega)⟩⟩
  · rw [if_neg k1]
    by_cases k4 : A.ki (k + 1) = 4
    · rw [if_pos k4, wp_gd, wp_some]
      refine ⟨jb_iff.mpr (by omega), hQ _ _ _ _ ⟨fun t ht => mid 1 t ht wr h1 (fun e => by rw [k4] at e; exact absurd e (by decide)), top 4 k4 hT4 fi h2, lists (by omega)⟩⟩
    · rw [if_neg k4, wp_bd2]
      have kp : A.ki (k + 1) = 2 ∨ A.ki (k + 1) = 3 := by
        have := o.1
        omega
      unfold iKnown_addPayment
      rw [wp_bd1, w_isPayK hA (by omega) hk, wp_some, if_pos kp, if_neg (by decide), wp_bd1, w_isTerm]
      refine ⟨fun _ => ?_, fun z => absurd (show (0 : Int) ≤ T ∧ (T : Int) < 40 by omega) z⟩
      rw [if_neg (by decide), wp_gd, wp_gd, wp_some, wp_some, ek, eT]
      refine ⟨jb_iff.mpr (by omega), jb_iff.mpr (by omega), hQ _ _ _ _ ⟨fun t ht => mid 1 t ht wr h1 (fun e => absurd e k1), fun t ht => mid 4 t ht fi h2 (fun e => absurd e k4), fun t ht => ?_⟩⟩
      obtain ⟨L, l1, l2, l3, l4⟩ := h3 t ht
      have nk : ∀ j, j ∈ L → j ≠ k + 1 := fun j hj => by
        have := (l3 j hj).1
        omega
      by_cases e : t = T
      · subst e
        refine ⟨(k + 1) :: L, ⟨va_up_self _ _ _, ?_⟩, ?_, fun j hj => ?_, fun g => ?_⟩
        · show lnk (va_up nx (k + 1) (fp t)) ((va_up nx (k + 1) (fp t)) (k + 1)) L
          rw [va_up_self]
          exact lnk_up l1 nk
        · show L.length + 1 + k ≤ A.c
          omega
        · rcases List.mem_cons.mp hj with z | z
          · rw [z]
            exact ⟨by omega, hk, kp⟩
          · exact ⟨by have := (l3 j z).1; omega, (l3 j z).2⟩
        · show g (k + 1) + lsum g L = _
          rw [l4 g]
          have e2 : pSum A at_ wo (-1) 0 t g (k + 1) = pSum A at_ wo (-1) 0 t g k + g (k + 1) := by
            show _ + (if isT A at_ wo (-1) 0 t (k + 1) then _ else _) = _
            rw [if_pos ⟨kp, hkn, by rw [if_neg (by omega)]; exact hT⟩]
          rw [e2]
          omega
      · refine ⟨L, ?_, by omega, fun j hj => ⟨by have := (l3 j hj).1; omega, (l3 j hj).2⟩, fun g => ?_⟩
        · show lnk (va_up nx (k + 1) (fp T)) ((va_up fp T ((k + 1 : Nat) : Int)) t) L
          rw [va_up_ne _ _ e]
          exact lnk_up l1 nk
        · rw [l4 g]
          have e2 : pSum A at_ wo (-1) 0 t g (k + 1) = pSum A at_ wo (-1) 0 t g k := by
            show _ + (if isT A at_ wo (-1) 0 t (k + 1) then _ else _) = _
            rw [if_neg (fun q => e ?_), Int.add_zero]
            have q2 := q.2.2
            rw [if_neg (by omega), hT] at q2
            omega
          rw [e2]
theorem w_setAt {N : Nat} (hN : 5000 ≤ N) {A : AW} (hA : A.ok) {at_ wo : Int} (h0 : 0 ≤ at_) {fi fp nx wr : Nat → Int} {Q : R_iKnown_setAt → Prop} (hQ : ∀ fi2 fp2 nx2 wr2, KnOk A at_ wo (-1) 0 fi2 fp2 nx2 wr2 → Q (fi2, fp2, nx2, wr2)) : wp (iKnown_setAt N at_ wo A.c A.ki A.te A.vb fi fp nx wr) Q := by
  have hc := hA.1
  obtain ⟨k0, hk0⟩ : ∃ k0 : Nat, jmin at_ A.c = k0 := ⟨(jmin at_ A.c).toNat, by unfold jmin; split <;> omega⟩
  have hk1 : k0 ≤ A.c ∧ (k0 : Int) ≤ at_ ∧ ((k0 : Int) = at_ ∨ k0 = A.c) := by
    unfold jmin at hk0
    split at hk0 <;> omega
  unfold iKnown_setAt iActs_size
  rw [wp_bd1, wp_some, hk0]
  unfold iKnown_setAt_b36
  have fin : ∀ fi2 fp2 nx2 wr2, KnI A at_ wo 0 fi2 fp2 nx2 wr2 → wp (iKnown_setAt_b78 N at_ wo A.c A.ki A.te A.vb fi2 fp2 nx2 wr2) Q := by
    intro fi2 fp2 nx2 wr2 ⟨h1, h2, h3⟩
    unfold iKnown_setAt_b78 iKnown_setAt_b80
    refine wp_zlp2 (fun (m : Nat) (x3 : Int) (w : Nat → Int) => ∃ t : Nat, t + m = 40 ∧ x3 = t ∧ 1 ≤ t ∧ (∀ y, y < t → w y = ((wA A at_ wo y A.c : Nat) : Int)) ∧ ∀ y, t ≤ y → y < 40 → w y = ((mK A at_ wo 1 y A.c : Nat) : Int)) ?_ N 39 1 wr2 (by omega) ⟨1, rfl, rfl, Nat.le_refl 1, fun y hy => ?_, fun y hy hy4 => ?_⟩
    · intro self m x3 w ⟨t, t1, t2, t3, t4, t5⟩ ih
      subst t2
      unfold iKnown_setAt_b80_F
      rw [wp_ite]
      refine ⟨fun c => ?_, fun c => ?_⟩
      · rw [wp_some]
        refine hQ _ _ _ _ ⟨fun y hy => t4 y (by omega), fun y hy => ?_, fun y hy => ?_⟩
        · rw [h2 y hy]
          by_cases z : 0 < mK A at_ wo 4 y A.c
          · rw [if_pos z]
          · rw [if_neg z]
            omega
        · obtain ⟨L, l1, l2, l3, l4⟩ := h3 y hy
          refine ⟨L, l1, by omega, fun j hj => ⟨⟨by have := (l3 j hj).1; omega, (l3 j hj).2.1⟩, (l3 j hj).2.2⟩, fun g => ?_⟩
          rw [l4 g]
          show _ - (0 : Int) = _
          omega
      · have et : (t : Int).toNat = t := rfl
        have et1 : ((t : Int) - 1).toNat = t - 1 := by omega
        have w1 := t5 t (Nat.le_refl t) (by omega)
        have w0 := t4 (t - 1) (by omega)
        have fl := wA_fill A at_ wo (t - 1) A.c
        rw [show t - 1 + 1 = t by omega] at fl
        have go : ∀ z : Int, z = ((wA A at_ wo t A.c : Nat) : Int) → wp (iKnown_setAt_b117 N at_ wo A.c A.ki A.te A.vb self t t z fi2 fp2 nx2 w) Q := fun z hz => by
          unfold iKnown_setAt_b117
          rw [wp_gd, wp_gd, et]
          refine ⟨jb_iff.mpr (by omega), jr_iff.mpr (by omega), ih (m - 1) _ _ (by omega) ⟨t + 1, by omega, by omega, by omega, fun y hy => ?_, fun y hy hy4 => ?_⟩⟩
          · by_cases e : y = t
            · rw [e, va_up_self, hz]
            · rw [va_up_ne _ _ e]
              exact t4 y (by omega)
          · rw [va_up_ne _ _ (by omega)]
            exact t5 y (by omega) hy4
        rw [wp_gd, et, w1]
        refine ⟨jb_iff.mpr (by omega), ?_⟩
        by_cases z : mK A at_ wo 1 t A.c = 0
        · rw [if_pos (by rw [z]; rfl), wp_gd, wp_gd, et1, w0]
          rw [if_pos z] at fl
          exact ⟨jr_iff.mpr (by omega), jb_iff.mpr (by omega), go _ (by rw [fl])⟩
        · rw [if_neg (by omega)]
          rw [if_neg z] at fl
          exact go _ (by rw [fl])
    · have : y = 0 := by omega
      subst this
      rw [h1 0 (by omega), wA_zero A hA at_ wo A.c (Nat.le_refl _)]
      by_cases z : 0 < mK A at_ wo 1 0 A.c
      · rw [if_pos z]
      · rw [if_neg z]
        omega
    · rw [h1 y hy4]
      by_cases z : 0 < mK A at_ wo 1 y A.c
      · rw [if_pos z]
      · rw [if_neg z]
        omega
  refine wp_zlp5 (fun (m : Nat) (x3 : Int) (fi2 fp2 nx2 wr2 : Nat → Int) => ∃ k : Nat, k = m ∧ x3 = k ∧ k ≤ k0 ∧ KnI A at_ wo k fi2 fp2 nx2 wr2) ?_ N k0 k0 _ _ _ _ (by omega) ⟨k0, rfl, rfl, Nat.le_refl _, ?_⟩
  · intro self m x3 fi2 fp2 nx2 wr2 ⟨k, m1, m2, m3, m4⟩ ih
    subst m1 m2
    unfold iKnown_setAt_b36_F
    rw [wp_ite]
    refine ⟨fun c => ?_, fun c => ?_⟩
    · have : k = 0 := by omega
      subst this
      exact fin _ _ _ _ m4
    · obtain ⟨j, rfl⟩ : ∃ j, k = j + 1 := ⟨k - 1, by omega⟩
      have ej : ((j + 1 : Nat) : Int).toNat = j + 1 := rfl
      have em : ((j + 1 : Nat) : Int) + (-1) = j := by omega
      have go : ∀ fi3 fp3 nx3 wr3, KnI A at_ wo j fi3 fp3 nx3 wr3 → wp (gd (jr (((j + 1 : Nat) : Int) + (-1))) (self (((j + 1 : Nat) : Int) + (-1)) fi3 fp3 nx3 wr3)) Q := fun fi3 fp3 nx3 wr3 h => by
        rw [wp_gd, em]
        exact ⟨jr_iff.mpr (by omega), ih j _ _ _ _ _ (by omega) ⟨j, rfl, rfl, by omega, h⟩⟩
      rw [wp_ite]
      refine ⟨fun c1 => go _ _ _ _ (KnI_no m4 (Or.inr (fun q => q.2.2 c1))), fun c1 => ?_⟩
      rw [wp_bd1, w_isKnownK hA (by omega) (by omega), wp_some]
      by_cases kn : ((j + 1 : Nat) : Int) ≤ at_ ∧ A.ki (j + 1) ≠ 5 ∧ (A.vb (j + 1) = 0 ∨ at_ < A.vb (j + 1))
      · rw [if_pos kn, if_neg (by decide), wp_gd, ej, wp_bd4]
        exact ⟨jb_iff.mpr (by omega), w_note hA (by omega) m4 kn.2.1 ⟨kn.1, kn.2.2, c1⟩ (fun fi3 fp3 nx3 wr3 h => go fi3 fp3 nx3 wr3 h)⟩
      · rw [if_neg kn, if_pos rfl]
        refine go _ _ _ _ (KnI_no m4 ?_)
        by_cases k5 : A.ki (j + 1) = 5
        · exact Or.inl k5
        · exact Or.inr (fun q => kn ⟨q.1, k5, q.2.1⟩)
  · have hi : ∀ kd t, ¬ k0 < mK A at_ wo kd t A.c := fun kd t c => by
      have := mK_s A at_ wo kd t A.c
      have := (this.2.1 (by omega)).2.1.1
      omega
    refine ⟨fun t ht => by rw [if_neg (hi 1 t)], fun t ht => by rw [if_neg (hi 4 t)], fun t ht => ⟨[], rfl, by show 0 + k0 ≤ A.c; omega, fun j hj => (by cases hj), fun g => ?_⟩⟩
    show (0 : Int) = _
    have e : pSum A at_ wo (-1) 0 t g A.c = pSum A at_ wo (-1) 0 t g k0 := by
      rcases hk1.2.2 with z | z
      · have := pSum_hi (A := A) (at_ := at_) (wo := wo) (mv := -1) (mt := 0) (t := t) (g := g) (k := k0) (by omega) (A.c - k0)
        rw [show k0 + (A.c - k0) = A.c by omega] at this
        exact this
      · rw [z]
    rw [e]
    omega
