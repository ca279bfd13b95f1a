set_option maxHeartbeats 4000000
theorem dJ7_fill_53178_0 : decode cJ7_fill_53178 0 = .ok (.iconst 0, 1) := by decide +kernel
theorem dJ7_fill_53178_1 : decode cJ7_fill_53178 1 = .ok (.istore_n 2, 1) := by decide +kernel
theorem dJ7_fill_53178_2 : decode cJ7_fill_53178 2 = .ok (.aload_n 0, 1) := by decide +kernel
theorem dJ7_fill_53178_3 : decode cJ7_fill_53178 3 = .ok (.arraylength, 1) := by decide +kernel
theorem dJ7_fill_53178_4 : decode cJ7_fill_53178 4 = .ok (.istore_n 3, 1) := by decide +kernel
theorem dJ7_fill_53178_5 : decode cJ7_fill_53178 5 = .ok (.iload_n 2, 1) := by decide +kernel
theorem dJ7_fill_53178_6 : decode cJ7_fill_53178 6 = .ok (.iload_n 3, 1) := by decide +kernel
theorem dJ7_fill_53178_7 : decode cJ7_fill_53178 7 = .ok (.if_icmp .ge 13, 3) := by decide +kernel
theorem dJ7_fill_53178_10 : decode cJ7_fill_53178 10 = .ok (.aload_n 0, 1) := by decide +kernel
theorem dJ7_fill_53178_11 : decode cJ7_fill_53178 11 = .ok (.iload_n 2, 1) := by decide +kernel
theorem dJ7_fill_53178_12 : decode cJ7_fill_53178 12 = .ok (.iload_n 1, 1) := by decide +kernel
theorem dJ7_fill_53178_13 : decode cJ7_fill_53178 13 = .ok (.iastore, 1) := by decide +kernel
theorem dJ7_fill_53178_14 : decode cJ7_fill_53178 14 = .ok (.iinc 2 1, 3) := by decide +kernel
theorem dJ7_fill_53178_17 : decode cJ7_fill_53178 17 = .ok (.goto (-12), 3) := by decide +kernel
theorem dJ7_fill_53178_20 : decode cJ7_fill_53178 20 = .ok (.return_, 1) := by decide +kernel
theorem dJ7_fill_d0a16_0 : decode cJ7_fill_d0a16 0 = .ok (.iconst 0, 1) := by decide +kernel
theorem dJ7_fill_d0a16_1 : decode cJ7_fill_d0a16 1 = .ok (.istore_n 3, 1) := by decide +kernel
theorem dJ7_fill_d0a16_2 : decode cJ7_fill_d0a16 2 = .ok (.aload_n 0, 1) := by decide +kernel
theorem dJ7_fill_d0a16_3 : decode cJ7_fill_d0a16 3 = .ok (.arraylength, 1) := by decide +kernel
theorem dJ7_fill_d0a16_4 : decode cJ7_fill_d0a16 4 = .ok (.istore 4, 2) := by decide +kernel
theorem dJ7_fill_d0a16_6 : decode cJ7_fill_d0a16 6 = .ok (.iload_n 3, 1) := by decide +kernel
theorem dJ7_fill_d0a16_7 : decode cJ7_fill_d0a16 7 = .ok (.iload 4, 2) := by decide +kernel
theorem dJ7_fill_d0a16_9 : decode cJ7_fill_d0a16 9 = .ok (.if_icmp .ge 13, 3) := by decide +kernel
theorem dJ7_fill_d0a16_12 : decode cJ7_fill_d0a16 12 = .ok (.aload_n 0, 1) := by decide +kernel
theorem dJ7_fill_d0a16_13 : decode cJ7_fill_d0a16 13 = .ok (.iload_n 3, 1) := by decide +kernel
theorem dJ7_fill_d0a16_14 : decode cJ7_fill_d0a16 14 = .ok (.lload_n 1, 1) := by decide +kernel
theorem dJ7_fill_d0a16_15 : decode cJ7_fill_d0a16 15 = .ok (.lastore, 1) := by decide +kernel
theorem dJ7_fill_d0a16_16 : decode cJ7_fill_d0a16 16 = .ok (.iinc 3 1, 3) := by decide +kernel
theorem dJ7_fill_d0a16_19 : decode cJ7_fill_d0a16 19 = .ok (.goto (-13), 3) := by decide +kernel
theorem dJ7_fill_d0a16_22 : decode cJ7_fill_d0a16 22 = .ok (.return_, 1) := by decide +kernel
theorem zcell_i {cA : ClassId} {N : Nat} {g f : Nat → Int32} (h : ∀ j, j < N → g j = f j) : vp_cell cA (N, .inl g) = vp_cell cA (N, .inl f) := by
  have e : (Array.ofFn (n := N) fun j => Value.int (g j.val)) = Array.ofFn (n := N) fun j => Value.int (f j.val) := congrArg Array.ofFn (funext fun j => by rw [h j.val j.isLt])
  rw [vp_cell_i, vp_cell_i, arrV, arrV, e]
theorem zcell_l {cA : ClassId} {N : Nat} {g f : Nat → Int64} (h : ∀ j, j < N → g j = f j) : vp_cell cA (N, .inr (.inl g)) = vp_cell cA (N, .inr (.inl f)) := by
  have e : (Array.ofFn (n := N) fun j => Value.long (g j.val)) = Array.ofFn (n := N) fun j => Value.long (f j.val) := congrArg Array.ofFn (funext fun j => by rw [h j.val j.isLt])
  rw [vp_cell_l, vp_cell_l, arrV, arrV, e]
/-- what lies beyond an int row's end doesn't matter -/
theorem zW.exI {X : zX} {I : Nat → Nat → Int32} {J : Nat → Nat → Int64} {Rr : Nat → Nat → Option Nat} {D : zD} {H : Heap} {k N y : Nat} (hF : ∀ (X : zX) (i : Nat → Int32) (j : Nat → Int64) (r : Nat → Option Nat), zF X k i j r = .inl (X.2.2.1 y, N, .inl i)) {g f : Nat → Int32} (hgf : ∀ j, j < N → g j = f j) (h : zW X (va_up I k g, J, Rr, D) H) : zW X (va_up I k f, J, Rr, D) H := by
  refine ⟨h.1, fun j hj => ?_, h.2.2⟩
  have h1 := h.2.1 j hj
  by_cases e : j = k
  · subst e
    show va_at X.2.1 vwCl (X.1 + j, zF X j (va_up I j f j) (J j) (Rr j)) H
    have h2 : va_at X.2.1 vwCl (X.1 + j, zF X j (va_up I j g j) (J j) (Rr j)) H := h1
    rw [zup_s, hF] at h2 ⊢
    exact Eq.trans h2 (congrArg some (zcell_i hgf))
  · show va_at X.2.1 vwCl (X.1 + j, zF X j (va_up I k f j) (J j) (Rr j)) H
    have h2 : va_at X.2.1 vwCl (X.1 + j, zF X j (va_up I k g j) (J j) (Rr j)) H := h1
    rw [zup_n e] at h2 ⊢
    exact h2
theorem zW.exJ {X : zX} {I : Nat → Nat → Int32} {J : Nat → Nat → Int64} {Rr : Nat → Nat → Option Nat} {D : zD} {H : Heap} {k N y : Nat} (hF : ∀ (X : zX) (i : Nat → Int32) (j : Nat → Int64) (r : Nat → Option Nat), zF X k i j r = .inl (X.2.2.1 y, N, .inr (.inl j))) {g f : Nat → Int64} (hgf : ∀ j, j < N → g j = f j) (h : zW X (I, va_up J k g, Rr, D) H) : zW X (I, va_up J k f, Rr, D) H := by
  refine ⟨h.1, fun j hj => ?_, h.2.2⟩
  have h1 := h.2.1 j hj
  by_cases e : j = k
  · subst e
    show va_at X.2.1 vwCl (X.1 + j, zF X j (I j) (va_up J j f j) (Rr j)) H
    have h2 : va_at X.2.1 vwCl (X.1 + j, zF X j (I j) (va_up J j g j) (Rr j)) H := h1
    rw [zup_s, hF] at h2 ⊢
    exact Eq.trans h2 (congrArg some (zcell_l hgf))
  · show va_at X.2.1 vwCl (X.1 + j, zF X j (I j) (va_up J k f j) (Rr j)) H
    have h2 : va_at X.2.1 vwCl (X.1 + j, zF X j (I j) (va_up J k g j) (Rr j)) H := h1
    rw [zup_n e] at h2 ⊢
    exact h2
theorem zy_J7_fill_53178 : zYs yJ7_fill_53178 cJ7_fill_53178 4 none 2 := ⟨zw_88, zw_5, zw_89, by decide, by decide, by decide⟩
theorem c_J7_fill_53178_l {C : zC} {I : Nat → Nat → Int32} {J : Nat → Nat → Int64} {Rr : Nat → Nat → Option Nat} {D : zD} (k : Nat) {N : Nat} (hk : k < 182) (hF : ∀ (X : zX) (i : Nat → Int32) (j : Nat → Int64) (r : Nat → Option Nat), zF X k i j r = .inl (X.2.2.1 0, N, .inl i)) (hN : N < 1000000) {v : Int32} {f : Nat → Int32} (hf : ∀ j, j < N → f j = v) (E : zE C RJ7 cJ7_fill_53178 4 none ({ frames := 0, cells := 0, slots := 0, locals := 0 } : Room)) (hQ : C.Q = zQv C ({ frames := 0, cells := 0, slots := 0, locals := 0 } : Room) (va_up I k f, J, Rr, D)) : ∀ (m i : Nat) (g : Nat → Int32), i + m = N → (∀ j, j < i → g j = v) → zB C (0, 0) 5 [(2, .int (nI i)), (3, .int (nI N)), (0, .ref (C.X.1 + k)), (1, .int v)] [] (va_up I k g, J, Rr, D) := by
  intro m
  induction m with
  | zero =>
    intro i g him hg
    refine zb_iload_n E dJ7_fill_53178_5 0 rfl rfl ?_
    refine zb_iload_n E dJ7_fill_53178_6 1 rfl rfl ?_
    refine zb_icmp_ge E dJ7_fill_53178_7 (tgt := 20) rfl (fun hc => ?_) (fun hc => absurd (nI_le (by omega) (by omega)) hc)
    have hx : ∀ (H : Heap), zW C.X (va_up I k g, J, Rr, D) H → zW C.X (va_up I k f, J, Rr, D) H := fun H hW => zW.exI (y := 0) hF (fun j hj => by rw [hg j (by omega), hf j hj]) hW
    exact fun H locs ls hl hW hS => (zb_vret (S := (va_up I k f, J, Rr, D)) (cs := (0, 0)) E hQ rfl (by decide) dJ7_fill_53178_20) H locs ls hl (hx H hW) hS
  | succ m ih =>
    intro i g him hg
    refine zb_iload_n E dJ7_fill_53178_5 0 rfl rfl ?_
    refine zb_iload_n E dJ7_fill_53178_6 1 rfl rfl ?_
    refine zb_icmp_ge E dJ7_fill_53178_7 (tgt := 20) rfl (fun hc => absurd hc (nI_ge (by omega) (by omega))) (fun hc => ?_)
    refine zb_aload_n E dJ7_fill_53178_10 2 rfl rfl ?_
    refine zb_iload_n E dJ7_fill_53178_11 0 rfl rfl ?_
    refine zb_iload_n E dJ7_fill_53178_12 3 rfl rfl ?_
    refine zb_iast E k hk hF (f := g) zup_s (vp_in_nI (by omega) (by omega)) dJ7_fill_53178_13 (I2 := va_up I k (upd g (nI i).toNatClampNeg v)) zn1 ?_
    refine zb_iinc E dJ7_fill_53178_14 0 rfl (v := nI (i + 1)) (nI_succ i).symm (by decide) (lv2 := [(2, .int (nI (i + 1))), (3, .int (nI N)), (0, .ref (C.X.1 + k)), (1, .int v)]) rfl ?_
    refine zb_goto E dJ7_fill_53178_17 (tgt := 5) rfl ?_
    rw [nI_clamp (by omega)]
    refine ih (i + 1) _ (by omega) (fun j hj => ?_)
    by_cases e : j = i
    · subst e
      simp [upd]
    · simp only [upd, if_neg e]
      exact hg j (by omega)
theorem c_J7_fill_53178 {l : Launch} {X : zX} {I : Nat → Nat → Int32} {J : Nat → Nat → Int64} {Rr : Nat → Nat → Option Nat} {D : zD} (k : Nat) {N : Nat} (hk : k < 182) (hF : ∀ (X : zX) (i : Nat → Int32) (j : Nat → Int64) (r : Nat → Option Nat), zF X k i j r = .inl (X.2.2.1 0, N, .inl i)) (hN : N < 1000000) {v : Int32} : zMv l yJ7_fill_53178 cJ7_fill_53178 4 none ({ frames := 0, cells := 0, slots := 0, locals := 0 } : Room) X [.ref (X.1 + k), .int v] (I, J, Rr, D) (va_up I k (fun _ => v), J, Rr, D) := by
  refine zMv.of (by decide) (Nat.le_of_ble_eq_true rfl) (fun C E hl hX hQ => ?_)
  subst hl
  subst hX
  refine zb_iconst E dJ7_fill_53178_0 (v := 0) rfl ?_
  refine zb_istore_n E dJ7_fill_53178_1 rfl (by decide) (lv2 := [(2, .int 0), (0, .ref (C.X.1 + k)), (1, .int v)]) rfl ?_
  refine zb_aload_n E dJ7_fill_53178_2 1 rfl rfl ?_
  refine zb_alen E k hk (hF _ _ _ _) 0 rfl (v := nI N) rfl dJ7_fill_53178_3 ?_
  refine zb_istore_n E dJ7_fill_53178_4 rfl (by decide) (lv2 := [(3, .int (nI N)), (2, .int 0), (0, .ref (C.X.1 + k)), (1, .int v)]) rfl ?_
  refine zb_sub [1, 0, 2, 3] rfl ?_
  have e0 : va_up I k (I k) = I := zup_id
  refine zb_S (S2 := (va_up I k (I k), J, Rr, D)) (by rw [e0]) ?_
  exact c_J7_fill_53178_l k hk hF hN (fun j hj => rfl) E hQ N 0 (I k) (by omega) (fun j hj => absurd hj (Nat.not_lt_zero j))
theorem zy_J7_fill_d0a16 : zYs yJ7_fill_d0a16 cJ7_fill_d0a16 5 none 2 := ⟨zw_571, zw_5, zw_572, by decide, by decide, by decide⟩
theorem c_J7_fill_d0a16_l {C : zC} {I : Nat → Nat → Int32} {J : Nat → Nat → Int64} {Rr : Nat → Nat → Option Nat} {D : zD} (k : Nat) {N : Nat} (hk : k < 182) (hF : ∀ (X : zX) (i : Nat → Int32) (j : Nat → Int64) (r : Nat → Option Nat), zF X k i j r = .inl (X.2.2.1 1, N, .inr (.inl j))) (hN : N < 1000000) {v : Int64} {f : Nat → Int64} (hf : ∀ j, j < N → f j = v) (E : zE C RJ7 cJ7_fill_d0a16 5 none ({ frames := 0, cells := 0, slots := 0, locals := 0 } : Room)) (hQ : C.Q = zQv C ({ frames := 0, cells := 0, slots := 0, locals := 0 } : Room) (I, va_up J k f, Rr, D)) : ∀ (m i : Nat) (g : Nat → Int64), i + m = N → (∀ j, j < i → g j = v) → zB C (0, 0) 6 [(3, .int (nI i)), (4, .int (nI N)), (0, .ref (C.X.1 + k)), (1, .long v)] [] (I, va_up J k g, Rr, D) := by
  intro m
  induction m with
  | zero =>
    intro i g him hg
    refine zb_iload_n E dJ7_fill_d0a16_6 0 rfl rfl ?_
    refine zb_iload E dJ7_fill_d0a16_7 1 rfl ?_
    refine zb_icmp_ge E dJ7_fill_d0a16_9 (tgt := 22) rfl (fun hc => ?_) (fun hc => absurd (nI_le (by omega) (by omega)) hc)
    have hx : ∀ (H : Heap), zW C.X (I, va_up J k g, Rr, D) H → zW C.X (I, va_up J k f, Rr, D) H := fun H hW => zW.exJ (y := 1) hF (fun j hj => by rw [hg j (by omega), hf j hj]) hW
    exact fun H locs ls hl hW hS => (zb_vret (S := (I, va_up J k f, Rr, D)) (cs := (0, 0)) E hQ rfl (by decide) dJ7_fill_d0a16_22) H locs ls hl (hx H hW) hS
  | succ m ih =>
    intro i g him hg
    refine zb_iload_n E dJ7_fill_d0a16_6 0 rfl rfl ?_
    refine zb_iload E dJ7_fill_d0a16_7 1 rfl ?_
    refine zb_icmp_ge E dJ7_fill_d0a16_9 (tgt := 22) rfl (fun hc => absurd hc (nI_ge (by omega) (by omega))) (fun hc => ?_)
    refine zb_aload_n E dJ7_fill_d0a16_12 2 rfl rfl ?_
    refine zb_iload_n E dJ7_fill_d0a16_13 0 rfl rfl ?_
    refine zb_lload_n E dJ7_fill_d0a16_14 3 rfl rfl ?_
    refine zb_last E k hk hF (f := g) zup_s (vp_in_nI (by omega) (by omega)) dJ7_fill_d0a16_15 (J2 := va_up J k (vp_updL g (nI i).toNatClampNeg v)) zn1 ?_
    refine zb_iinc E dJ7_fill_d0a16_16 0 rfl (v := nI (i + 1)) (nI_succ i).symm (by decide) (lv2 := [(3, .int (nI (i + 1))), (4, .int (nI N)), (0, .ref (C.X.1 + k)), (1, .long v)]) rfl ?_
    refine zb_goto E dJ7_fill_d0a16_19 (tgt := 6) rfl ?_
    rw [nI_clamp (by omega)]
    refine ih (i + 1) _ (by omega) (fun j hj => ?_)
    by_cases e : j = i
    · subst e
      simp [vp_updL]
    · simp only [vp_updL, if_neg e]
      exact hg j (by omega)
theorem c_J7_fill_d0a16 {l : Launch} {X : zX} {I : Nat → Nat → Int32} {J : Nat → Nat → Int64} {Rr : Nat → Nat → Option Nat} {D : zD} (k : Nat) {N : Nat} (hk : k < 182) (hF : ∀ (X : zX) (i : Nat → Int32) (j : Nat → Int64) (r : Nat → Option Nat), zF X k i j r = .inl (X.2.2.1 1, N, .inr (.inl j))) (hN : N < 1000000) {v : Int64} : zMv l yJ7_fill_d0a16 cJ7_fill_d0a16 5 none ({ frames := 0, cells := 0, slots := 0, locals := 0 } : Room) X [.ref (X.1 + k), .long v] (I, J, Rr, D) (I, va_up J k (fun _ => v), Rr, D) := by
  refine zMv.of (by decide) (Nat.le_of_ble_eq_true rfl) (fun C E hl hX hQ => ?_)
  subst hl
  subst hX
  refine zb_iconst E dJ7_fill_d0a16_0 (v := 0) rfl ?_
  refine zb_istore_n E dJ7_fill_d0a16_1 rfl (by decide) (lv2 := [(3, .int 0), (0, .ref (C.X.1 + k)), (1, .long v)]) rfl ?_
  refine zb_aload_n E dJ7_fill_d0a16_2 1 rfl rfl ?_
  refine zb_alen E k hk (hF _ _ _ _) 1 rfl (v := nI N) rfl dJ7_fill_d0a16_3 ?_
  refine zb_istore E dJ7_fill_d0a16_4 (by decide) (lv2 := [(4, .int (nI N)), (3, .int 0), (0, .ref (C.X.1 + k)), (1, .long v)]) rfl ?_
  refine zb_sub [1, 0, 2, 3] rfl ?_
  have e0 : va_up J k (J k) = J := zup_id
  refine zb_S (S2 := (I, va_up J k (J k), Rr, D)) (by rw [e0]) ?_
  exact c_J7_fill_d0a16_l k hk hF hN (fun j hj => rfl) E hQ N 0 (J k) (by omega) (fun j hj => absurd hj (Nat.not_lt_zero j))
def zYcopy : Prop := Cond.native arraycopyName ∈ zT ∧ Cond.static arraycopyName ∈ zT ∧ Cond.initialized "java/lang/System" ∈ zT
theorem zYcp : zYcopy := ⟨zw_450, zw_449, zw_13⟩
theorem znn {z : Int32} (h : 0 ≤ z.toInt) : ¬ z < 0 ∧ z.toInt = (z.toNatClampNeg : Int) := by
  refine ⟨fun q => ?_, ?_⟩
  · have := Int32.lt_iff_toInt_lt.mp q
    have e : (0 : Int32).toInt = 0 := by decide
    omega
  · show z.toInt = ((z.toInt.toNat : Nat) : Int)
    omega
theorem zb_copyI {C : zC} {own : String} {cc : ByteArray} {n : Nat} {ret : Option FieldType} {rm : Room} {cs : Nat × Nat} {pc : Nat} {lv : List (Nat × Value)} {st : List Value} {I : Nat → Nat → Int32} {J : Nat → Nat → Int64} {Rr : Nat → Nat → Option Nat} {D : zD} (E : zE C own cc n ret rm) (k1 k2 : Nat) {N1 N2 : Nat} (hk1 : k1 < 182) (hk2 : k2 < 182) (hF1 : ∀ (X : zX) (i : Nat → Int32) (j : Nat → Int64) (r : Nat → Option Nat), zF X k1 i j r = .inl (X.2.2.1 0, N1, .inl i)) (hF2 : ∀ (X : zX) (i : Nat → Int32) (j : Nat → Int64) (r : Nat → Option Nat), zF X k2 i j r = .inl (X.2.2.1 0, N2, .inl i)) {f g : Nat → Int32} (hf : I k1 = f) (hg : I k2 = g) {sp dp nn : Int32} (hc : cpok sp N1 dp N2 nn = true) {index : Nat} (hl : Cond.methodLink own index arraycopyName ∈ zT) (hR : 1 ≤ rm.frames ∧ 72 ≤ rm.locals) (hcat : (st.map fun v => v.category).sum ≤ 8) (d : decode cc pc = .ok (.invokestatic index, 3)) {I2 : Nat → Nat → Int32} (hI : va_up I k2 (va_cpy f g sp.toNatClampNeg dp.toNatClampNeg nn.toNatClampNeg) = I2) (kk : zB C cs (pc + 3) lv st (I2, J, Rr, D)) : zB C cs pc lv (.int nn :: .int dp :: .ref (C.X.1 + k2) :: .int sp :: .ref (C.X.1 + k1) :: st) (I, J, Rr, D) := by
  obtain ⟨p, l, e, R, s, m, args, below, meth, c, Q, X, nl⟩ := C
  intro H locs ls hl0 hW hS
  subst hf
  subst hg
  subst hI
  have hR2 : R = rm := E.2.2.2.2.2.2.2.2.1
  subst hR2
  obtain ⟨q1, q2, q3, q4, q5⟩ := of_decide_eq_true hc
  obtain ⟨h1, r1⟩ := znn q1
  obtain ⟨h2, r2⟩ := znn q2
  obtain ⟨h3, r3⟩ := znn q3
  have h4 : sp.toNatClampNeg + nn.toNatClampNeg ≤ N1 := by omega
  have h5 : dp.toNatClampNeg + nn.toNatClampNeg ≤ N2 := by omega
  have c1 : H[X.1 + k1]? = some (vp_cell (X.2.2.1 0) (N1, .inl (I k1))) := hW.at_ hk1 (hF1 X _ _ _) 0 _ rfl
  have c2 : H[X.1 + k2]? = some (vp_cell (X.2.2.1 0) (N2, .inl (I k2))) := hW.at_ hk2 (hF2 X _ _ _) 0 _ rfl
  have hK : va_K X.2.1 vwCl (zty X) s := E.2.2.2.2.2.2.2.2.2.1
  obtain ⟨-, t1, ht1, cm1, hkk1⟩ := (hK.2 0 _ rfl).1 N1 (fun j => .int (I k1 j))
  obtain ⟨-, t2, ht2, cm2, hkk2⟩ := (hK.2 0 _ rfl).1 N2 (fun j => .int (I k2 j))
  intro T hT XS
  have hw : nativeFrameWords "java/lang/System" "arraycopy" 5 + 11 ≤ 64 := by decide
  obtain ⟨vm', X', step⟩ := XS.arraycopy E.1 E.2.2.2.2.1 (E.2.2.2.2.2.1 _ hl) (E.2.2.2.2.2.1 _ zYcp.1) (E.2.2.2.2.2.1 _ zYcp.2.1) (E.2.2.2.2.2.1 _ zYcp.2.2) (src := X.1 + k1) (dst := X.1 + k2) (cs := vp_cell (X.2.2.1 0) (N1, .inl (I k1))) (cd := vp_cell (X.2.2.1 0) (N2, .inl (I k2))) (srcPos := sp) (destPos := dp) (n := nn) (by rw [hT]; exact c1) (by rw [hT]; exact c2)
    (fun _ h => by cases h) (fun _ h => by cases h) (fun h => by cases h) (fun h => by cases h) ht1 ht2 hkk1 hkk2 (by simp [refKind]) h1 h2 h3
    (by rw [r1, r3]; show ¬ _ > ((arrV _ N1 (fun j => .int (I k1 j))).slots.size : Int); rw [arrV_size]; omega)
    (by rw [r2, r3]; show ¬ _ > ((arrV _ N2 (fun j => .int (I k2 j))).slots.size : Int); rw [arrV_size]; omega)
    (fun vm₁ _ i hi => by
      have e1 : (vp_cell (X.2.2.1 0) (N1, .inl (I k1))).slots.getD (sp.toNatClampNeg + i) .null = .int (I k1 (sp.toNatClampNeg + i)) := by
        show (arrV _ N1 (fun j => .int (I k1 j))).slots.getD _ _ = _
        rw [Array.getD_eq_getD_getElem?, arrV_read _ _ (by omega)]
        rfl
      rw [e1]
      exact ⟨rfl, trivial⟩)
    (g := F0 m pc ls (.int nn :: .int dp :: .ref (X.1 + k2) :: .int sp :: .ref (X.1 + k1) :: st)) rfl (by show ls.size = _; exact hl0.1.trans (E.2.2.2.1.trans E.2.2.1.symm)) (rest := st) rfl (by rw [E.2.1]; exact d) hR.1 (by show 2 * 0 + _ + _ ≤ R.locals; have := hR.2; omega)
  have e1 : copied (vp_cell (X.2.2.1 0) (N1, .inl (I k1))) (vp_cell (X.2.2.1 0) (N2, .inl (I k2))) sp dp nn = vp_cell (X.2.2.1 0) (N2, .inl (va_cpy (I k1) (I k2) sp.toNatClampNeg dp.toNatClampNeg nn.toNatClampNeg)) := va_copied (fun z => .int z) _ _ (I k1) (I k2) h4
  rw [e1] at X' step
  have hl1 : X.1 + k2 < H.size := (Array.getElem?_eq_some_iff.mp c2).1
  have hheap : ∀ Y : Cell, ((T.setVm vm').setCell (X.1 + k2) Y).heap = H.setIfInBounds (X.1 + k2) Y := fun Y => by rw [← hT]; rfl
  have oq : ∀ (Y : Cell) (q : Nat), q ≠ X.1 + k2 → (H.setIfInBounds (X.1 + k2) Y)[q]? = H[q]? := fun Y q hq => by simp [Array.getElem?_setIfInBounds, Ne.symm hq]
  have hat : ∀ Y : Cell, (H.setIfInBounds (X.1 + k2) Y)[X.1 + k2]? = some Y := fun Y => by simp [Array.getElem?_setIfInBounds, hl1]
  obtain ⟨t, a1, b1⟩ := kk _ _ ls hl0 (hW.up (by simp) (oq _) (by
      show va_at X.2.1 vwCl (X.1 + k2, zF X k2 (va_up I k2 (va_cpy (I k1) (I k2) sp.toNatClampNeg dp.toNatClampNeg nn.toNatClampNeg) k2) (J k2) (Rr k2)) _
      rw [zup_s, hF2]
      exact hat _) (fun j h => ⟨zup_n h, rfl, rfl⟩) hk2 rfl) ⟨by simp; exact hS.1, fun q g1 g2 => by
      rw [oq _ q (fun e => g2 (by rw [e]; exact Nat.le_add_right _ _))]
      exact hS.2.1 q g1 g2, fun q hq => by
      rcases List.mem_append.mp hq with h | h
      · exact hS.2.2 q h
      · obtain ⟨z, -, hz⟩ := List.mem_map.mp h
        rw [← hz]
        exact Nat.le_add_right _ _⟩ _ (hheap _) X'
  exact ⟨t, step t a1, b1⟩
theorem zb_copyJ {C : zC} {own : String} {cc : ByteArray} {n : Nat} {ret : Option FieldType} {rm : Room} {cs : Nat × Nat} {pc : Nat} {lv : List (Nat × Value)} {st : List Value} {I : Nat → Nat → Int32} {J : Nat → Nat → Int64} {Rr : Nat → Nat → Option Nat} {D : zD} (E : zE C own cc n ret rm) (k1 k2 : Nat) {N1 N2 : Nat} (hk1 : k1 < 182) (hk2 : k2 < 182) (hF1 : ∀ (X : zX) (i : Nat → Int32) (j : Nat → Int64) (r : Nat → Option Nat), zF X k1 i j r = .inl (X.2.2.1 1, N1, .inr (.inl j))) (hF2 : ∀ (X : zX) (i : Nat → Int32) (j : Nat → Int64) (r : Nat → Option Nat), zF X k2 i j r = .inl (X.2.2.1 1, N2, .inr (.inl j))) {f g : Nat → Int64} (hf : J k1 = f) (hg : J k2 = g) {sp dp nn : Int32} (hc : cpok sp N1 dp N2 nn = true) {index : Nat} (hl : Cond.methodLink own index arraycopyName ∈ zT) (hR : 1 ≤ rm.frames ∧ 72 ≤ rm.locals) (hcat : (st.map fun v => v.category).sum ≤ 8) (d : decode cc pc = .ok (.invokestatic index, 3)) {J2 : Nat → Nat → Int64} (hI : va_up J k2 (va_cpy f g sp.toNatClampNeg dp.toNatClampNeg nn.toNatClampNeg) = J2) (kk : zB C cs (pc + 3) lv st (I, J2, Rr, D)) : zB C cs pc lv (.int nn :: .int dp :: .ref (C.X.1 + k2) :: .int sp :: .ref (C.X.1 + k1) :: st) (I, J, Rr, D) := by
  obtain ⟨p, l, e, R, s, m, args, below, meth, c, Q, X, nl⟩ := C
  intro H locs ls hl0 hW hS
  subst hf
  subst hg
  subst hI
  have hR2 : R = rm := E.2.2.2.2.2.2.2.2.1
  subst hR2
  obtain ⟨q1, q2, q3, q4, q5⟩ := of_decide_eq_true hc
  obtain ⟨h1, r1⟩ := znn q1
  obtain ⟨h2, r2⟩ := znn q2
  obtain ⟨h3, r3⟩ := znn q3
  have h4 : sp.toNatClampNeg + nn.toNatClampNeg ≤ N1 := by omega
  have h5 : dp.toNatClampNeg + nn.toNatClampNeg ≤ N2 := by omega
  have c1 : H[X.1 + k1]? = some (vp_cell (X.2.2.1 1) (N1, .inr (.inl (J k1)))) := hW.at_ hk1 (hF1 X _ _ _) 0 _ rfl
  have c2 : H[X.1 + k2]? = some (vp_cell (X.2.2.1 1) (N2, .inr (.inl (J k2)))) := hW.at_ hk2 (hF2 X _ _ _) 0 _ rfl
  have hK : va_K X.2.1 vwCl (zty X) s := E.2.2.2.2.2.2.2.2.2.1
  obtain ⟨-, t1, ht1, cm1, hkk1⟩ := (hK.2 1 _ rfl).1 N1 (fun j => .long (J k1 j))
  obtain ⟨-, t2, ht2, cm2, hkk2⟩ := (hK.2 1 _ rfl).1 N2 (fun j => .long (J k2 j))
  intro T hT XS
  have hw : nativeFrameWords "java/lang/System" "arraycopy" 5 + 11 ≤ 64 := by decide
  obtain ⟨vm', X', step⟩ := XS.arraycopy E.1 E.2.2.2.2.1 (E.2.2.2.2.2.1 _ hl) (E.2.2.2.2.2.1 _ zYcp.1) (E.2.2.2.2.2.1 _ zYcp.2.1) (E.2.2.2.2.2.1 _ zYcp.2.2) (src := X.1 + k1) (dst := X.1 + k2) (cs := vp_cell (X.2.2.1 1) (N1, .inr (.inl (J k1)))) (cd := vp_cell (X.2.2.1 1) (N2, .inr (.inl (J k2)))) (srcPos := sp) (destPos := dp) (n := nn) (by rw [hT]; exact c1) (by rw [hT]; exact c2)
    (fun _ h => by cases h) (fun _ h => by cases h) (fun h => by cases h) (fun h => by cases h) ht1 ht2 hkk1 hkk2 (by simp [refKind]) h1 h2 h3
    (by rw [r1, r3]; show ¬ _ > ((arrV _ N1 (fun j => .long (J k1 j))).slots.size : Int); rw [arrV_size]; omega)
    (by rw [r2, r3]; show ¬ _ > ((arrV _ N2 (fun j => .long (J k2 j))).slots.size : Int); rw [arrV_size]; omega)
    (fun vm₁ _ i hi => by
      have e1 : (vp_cell (X.2.2.1 1) (N1, .inr (.inl (J k1)))).slots.getD (sp.toNatClampNeg + i) .null = .long (J k1 (sp.toNatClampNeg + i)) := by
        show (arrV _ N1 (fun j => .long (J k1 j))).slots.getD _ _ = _
        rw [Array.getD_eq_getD_getElem?, arrV_read _ _ (by omega)]
        rfl
      rw [e1]
      exact ⟨rfl, trivial⟩)
    (g := F0 m pc ls (.int nn :: .int dp :: .ref (X.1 + k2) :: .int sp :: .ref (X.1 + k1) :: st)) rfl (by show ls.size = _; exact hl0.1.trans (E.2.2.2.1.trans E.2.2.1.symm)) (rest := st) rfl (by rw [E.2.1]; exact d) hR.1 (by show 2 * 0 + _ + _ ≤ R.locals; have := hR.2; omega)
  have e1 : copied (vp_cell (X.2.2.1 1) (N1, .inr (.inl (J k1)))) (vp_cell (X.2.2.1 1) (N2, .inr (.inl (J k2)))) sp dp nn = vp_cell (X.2.2.1 1) (N2, .inr (.inl (va_cpy (J k1) (J k2) sp.toNatClampNeg dp.toNatClampNeg nn.toNatClampNeg))) := va_copied (fun z => .long z) _ _ (J k1) (J k2) h4
  rw [e1] at X' step
  have hl1 : X.1 + k2 < H.size := (Array.getElem?_eq_some_iff.mp c2).1
  have hheap : ∀ Y : Cell, ((T.setVm vm').setCell (X.1 + k2) Y).heap = H.setIfInBounds (X.1 + k2) Y := fun Y => by rw [← hT]; rfl
  have oq : ∀ (Y : Cell) (q : Nat), q ≠ X.1 + k2 → (H.setIfInBounds (X.1 + k2) Y)[q]? = H[q]? := fun Y q hq => by simp [Array.getElem?_setIfInBounds, Ne.symm hq]
  have hat : ∀ Y : Cell, (H.setIfInBounds (X.1 + k2) Y)[X.1 + k2]? = some Y := fun Y => by simp [Array.getElem?_setIfInBounds, hl1]
  obtain ⟨t, a1, b1⟩ := kk _ _ ls hl0 (hW.up (by simp) (oq _) (by
      show va_at X.2.1 vwCl (X.1 + k2, zF X k2 (I k2) (va_up J k2 (va_cpy (J k1) (J k2) sp.toNatClampNeg dp.toNatClampNeg nn.toNatClampNeg) k2) (Rr k2)) _
      rw [zup_s, hF2]
      exact hat _) (fun j h => ⟨rfl, zup_n h, rfl⟩) hk2 rfl) ⟨by simp; exact hS.1, fun q g1 g2 => by
      rw [oq _ q (fun e => g2 (by rw [e]; exact Nat.le_add_right _ _))]
      exact hS.2.1 q g1 g2, fun q hq => by
      rcases List.mem_append.mp hq with h | h
      · exact hS.2.2 q h
      · obtain ⟨z, -, hz⟩ := List.mem_map.mp h
        rw [← hz]
        exact Nat.le_add_right _ _⟩ _ (hheap _) X'
  exact ⟨t, step t a1, b1⟩
theorem zofW {l : Launch} {y : MethodName} {ws ws' : List Cond} {rm : Room} {Pc : Array Value → State → Prop} {Qc : Array Value → State → Outcome → State → Prop} {mc ms : Nat} {free : Addr → Prop} {cc : ByteArray} {maxL : Nat} {ret : Option FieldType}
    (hy : plainFor y = true) (hw : ws = Cond.code y cc maxL ret :: ws')
    (body : ∀ p e s m args below meth c s₁, BodyLoose p l y (headSpec ws rm) cc maxL ret e s m args below meth c s₁ → c.maxLocals = maxL → Pc args s →
      W p l e (headSpec ws rm).room s m args below meth c s.heap [] 0 0 (MQ below Qc args s mc ms free) (entryFrame m args maxL)) : Met l y ws rm Pc Qc mc ms free := by
  refine MetFree.of_bodySF (code := cc) (maxLocals := maxL) (ret := ret) hy ?_ ?_
  · intro args s m h hn
    obtain ⟨meth, c, h1, h2, h3, h4, h5, h6, -, -⟩ := Cond.code_spec hn (atoms_spec (ws := ws) h _ (by rw [hw]; exact List.mem_cons_self))
    exact ⟨meth, c, h1, h2, h3, h4, h5, h6⟩
  · intro p e s m args below meth c s₁ B hml hP _
    obtain ⟨t, a1, o, b1, b2, b3⟩ := body p e s m args below meth c s₁ B hml hP s₁ (by rw [B.state]; rfl) (Stand.of_body B)
    exact ⟨t, o, a1, b1, b2, b3⟩
theorem zMi.ofF {l : Launch} {y : MethodName} {cc : ByteArray} {n : Nat} {ret : Option FieldType} {rm : Room} {X : zX} {av : List Value} {S : zS} {r : Int32} {S2 : zS} (hy : plainFor y = true) (hlen : (lg_sl av).length ≤ n) (body : ∀ C : zC, zE C y.cls cc n ret rm → C.l = l → C.X = X → C.Q = zQi C rm r S2 → zB C (0, 0) 0 (lv_args 0 av) [] S) : zMi l y cc n ret rm X av S r S2 := by
  refine zofW (cc := cc) (maxL := n) (ret := ret) hy rfl ?_
  intro p e s m args below meth c s₁ B hml hP
  obtain ⟨rfl, hW, hK⟩ := hP
  have hl := lv_entry av (n := n) hlen
  rw [lg_entry_eq]
  refine body (p, l, e, rm, s, m, av.toArray, below, meth, c, MQ below (va_Qi (fun (r2 : Int32) (u : zS) => r2 = r ∧ u = S2) (zM X) (zA X)) av.toArray s rm.cells rm.slots (zA X), X, n) ⟨B.exec, B.bytes, hml, rfl, findClass_of_methodNamed B.named, fun w hw => atoms_spec (ws := Cond.code y cc n ret :: zT) B.pre w (List.mem_cons_of_mem _ hw), B.returns, B.notSynchronized, rfl, hK⟩ rfl rfl rfl s.heap [] _ hl hW va_S.rf
theorem zMl.ofF {l : Launch} {y : MethodName} {cc : ByteArray} {n : Nat} {ret : Option FieldType} {rm : Room} {X : zX} {av : List Value} {S : zS} {r : Int64} {S2 : zS} (hy : plainFor y = true) (hlen : (lg_sl av).length ≤ n) (body : ∀ C : zC, zE C y.cls cc n ret rm → C.l = l → C.X = X → C.Q = zQl C rm r S2 → zB C (0, 0) 0 (lv_args 0 av) [] S) : zMl l y cc n ret rm X av S r S2 := by
  refine zofW (cc := cc) (maxL := n) (ret := ret) hy rfl ?_
  intro p e s m args below meth c s₁ B hml hP
  obtain ⟨rfl, hW, hK⟩ := hP
  have hl := lv_entry av (n := n) hlen
  rw [lg_entry_eq]
  refine body (p, l, e, rm, s, m, av.toArray, below, meth, c, MQ below (va_Ql (fun (r2 : Int64) (u : zS) => r2 = r ∧ u = S2) (zM X) (zA X)) av.toArray s rm.cells rm.slots (zA X), X, n) ⟨B.exec, B.bytes, hml, rfl, findClass_of_methodNamed B.named, fun w hw => atoms_spec (ws := Cond.code y cc n ret :: zT) B.pre w (List.mem_cons_of_mem _ hw), B.returns, B.notSynchronized, rfl, hK⟩ rfl rfl rfl s.heap [] _ hl hW va_S.rf
/-- the rows of Matcher.costs: cells 15 .. 25 -/
def zg (J : Nat → Nat → Int64) (v : Nat → Nat → Int64) : Nat → Nat → Int64 := fun a => if 15 ≤ a ∧ a < 26 then v (a - 15) else J a
theorem ib_lt {i : Int32} {n : Nat} (h : ib i n = true) : ix i < n := by
  have h2 := ib_in h
  exact Nat.not_le.mp fun q => h2 (Or.inr q)
theorem zglt {q : Nat} (h : q < 11) : 15 + q < 182 := by omega
theorem zgne {q k : Nat} (h : q < 11) (hk : k < 15 ∨ 26 ≤ k) : 15 + q ≠ k := by omega
theorem zF_g {q : Nat} (h : q < 11) (X : zX) (i : Nat → Int32) (j : Nat → Int64) (r : Nat → Option Nat) : zF X (15 + q) i j r = .inl (X.2.2.1 1, 21, .inr (.inl j)) := by
  have key : ∀ q, q < 11 → zF X (15 + q) i j r = .inl (X.2.2.1 1, 21, .inr (.inl j)) := lt_s (lt_s (lt_s (lt_s (lt_s (lt_s (lt_s (lt_s (lt_s (lt_s (lt_s lt_0 rfl) rfl) rfl) rfl) rfl) rfl) rfl) rfl) rfl) rfl) rfl
  exact key q h
theorem zg_at {J v : Nat → Nat → Int64} {q : Nat} (h : q < 11) : zg J v (15 + q) = v q := by
  show (if 15 ≤ 15 + q ∧ 15 + q < 26 then v (15 + q - 15) else J (15 + q)) = v q
  rw [if_pos ⟨by omega, by omega⟩, Nat.add_sub_cancel_left]
theorem zg_up {J v : Nat → Nat → Int64} {q : Nat} {x : Nat → Int64} (h : q < 11) : va_up (zg J v) (15 + q) x = zg J (va_up v q x) := by
  funext a
  by_cases e : a = 15 + q
  · subst e
    rw [zup_s, zg_at h, zup_s]
  · rw [zup_n e]
    show (if 15 ≤ a ∧ a < 26 then v (a - 15) else J a) = (if 15 ≤ a ∧ a < 26 then va_up v q x (a - 15) else J a)
    by_cases c : 15 ≤ a ∧ a < 26
    · rw [if_pos c, if_pos c, zup_n (by omega)]
    · rw [if_neg c, if_neg c]
theorem zg_zg {J v w : Nat → Nat → Int64} : zg (zg J v) w = zg J w := by
  funext a
  by_cases c : 15 ≤ a ∧ a < 26
  · simp only [zg, if_pos c]
  · simp only [zg, if_neg c]
theorem zgc {J w : Nat → Nat → Int64} {k : Nat} {x : Nat → Int64} (h : k < 15 ∨ 26 ≤ k) : zg (va_up J k x) w = va_up (zg J w) k x := by
  funext a
  by_cases e : a = k
  · subst e
    rw [zup_s]
    show (if 15 ≤ a ∧ a < 26 then w (a - 15) else va_up J a x a) = x
    rw [if_neg (by omega), zup_s]
  · rw [zup_n e]
    show (if 15 ≤ a ∧ a < 26 then w (a - 15) else va_up J k x a) = (if 15 ≤ a ∧ a < 26 then w (a - 15) else J a)
    rw [zup_n e]
theorem zg_id {J v : Nat → Nat → Int64} (h : ∀ q, q < 11 → J (15 + q) = v q) : zg J v = J := by
  funext a
  by_cases c : 15 ≤ a ∧ a < 26
  · show (if 15 ≤ a ∧ a < 26 then v (a - 15) else J a) = J a
    rw [if_pos c, ← h (a - 15) (by omega), show 15 + (a - 15) = a by omega]
  · show (if 15 ≤ a ∧ a < 26 then v (a - 15) else J a) = J a
    rw [if_neg c]
theorem zb_aaldg {C : zC} {own : String} {cc : ByteArray} {n : Nat} {ret : Option FieldType} {rm : Room} {cs : Nat × Nat} {pc : Nat} {lv : List (Nat × Value)} {st : List Value} {S : zS} (E : zE C own cc n ret rm) {i : Int32} (hin : vp_in i 11) (d : decode cc pc = .ok (.aaload, 1)) (kk : zB C cs (pc + 1) lv (.ref (C.X.1 + (15 + ix i)) :: st) S) : zB C cs pc lv (.int i :: .ref (C.X.1 + 14) :: st) S := by
  obtain ⟨p, l, e, R, s, m, args, below, meth, c, Q, X, nn⟩ := C
  intro H locs ls hl hW hS
  have hK : va_K X.2.1 vwCl (zty X) s := E.2.2.2.2.2.2.2.2.2.1
  have hlt : i.toNatClampNeg < 11 := Nat.not_le.mp fun q => hin (Or.inr q)
  have hv : va_rf ((fun q => if q < 11 then some (X.1 + (15 + q)) else none) i.toNatClampNeg) = .ref (X.1 + (15 + ix i)) := by
    show va_rf (if i.toNatClampNeg < 11 then some (X.1 + (15 + i.toNatClampNeg)) else none) = _
    rw [if_pos hlt]
    rfl
  have hc : H[X.1 + 14]? = some (vp_cell (X.2.2.1 7) (11, .inr (.inr (.inr (.inr (fun q => if q < 11 then some (X.1 + (15 + q)) else none)))))) := hW.at_ (k := 14) (by decide) (zF_14 X _ _ _) 0 _ rfl
  exact W.aald (v := .ref (X.1 + (15 + ix i))) (ty := .array .long) E.1 E.2.1 hc ((hK.2 7 _ rfl).1 11 (fun j => va_rf ((fun q => if q < 11 then some (X.1 + (15 + q)) else none) j))) rfl (fun q => by cases q) (by show ¬ (i < 0 ∨ (arrV _ _ _).slots.size ≤ _); rw [arrV_size]; exact hin) (by show (arrV _ _ _).slots[_]? = _; rw [arrV_read _ _ hlt]; exact congrArg some hv) rfl rfl d (kk H locs ls hl hW hS)
