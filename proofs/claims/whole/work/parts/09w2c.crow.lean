set_option maxHeartbeats 400000
set_option maxRecDepth 100000
theorem ze_newaI {C : zC} {own : String} {cc : ByteArray} {n : Nat} {ret : Option FieldType} {rm : Room} {cs : Nat × Nat} {pc : Nat} {lv : List (Nat × Value)} {st : List Value} {n0 : Nat} {e : Nat → va_E} (E : zEe C own cc n ret rm) {k : Int32} {N : Nat} (hk : ¬ k < 0) (hN : k.toNatClampNeg = N) (hb : N * 8 ≤ 536870912) (hw : Cond.arrayClass .int ∈ zT) (hcs : cs.1 + 1 ≤ rm.cells ∧ cs.2 + N ≤ rm.slots) {c2 : Nat × Nat} (hc2 : (cs.1 + 1, cs.2 + N) = c2) {n2 : Nat} (hn2 : n0 + 1 = n2) (d : decode cc pc = .ok (.newarray .int, 2)) (kk : zBe C c2 (pc + 2) lv (.ref (C.X.1 + n0) :: st) (n2, va_up e n0 (.inl (C.X.2.2.1 0, N, .inl (fun _ => 0))))) : zBe C cs pc lv (.int k :: st) (n0, e) := by
  obtain ⟨p, l, eV, R, s, m, args, below, meth, c, Q, X, nn⟩ := C
  intro H locs ls hl hW hS
  subst hc2
  subst hn2
  have hR2 : R = rm := E.1.2.2.2.2.2.2.2.2.1
  subst hR2
  have hK : va_K X.2.1 vwCl (zty X) s := E.1.2.2.2.2.2.2.2.2.2.1
  have hs : H.size = X.1 + n0 := hW.1
  refine va_newaK (atype := .int) E.1.1 E.1.2.1 (E.1.2.2.2.2.2.1 _ hw) rfl d rfl hk hN (Nat.le_trans (Nat.mul_le_mul_left _ (show componentBytes (newarray.typeOf .int) ≤ 8 by decide)) hb) hcs.1 hcs.2 hs fun H1 cA e1 z1 o1 hAr hNm => ?_
  have hcA : cA = X.2.2.1 0 := Option.some.inj (hNm.symm.trans (hK.2 0 _ rfl).2)
  subst hcA
  have z2 : H1.size = H.size + 1 := by rw [z1, hs]
  have o2 : ∀ q : Nat, q < H.size → H1[q]? = H[q]? := fun q hq => o1 q (by rw [← hs]; exact hq)
  exact kk H1 locs ls hl (hW.gr z2 o2 (by
    show H1[X.1 + n0]? = some (vp_cell _ _)
    rw [e1, vp_cell_i]
    rfl)) (zS_gr hS z2 o2)
theorem ze_newaJ {C : zC} {own : String} {cc : ByteArray} {n : Nat} {ret : Option FieldType} {rm : Room} {cs : Nat × Nat} {pc : Nat} {lv : List (Nat × Value)} {st : List Value} {n0 : Nat} {e : Nat → va_E} (E : zEe C own cc n ret rm) {k : Int32} {N : Nat} (hk : ¬ k < 0) (hN : k.toNatClampNeg = N) (hb : N * 8 ≤ 536870912) (hw : Cond.arrayClass .long ∈ zT) (hcs : cs.1 + 1 ≤ rm.cells ∧ cs.2 + N ≤ rm.slots) {c2 : Nat × Nat} (hc2 : (cs.1 + 1, cs.2 + N) = c2) {n2 : Nat} (hn2 : n0 + 1 = n2) (d : decode cc pc = .ok (.newarray .long, 2)) (kk : zBe C c2 (pc + 2) lv (.ref (C.X.1 + n0) :: st) (n2, va_up e n0 (.inl (C.X.2.2.1 1, N, .inr (.inl (fun _ => 0)))))) : zBe C cs pc lv (.int k :: st) (n0, e) := by
  obtain ⟨p, l, eV, R, s, m, args, below, meth, c, Q, X, nn⟩ := C
  intro H locs ls hl hW hS
  subst hc2
  subst hn2
  have hR2 : R = rm := E.1.2.2.2.2.2.2.2.2.1
  subst hR2
  have hK : va_K X.2.1 vwCl (zty X) s := E.1.2.2.2.2.2.2.2.2.2.1
  have hs : H.size = X.1 + n0 := hW.1
  refine va_newaK (atype := .long) E.1.1 E.1.2.1 (E.1.2.2.2.2.2.1 _ hw) rfl d rfl hk hN (Nat.le_trans (Nat.mul_le_mul_left _ (show componentBytes (newarray.typeOf .long) ≤ 8 by decide)) hb) hcs.1 hcs.2 hs fun H1 cA e1 z1 o1 hAr hNm => ?_
  have hcA : cA = X.2.2.1 1 := Option.some.inj (hNm.symm.trans (hK.2 1 _ rfl).2)
  subst hcA
  have z2 : H1.size = H.size + 1 := by rw [z1, hs]
  have o2 : ∀ q : Nat, q < H.size → H1[q]? = H[q]? := fun q hq => o1 q (by rw [← hs]; exact hq)
  exact kk H1 locs ls hl (hW.gr z2 o2 (by
    show H1[X.1 + n0]? = some (vp_cell _ _)
    rw [e1, vp_cell_l]
    rfl)) (zS_gr hS z2 o2)
theorem ze_newaC {C : zC} {own : String} {cc : ByteArray} {n : Nat} {ret : Option FieldType} {rm : Room} {cs : Nat × Nat} {pc : Nat} {lv : List (Nat × Value)} {st : List Value} {n0 : Nat} {e : Nat → va_E} (E : zEe C own cc n ret rm) {k : Int32} {N : Nat} (hk : ¬ k < 0) (hN : k.toNatClampNeg = N) (hb : N * 8 ≤ 536870912) (hw : Cond.arrayClass .char ∈ zT) (hcs : cs.1 + 1 ≤ rm.cells ∧ cs.2 + N ≤ rm.slots) {c2 : Nat × Nat} (hc2 : (cs.1 + 1, cs.2 + N) = c2) {n2 : Nat} (hn2 : n0 + 1 = n2) (d : decode cc pc = .ok (.newarray .char, 2)) (kk : zBe C c2 (pc + 2) lv (.ref (C.X.1 + n0) :: st) (n2, va_up e n0 (.inl (C.X.2.2.1 2, N, .inl (fun _ => 0))))) : zBe C cs pc lv (.int k :: st) (n0, e) := by
  obtain ⟨p, l, eV, R, s, m, args, below, meth, c, Q, X, nn⟩ := C
  intro H locs ls hl hW hS
  subst hc2
  subst hn2
  have hR2 : R = rm := E.1.2.2.2.2.2.2.2.2.1
  subst hR2
  have hK : va_K X.2.1 vwCl (zty X) s := E.1.2.2.2.2.2.2.2.2.2.1
  have hs : H.size = X.1 + n0 := hW.1
  refine va_newaK (atype := .char) E.1.1 E.1.2.1 (E.1.2.2.2.2.2.1 _ hw) rfl d rfl hk hN (Nat.le_trans (Nat.mul_le_mul_left _ (show componentBytes (newarray.typeOf .char) ≤ 8 by decide)) hb) hcs.1 hcs.2 hs fun H1 cA e1 z1 o1 hAr hNm => ?_
  have hcA : cA = X.2.2.1 2 := Option.some.inj (hNm.symm.trans (hK.2 2 _ rfl).2)
  subst hcA
  have z2 : H1.size = H.size + 1 := by rw [z1, hs]
  have o2 : ∀ q : Nat, q < H.size → H1[q]? = H[q]? := fun q hq => o1 q (by rw [← hs]; exact hq)
  exact kk H1 locs ls hl (hW.gr z2 o2 (by
    show H1[X.1 + n0]? = some (vp_cell _ _)
    rw [e1, vp_cell_i]
    rfl)) (zS_gr hS z2 o2)
theorem ze_newaZ {C : zC} {own : String} {cc : ByteArray} {n : Nat} {ret : Option FieldType} {rm : Room} {cs : Nat × Nat} {pc : Nat} {lv : List (Nat × Value)} {st : List Value} {n0 : Nat} {e : Nat → va_E} (E : zEe C own cc n ret rm) {k : Int32} {N : Nat} (hk : ¬ k < 0) (hN : k.toNatClampNeg = N) (hb : N * 8 ≤ 536870912) (hw : Cond.arrayClass .boolean ∈ zT) (hcs : cs.1 + 1 ≤ rm.cells ∧ cs.2 + N ≤ rm.slots) {c2 : Nat × Nat} (hc2 : (cs.1 + 1, cs.2 + N) = c2) {n2 : Nat} (hn2 : n0 + 1 = n2) (d : decode cc pc = .ok (.newarray .boolean, 2)) (kk : zBe C c2 (pc + 2) lv (.ref (C.X.1 + n0) :: st) (n2, va_up e n0 (.inl (C.X.2.2.1 3, N, .inl (fun _ => 0))))) : zBe C cs pc lv (.int k :: st) (n0, e) := by
  obtain ⟨p, l, eV, R, s, m, args, below, meth, c, Q, X, nn⟩ := C
  intro H locs ls hl hW hS
  subst hc2
  subst hn2
  have hR2 : R = rm := E.1.2.2.2.2.2.2.2.2.1
  subst hR2
  have hK : va_K X.2.1 vwCl (zty X) s := E.1.2.2.2.2.2.2.2.2.2.1
  have hs : H.size = X.1 + n0 := hW.1
  refine va_newaK (atype := .boolean) E.1.1 E.1.2.1 (E.1.2.2.2.2.2.1 _ hw) rfl d rfl hk hN (Nat.le_trans (Nat.mul_le_mul_left _ (show componentBytes (newarray.typeOf .boolean) ≤ 8 by decide)) hb) hcs.1 hcs.2 hs fun H1 cA e1 z1 o1 hAr hNm => ?_
  have hcA : cA = X.2.2.1 3 := Option.some.inj (hNm.symm.trans (hK.2 3 _ rfl).2)
  subst hcA
  have z2 : H1.size = H.size + 1 := by rw [z1, hs]
  have o2 : ∀ q : Nat, q < H.size → H1[q]? = H[q]? := fun q hq => o1 q (by rw [← hs]; exact hq)
  exact kk H1 locs ls hl (hW.gr z2 o2 (by
    show H1[X.1 + n0]? = some (vp_cell _ _)
    rw [e1, vp_cell_i]
    rfl)) (zS_gr hS z2 o2)
theorem ze_anewaS {C : zC} {own : String} {cc : ByteArray} {n : Nat} {ret : Option FieldType} {rm : Room} {cs : Nat × Nat} {pc : Nat} {lv : List (Nat × Value)} {st : List Value} {n0 : Nat} {e : Nat → va_E} (E : zEe C own cc n ret rm) {index : Nat} (hcl : Cond.classLink own index RX9 ∈ zT) {k : Int32} {N : Nat} (hk : ¬ k < 0) (hN : k.toNatClampNeg = N) (hb : N * 4 ≤ 536870912) (hcs : cs.1 + 1 ≤ rm.cells ∧ cs.2 + N ≤ rm.slots) {c2 : Nat × Nat} (hc2 : (cs.1 + 1, cs.2 + N) = c2) {n2 : Nat} (hn2 : n0 + 1 = n2) (d : decode cc pc = .ok (.anewarray index, 3)) (kk : zBe C c2 (pc + 3) lv (.ref (C.X.1 + n0) :: st) (n2, va_up e n0 (.inl (C.X.2.2.1 5, N, .inr (.inr (.inr (.inr (fun _ => none)))))))) : zBe C cs pc lv (.int k :: st) (n0, e) := by
  obtain ⟨p, l, eV, R, s, m, args, below, meth, c, Q, X, nn⟩ := C
  intro H locs ls hl hW hS
  subst hc2
  subst hn2
  subst hN
  have hR2 : R = rm := E.1.2.2.2.2.2.2.2.2.1
  subst hR2
  have hK : va_K X.2.1 vwCl (zty X) s := E.1.2.2.2.2.2.2.2.2.2.1
  have hs : H.size = X.1 + n0 := hW.1
  have hAO : va_AO RX9 s := E.1.2.2.2.2.2.2.2.2.2.2.2.2.2.2
  refine W.anew E.1.1 E.1.2.1 E.1.2.2.2.2.1 (E.1.2.2.2.2.2.1 _ hcl) (va_AO.use hAO) rfl d rfl hk hb hcs.1 hcs.2 fun cA kA comp f1 f2 f3 f4 => ?_
  obtain ⟨kA2, comp2, r1, r2, r3, r4⟩ := (hK.2 5 _ rfl).2
  have hcA : cA = X.2.2.1 5 := Option.some.inj (f1.symm.trans r4)
  subst hcA
  generalize hH1 : H.push ({ cls := X.2.2.1 5, slots := Array.replicate k.toNatClampNeg .null, vm := .none } : Cell) = H1
  have z1 : H1.size = H.size + 1 := by rw [← hH1, Array.size_push]
  have e1 : H1[H.size]? = some (arrV (X.2.2.1 5) k.toNatClampNeg (fun _ => .null)) := by rw [← hH1, Array.getElem?_push_size, ← arrV_new]
  have o1 : ∀ q : Nat, q < H.size → H1[q]? = H[q]? := fun q hq => by rw [← hH1, Array.getElem?_push, if_neg (Nat.ne_of_lt hq)]
  rw [hs]
  exact kk H1 locs ls hl (hW.gr z1 o1 (by
    show H1[X.1 + n0]? = some (vp_cell _ _)
    rw [← hs, e1, vp_cell_q]
    rfl)) (zS_gr hS z1 o1)
theorem ze_anewaR {C : zC} {own : String} {cc : ByteArray} {n : Nat} {ret : Option FieldType} {rm : Room} {cs : Nat × Nat} {pc : Nat} {lv : List (Nat × Value)} {st : List Value} {n0 : Nat} {e : Nat → va_E} (E : zEe C own cc n ret rm) {index : Nat} (hcl : Cond.classLink own index RX8 ∈ zT) {k : Int32} {N : Nat} (hk : ¬ k < 0) (hN : k.toNatClampNeg = N) (hb : N * 4 ≤ 536870912) (hcs : cs.1 + 1 ≤ rm.cells ∧ cs.2 + N ≤ rm.slots) {c2 : Nat × Nat} (hc2 : (cs.1 + 1, cs.2 + N) = c2) {n2 : Nat} (hn2 : n0 + 1 = n2) (d : decode cc pc = .ok (.anewarray index, 3)) (kk : zBe C c2 (pc + 3) lv (.ref (C.X.1 + n0) :: st) (n2, va_up e n0 (.inl (C.X.2.2.1 4, N, .inr (.inr (.inr (.inr (fun _ => none)))))))) : zBe C cs pc lv (.int k :: st) (n0, e) := by
  obtain ⟨p, l, eV, R, s, m, args, below, meth, c, Q, X, nn⟩ := C
  intro H locs ls hl hW hS
  subst hc2
  subst hn2
  subst hN
  have hR2 : R = rm := E.1.2.2.2.2.2.2.2.2.1
  subst hR2
  have hK : va_K X.2.1 vwCl (zty X) s := E.1.2.2.2.2.2.2.2.2.2.1
  have hs : H.size = X.1 + n0 := hW.1
  have hAO : va_AO RX8 s := E.2.1
  refine W.anew E.1.1 E.1.2.1 E.1.2.2.2.2.1 (E.1.2.2.2.2.2.1 _ hcl) (va_AO.use hAO) rfl d rfl hk hb hcs.1 hcs.2 fun cA kA comp f1 f2 f3 f4 => ?_
  obtain ⟨kA2, comp2, r1, r2, r3, r4⟩ := (hK.2 4 _ rfl).2
  have hcA : cA = X.2.2.1 4 := Option.some.inj (f1.symm.trans r4)
  subst hcA
  generalize hH1 : H.push ({ cls := X.2.2.1 4, slots := Array.replicate k.toNatClampNeg .null, vm := .none } : Cell) = H1
  have z1 : H1.size = H.size + 1 := by rw [← hH1, Array.size_push]
  have e1 : H1[H.size]? = some (arrV (X.2.2.1 4) k.toNatClampNeg (fun _ => .null)) := by rw [← hH1, Array.getElem?_push_size, ← arrV_new]
  have o1 : ∀ q : Nat, q < H.size → H1[q]? = H[q]? := fun q hq => by rw [← hH1, Array.getElem?_push, if_neg (Nat.ne_of_lt hq)]
  rw [hs]
  exact kk H1 locs ls hl (hW.gr z1 o1 (by
    show H1[X.1 + n0]? = some (vp_cell _ _)
    rw [← hs, e1, vp_cell_q]
    rfl)) (zS_gr hS z1 o1)
theorem ze_anewaW {C : zC} {own : String} {cc : ByteArray} {n : Nat} {ret : Option FieldType} {rm : Room} {cs : Nat × Nat} {pc : Nat} {lv : List (Nat × Value)} {st : List Value} {n0 : Nat} {e : Nat → va_E} (E : zEe C own cc n ret rm) {index : Nat} (hcl : Cond.classLink own index RX10 ∈ zT) {k : Int32} {N : Nat} (hk : ¬ k < 0) (hN : k.toNatClampNeg = N) (hb : N * 4 ≤ 536870912) (hcs : cs.1 + 1 ≤ rm.cells ∧ cs.2 + N ≤ rm.slots) {c2 : Nat × Nat} (hc2 : (cs.1 + 1, cs.2 + N) = c2) {n2 : Nat} (hn2 : n0 + 1 = n2) (d : decode cc pc = .ok (.anewarray index, 3)) (kk : zBe C c2 (pc + 3) lv (.ref (C.X.1 + n0) :: st) (n2, va_up e n0 (.inl (C.X.2.2.1 6, N, .inr (.inr (.inr (.inr (fun _ => none)))))))) : zBe C cs pc lv (.int k :: st) (n0, e) := by
  obtain ⟨p, l, eV, R, s, m, args, below, meth, c, Q, X, nn⟩ := C
  intro H locs ls hl hW hS
  subst hc2
  subst hn2
  subst hN
  have hR2 : R = rm := E.1.2.2.2.2.2.2.2.2.1
  subst hR2
  have hK : va_K X.2.1 vwCl (zty X) s := E.1.2.2.2.2.2.2.2.2.2.1
  have hs : H.size = X.1 + n0 := hW.1
  have hAO : va_AO RX10 s := E.2.2.1
  refine W.anew E.1.1 E.1.2.1 E.1.2.2.2.2.1 (E.1.2.2.2.2.2.1 _ hcl) (va_AO.use hAO) rfl d rfl hk hb hcs.1 hcs.2 fun cA kA comp f1 f2 f3 f4 => ?_
  obtain ⟨kA2, comp2, r1, r2, r3, r4⟩ := (hK.2 6 _ rfl).2
  have hcA : cA = X.2.2.1 6 := Option.some.inj (f1.symm.trans r4)
  subst hcA
  generalize hH1 : H.push ({ cls := X.2.2.1 6, slots := Array.replicate k.toNatClampNeg .null, vm := .none } : Cell) = H1
  have z1 : H1.size = H.size + 1 := by rw [← hH1, Array.size_push]
  have e1 : H1[H.size]? = some (arrV (X.2.2.1 6) k.toNatClampNeg (fun _ => .null)) := by rw [← hH1, Array.getElem?_push_size, ← arrV_new]
  have o1 : ∀ q : Nat, q < H.size → H1[q]? = H[q]? := fun q hq => by rw [← hH1, Array.getElem?_push, if_neg (Nat.ne_of_lt hq)]
  rw [hs]
  exact kk H1 locs ls hl (hW.gr z1 o1 (by
    show H1[X.1 + n0]? = some (vp_cell _ _)
    rw [← hs, e1, vp_cell_q]
    rfl)) (zS_gr hS z1 o1)
