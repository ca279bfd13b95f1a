set_option maxHeartbeats 4000000
set_option maxRecDepth 100000
theorem zb_S {C : zC} {cs : Nat × Nat} {pc : Nat} {lv : List (Nat × Value)} {st : List Value} {S S2 : zS} (h : S = S2) (kk : zB C cs pc lv st S2) : zB C cs pc lv st S := h ▸ kk
theorem zb_sub {C : zC} {cs : Nat × Nat} {pc : Nat} {lv lv2 : List (Nat × Value)} {st : List Value} {S : zS} (ks : List Nat) (h : lv_pick lv ks = lv2) (kk : zB C cs pc lv2 st S) : zB C cs pc lv st S := fun H locs ls hl hW hS => kk H locs ls (lv_sub hl ks h) hW hS
theorem zb_pc {C : zC} {cs : Nat × Nat} {pc pc2 : Nat} {lv : List (Nat × Value)} {st : List Value} {S : zS} (h : pc = pc2) (kk : zB C cs pc2 lv st S) : zB C cs pc lv st S := h ▸ kk
theorem zup_idE {α : Type} {f : Nat → α} {k : Nat} {x : α} (h : f k = x) : va_up f k x = f := by
  subst h
  exact zup_id
theorem zS_eq {I I2 : Nat → Nat → Int32} {J J2 : Nat → Nat → Int64} {Rr : Nat → Nat → Option Nat} {D : zD} (h1 : I = I2) (h2 : J = J2) : ((I, J, Rr, D) : zS) = (I2, J2, Rr, D) := by
  subst h1
  subst h2
  rfl
def zYmmin : Prop := Cond.static Lib.Math.min.name ∈ zT ∧ Cond.initialized "java/lang/Math" ∈ zT ∧ Cond.code Lib.Math.min.name Lib.Math.min.code 2 (some .int) ∈ zT
theorem zb_mmin {C : zC} {own : String} {cc : ByteArray} {n : Nat} {ret : Option FieldType} {rm : Room} {cs : Nat × Nat} {pc : Nat} {lv : List (Nat × Value)} {st : List Value} {S : zS} (E : zE C own cc n ret rm) {index : Nat} {x y : Int32} (hY : zYmmin) (hl : Cond.methodLink own index Lib.Math.min.name ∈ zT) (hR : 1 ≤ rm.frames ∧ 13 + 8 ≤ rm.locals ∧ cs.1 ≤ rm.cells ∧ cs.2 ≤ rm.slots) (hcat : (st.map fun v => v.category).sum ≤ 8) (d : decode cc pc = .ok (.invokestatic index, 3)) (kk : zB C cs (pc + 3) lv (.int (m_min x y) :: st) S) : zB C cs pc lv (.int y :: .int x :: st) S := by
  obtain ⟨p, l, e, R, s, m, args, below, meth, c, Q, X, nn⟩ := C
  intro H locs ls hl0 hW hS
  have hR2 : R = rm := E.2.2.2.2.2.2.2.2.1
  subst hR2
  obtain ⟨y1, y2, y3⟩ := hY
  exact va_mmin E.1 E.2.1 (E.2.2.1.trans (E.2.2.2.1.symm.trans hl0.1.symm)) E.2.2.2.2.1 (E.2.2.2.2.2.1 _ hl) (E.2.2.2.2.2.1 _ y1) (E.2.2.2.2.2.1 _ y2) (E.2.2.2.2.2.1 _ y3) hR.1 (by have := hR.2.1; omega) hR.2.2.1 hR.2.2.2 d (kk H locs ls hl0 hW hS)
def zYmmax : Prop := Cond.static Lib.Math.max.name ∈ zT ∧ Cond.initialized "java/lang/Math" ∈ zT ∧ Cond.code Lib.Math.max.name Lib.Math.max.code 2 (some .int) ∈ zT
theorem zb_mmax {C : zC} {own : String} {cc : ByteArray} {n : Nat} {ret : Option FieldType} {rm : Room} {cs : Nat × Nat} {pc : Nat} {lv : List (Nat × Value)} {st : List Value} {S : zS} (E : zE C own cc n ret rm) {index : Nat} {x y : Int32} (hY : zYmmax) (hl : Cond.methodLink own index Lib.Math.max.name ∈ zT) (hR : 1 ≤ rm.frames ∧ 13 + 8 ≤ rm.locals ∧ cs.1 ≤ rm.cells ∧ cs.2 ≤ rm.slots) (hcat : (st.map fun v => v.category).sum ≤ 8) (d : decode cc pc = .ok (.invokestatic index, 3)) (kk : zB C cs (pc + 3) lv (.int (m_max x y) :: st) S) : zB C cs pc lv (.int y :: .int x :: st) S := by
  obtain ⟨p, l, e, R, s, m, args, below, meth, c, Q, X, nn⟩ := C
  intro H locs ls hl0 hW hS
  have hR2 : R = rm := E.2.2.2.2.2.2.2.2.1
  subst hR2
  obtain ⟨y1, y2, y3⟩ := hY
  exact va_mmax E.1 E.2.1 (E.2.2.1.trans (E.2.2.2.1.symm.trans hl0.1.symm)) E.2.2.2.2.1 (E.2.2.2.2.2.1 _ hl) (E.2.2.2.2.2.1 _ y1) (E.2.2.2.2.2.1 _ y2) (E.2.2.2.2.2.1 _ y3) hR.1 (by have := hR.2.1; omega) hR.2.2.1 hR.2.2.2 d (kk H locs ls hl0 hW hS)
def zYmabs : Prop := Cond.static Lib.Math.abs.name ∈ zT ∧ Cond.initialized "java/lang/Math" ∈ zT ∧ Cond.code Lib.Math.abs.name Lib.Math.abs.code 1 (some .int) ∈ zT
theorem zb_mabs {C : zC} {own : String} {cc : ByteArray} {n : Nat} {ret : Option FieldType} {rm : Room} {cs : Nat × Nat} {pc : Nat} {lv : List (Nat × Value)} {st : List Value} {S : zS} (E : zE C own cc n ret rm) {index : Nat} {x : Int32} (hY : zYmabs) (hl : Cond.methodLink own index Lib.Math.abs.name ∈ zT) (hR : 1 ≤ rm.frames ∧ 13 + 8 ≤ rm.locals ∧ cs.1 ≤ rm.cells ∧ cs.2 ≤ rm.slots) (hcat : (st.map fun v => v.category).sum ≤ 8) (d : decode cc pc = .ok (.invokestatic index, 3)) (kk : zB C cs (pc + 3) lv (.int (m_abs x) :: st) S) : zB C cs pc lv (.int x :: st) S := by
  obtain ⟨p, l, e, R, s, m, args, below, meth, c, Q, X, nn⟩ := C
  intro H locs ls hl0 hW hS
  have hR2 : R = rm := E.2.2.2.2.2.2.2.2.1
  subst hR2
  obtain ⟨y1, y2, y3⟩ := hY
  exact va_mabs E.1 E.2.1 (E.2.2.1.trans (E.2.2.2.1.symm.trans hl0.1.symm)) E.2.2.2.2.1 (E.2.2.2.2.2.1 _ hl) (E.2.2.2.2.2.1 _ y1) (E.2.2.2.2.2.1 _ y2) (E.2.2.2.2.2.1 _ y3) hR.1 (by have := hR.2.1; omega) hR.2.2.1 hR.2.2.2 d (kk H locs ls hl0 hW hS)
def zYmminL : Prop := Cond.static Lib.MathLoose.min_long.x ∈ zT ∧ Cond.initialized "java/lang/Math" ∈ zT ∧ Cond.code Lib.MathLoose.min_long.x Lib.MathLoose.min_long.code 4 (some .long) ∈ zT
theorem zb_mminL {C : zC} {own : String} {cc : ByteArray} {n : Nat} {ret : Option FieldType} {rm : Room} {cs : Nat × Nat} {pc : Nat} {lv : List (Nat × Value)} {st : List Value} {S : zS} (E : zE C own cc n ret rm) {index : Nat} {x y : Int64} (hY : zYmminL) (hl : Cond.methodLink own index Lib.MathLoose.min_long.x ∈ zT) (hR : 1 ≤ rm.frames ∧ 15 + 8 ≤ rm.locals ∧ cs.1 ≤ rm.cells ∧ cs.2 ≤ rm.slots) (hcat : (st.map fun v => v.category).sum ≤ 8) (d : decode cc pc = .ok (.invokestatic index, 3)) (kk : zB C cs (pc + 3) lv (.long (m_minL x y) :: st) S) : zB C cs pc lv (.long y :: .long x :: st) S := by
  obtain ⟨p, l, e, R, s, m, args, below, meth, c, Q, X, nn⟩ := C
  intro H locs ls hl0 hW hS
  have hR2 : R = rm := E.2.2.2.2.2.2.2.2.1
  subst hR2
  obtain ⟨y1, y2, y3⟩ := hY
  exact va_mmin_long E.1 E.2.1 (E.2.2.1.trans (E.2.2.2.1.symm.trans hl0.1.symm)) E.2.2.2.2.1 (E.2.2.2.2.2.1 _ hl) (E.2.2.2.2.2.1 _ y1) (E.2.2.2.2.2.1 _ y2) (E.2.2.2.2.2.1 _ y3) hR.1 (by have := hR.2.1; omega) hR.2.2.1 hR.2.2.2 d (kk H locs ls hl0 hW hS)
def zYmmaxL : Prop := Cond.static Lib.MathLoose.max_long.x ∈ zT ∧ Cond.initialized "java/lang/Math" ∈ zT ∧ Cond.code Lib.MathLoose.max_long.x Lib.MathLoose.max_long.code 4 (some .long) ∈ zT
theorem zb_mmaxL {C : zC} {own : String} {cc : ByteArray} {n : Nat} {ret : Option FieldType} {rm : Room} {cs : Nat × Nat} {pc : Nat} {lv : List (Nat × Value)} {st : List Value} {S : zS} (E : zE C own cc n ret rm) {index : Nat} {x y : Int64} (hY : zYmmaxL) (hl : Cond.methodLink own index Lib.MathLoose.max_long.x ∈ zT) (hR : 1 ≤ rm.frames ∧ 15 + 8 ≤ rm.locals ∧ cs.1 ≤ rm.cells ∧ cs.2 ≤ rm.slots) (hcat : (st.map fun v => v.category).sum ≤ 8) (d : decode cc pc = .ok (.invokestatic index, 3)) (kk : zB C cs (pc + 3) lv (.long (m_maxL x y) :: st) S) : zB C cs pc lv (.long y :: .long x :: st) S := by
  obtain ⟨p, l, e, R, s, m, args, below, meth, c, Q, X, nn⟩ := C
  intro H locs ls hl0 hW hS
  have hR2 : R = rm := E.2.2.2.2.2.2.2.2.1
  subst hR2
  obtain ⟨y1, y2, y3⟩ := hY
  exact va_mmax_long E.1 E.2.1 (E.2.2.1.trans (E.2.2.2.1.symm.trans hl0.1.symm)) E.2.2.2.2.1 (E.2.2.2.2.2.1 _ hl) (E.2.2.2.2.2.1 _ y1) (E.2.2.2.2.2.1 _ y2) (E.2.2.2.2.2.1 _ y3) hR.1 (by have := hR.2.1; omega) hR.2.2.1 hR.2.2.2 d (kk H locs ls hl0 hW hS)
