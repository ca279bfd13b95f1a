set_option maxHeartbeats 1000000
set_option maxRecDepth 100000
/-! the law: its rows, its arms -/
theorem zb_wide {C : zC} {cs cs2 : Nat × Nat} {pc : Nat} {lv : List (Nat × Value)} {st : List Value} {S : zS} (h1 : cs.1 ≤ cs2.1) (h2 : cs.2 ≤ cs2.2) (kk : zB C cs2 pc lv st S) : zB C cs pc lv st S := fun H locs ls hl hW hS => W.widen h1 h2 (kk H locs ls hl hW hS)
def zSc (C : zC) (b L : Nat) (xs : Nat → Int32) : Prop := va_X b L xs C.s C.s.heap ∧ b < C.s.heap.size ∧ C.X.1 = C.s.heap.size
theorem zb_sld {C : zC} {own : String} {cc : ByteArray} {n : Nat} {ret : Option FieldType} {rm : Room} {cs : Nat × Nat} {pc : Nat} {lv : List (Nat × Value)} {st : List Value} {S : zS} {b L : Nat} {xs : Nat → Int32} (E : zE C own cc n ret rm) (hc : zSc C b L xs) {i : Int32} (hin : vp_in i L) (d : decode cc pc = .ok (.iaload, 1)) (kk : zB C cs (pc + 1) lv (.int (xs i.toNatClampNeg) :: st) S) : zB C cs pc lv (.int i :: .ref b :: st) S := by
  obtain ⟨p, l, e, R, s, m, args, below, meth, c, Q, X, nn⟩ := C
  intro H locs ls hl hW hS
  exact va_sld E.1 E.2.1 hc.1 hc.2.1 (fun z => Nat.not_lt.mpr (show X.1 ≤ b from z) (by rw [show X.1 = s.heap.size from hc.2.2]; exact hc.2.1)) hS hin d (kk H locs ls hl hW hS)
theorem zb_slenL {C : zC} {own : String} {cc : ByteArray} {n : Nat} {ret : Option FieldType} {rm : Room} {cs : Nat × Nat} {pc : Nat} {lv : List (Nat × Value)} {st : List Value} {S : zS} {b L : Nat} {xs : Nat → Int32} (E : zE C own cc n ret rm) (hc : zSc C b L xs) (d : decode cc pc = .ok (.arraylength, 1)) (kk : zB C cs (pc + 1) lv (.int (Int32.ofNat L) :: st) S) : zB C cs pc lv (.ref b :: st) S := by
  obtain ⟨p, l, e, R, s, m, args, below, meth, c, Q, X, nn⟩ := C
  intro H locs ls hl hW hS
  exact va_slen E.1 E.2.1 hc.1 hc.2.1 (fun z => Nat.not_lt.mpr (show X.1 ≤ b from z) (by rw [show X.1 = s.heap.size from hc.2.2]; exact hc.2.1)) hS d (kk H locs ls hl hW hS)
abbrev lvl (C : zC) (b i : Nat) : List (Nat × Value) := [(3, .int (nI i)), (0, .ref b), (1, .ref (C.X.1 + 0)), (2, .ref (C.X.1 + 128))]
abbrev zEl (C : zC) : Prop := zE C R_law code 4 ret room_1
theorem la_arg {C : zC} {cs : Nat × Nat} {pc : Nat} {st : List Value} {S : zS} {b L i : Nat} {xs : Nat → Int32} (E : zEl C) (hc : zSc C b L xs) (hi : i + 6 ≤ L) (hL : L ≤ 3072) (k : Nat) (hk : k ≤ 5) {kz : Int} (hz : Int32.ofInt kz = nI k) (d0 : decode code pc = .ok (.aload_n 0, 1)) (d1 : decode code (pc + 1) = .ok (.iload_n 3, 1)) (d2 : decode code (pc + 2) = .ok (.iconst kz, 1)) (d3 : decode code (pc + 3) = .ok (.iadd, 1)) (d4 : decode code (pc + 4) = .ok (.iaload, 1)) (kk : zB C cs (pc + 5) (lvl C b i) (.int (xs (i + k)) :: st) S) : zB C cs pc (lvl C b i) st S := by
  refine zb_aload_n E d0 1 rfl rfl ?_
  refine zb_iload_n E d1 0 rfl rfl ?_
  refine zb_iconst E d2 hz ?_
  refine zb_iadd E d3 ?_
  rw [nI_add]
  refine zb_sld E hc (nI_in (by omega) (by omega)) d4 ?_
  rw [nI_clamp (by omega)]
  exact kk
