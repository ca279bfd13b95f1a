/-! the machine over the world: C holds what stays (program, launch, room, start, method, goal, world, locals), zB is W for every heap that holds S -/
abbrev zC : Type := Program × Launch × Env × Room × State × MethodId × Array Value × List Frame × Method × Code × (State → Prop) × zX × Nat
abbrev zC.l (C : zC) : Launch := C.2.1
abbrev zC.s (C : zC) : State := C.2.2.2.2.1
abbrev zC.args (C : zC) : Array Value := C.2.2.2.2.2.2.1
abbrev zC.below (C : zC) : List Frame := C.2.2.2.2.2.2.2.1
abbrev zC.Q (C : zC) : State → Prop := C.2.2.2.2.2.2.2.2.2.2.1
abbrev zC.X (C : zC) : zX := C.2.2.2.2.2.2.2.2.2.2.2.1
def zB (C : zC) (cs : Nat × Nat) (pc : Nat) (lv : List (Nat × Value)) (st : List Value) (S : zS) : Prop := ∀ (H : Heap) (locs : List Loc) (ls : Array Slot), lv_has ls C.2.2.2.2.2.2.2.2.2.2.2.2 lv → zW C.X S H → va_S (zA C.X) C.s.heap H locs → W C.1 C.2.1 C.2.2.1 C.2.2.2.1 C.2.2.2.2.1 C.2.2.2.2.2.1 C.2.2.2.2.2.2.1 C.2.2.2.2.2.2.2.1 C.2.2.2.2.2.2.2.2.1 C.2.2.2.2.2.2.2.2.2.1 H locs cs.1 cs.2 C.2.2.2.2.2.2.2.2.2.2.1 (F0 C.2.2.2.2.2.1 pc ls st)
def zE (C : zC) (own : String) (cc : ByteArray) (n : Nat) (ret : Option FieldType) (rm : Room) : Prop := C.1.tables.exec = Jvm.exec ∧ C.2.2.2.2.2.2.2.2.2.1.code = cc ∧ C.2.2.2.2.2.2.2.2.2.1.maxLocals = n ∧ C.2.2.2.2.2.2.2.2.2.2.2.2 = n ∧ C.s.vm.findClass own = some C.2.2.2.2.2.1.cls ∧ (∀ w ∈ zT, w.before C.args C.s = true) ∧ C.2.2.2.2.2.2.2.2.1.sig.returnType = ret ∧ C.2.2.2.2.2.2.2.2.1.locks = false ∧ C.2.2.2.1 = rm ∧ zK C.X C.s
theorem zb_iconst {C : zC} {own : String} {cc : ByteArray} {n : Nat} {ret : Option FieldType} {rm : Room} {cs : Nat × Nat} {pc : Nat} {lv : List (Nat × Value)} {st : List Value} {S : zS} {k : Int} (E : zE C own cc n ret rm) (d : decode cc pc = .ok (.iconst k, 1)) {v : Int32} (hv : Int32.ofInt k = v) (kk : zB C cs (pc + 1) lv (.int v :: st) S) : zB C cs pc lv (st) S := by
  obtain ⟨p, l, e, R, s, m, args, below, meth, c, Q, X, nn⟩ := C
  intro H locs ls hl hW hS
  exact lv_iconst E.1 E.2.1 d hv (kk H locs ls hl hW hS)
theorem zb_bipush {C : zC} {own : String} {cc : ByteArray} {n : Nat} {ret : Option FieldType} {rm : Room} {cs : Nat × Nat} {pc : Nat} {lv : List (Nat × Value)} {st : List Value} {S : zS} {k : Int} (E : zE C own cc n ret rm) (d : decode cc pc = .ok (.bipush k, 2)) {v : Int32} (hv : (Int8.ofInt k).toInt32 = v) (kk : zB C cs (pc + 2) lv (.int v :: st) S) : zB C cs pc lv (st) S := by
  obtain ⟨p, l, e, R, s, m, args, below, meth, c, Q, X, nn⟩ := C
  intro H locs ls hl hW hS
  exact lv_bipush E.1 E.2.1 d hv (kk H locs ls hl hW hS)
theorem zb_sipush {C : zC} {own : String} {cc : ByteArray} {n : Nat} {ret : Option FieldType} {rm : Room} {cs : Nat × Nat} {pc : Nat} {lv : List (Nat × Value)} {st : List Value} {S : zS} {k : Int} (E : zE C own cc n ret rm) (d : decode cc pc = .ok (.sipush k, 3)) {v : Int32} (hv : (Int16.ofInt k).toInt32 = v) (kk : zB C cs (pc + 3) lv (.int v :: st) S) : zB C cs pc lv (st) S := by
  obtain ⟨p, l, e, R, s, m, args, below, meth, c, Q, X, nn⟩ := C
  intro H locs ls hl hW hS
  exact lv_sipush E.1 E.2.1 d hv (kk H locs ls hl hW hS)
theorem zb_lconst {C : zC} {own : String} {cc : ByteArray} {n : Nat} {ret : Option FieldType} {rm : Room} {cs : Nat × Nat} {pc : Nat} {lv : List (Nat × Value)} {st : List Value} {S : zS} {k : Fin 2} (E : zE C own cc n ret rm) (d : decode cc pc = .ok (.lconst k, 1)) {v : Int64} (hv : Int64.ofNat (k : Nat) = v) (kk : zB C cs (pc + 1) lv (.long v :: st) S) : zB C cs pc lv (st) S := by
  obtain ⟨p, l, e, R, s, m, args, below, meth, c, Q, X, nn⟩ := C
  intro H locs ls hl hW hS
  exact lv_lconst E.1 E.2.1 d hv (kk H locs ls hl hW hS)
theorem zb_iload_n {C : zC} {own : String} {cc : ByteArray} {n : Nat} {ret : Option FieldType} {rm : Room} {cs : Nat × Nat} {pc : Nat} {lv : List (Nat × Value)} {st : List Value} {S : zS} (E : zE C own cc n ret rm) {k : Fin 4} {i : Nat} {x : Int32} (d : decode cc pc = .ok (.iload_n k, 1)) (q : Nat) (hk : lv[q]? = some (i, .int x)) (hi : (k : Nat) = i) (kk : zB C cs (pc + 1) lv (.int x :: st) S) : zB C cs pc lv st S := by
  obtain ⟨p, l, e, R, s, m, args, below, meth, c, Q, X, nn⟩ := C
  intro H locs ls hl hW hS
  exact lv_iload_n E.1 E.2.1 d hi (lv_at hl q hk) (kk H locs ls hl hW hS)
theorem zb_iload {C : zC} {own : String} {cc : ByteArray} {n : Nat} {ret : Option FieldType} {rm : Room} {cs : Nat × Nat} {pc : Nat} {lv : List (Nat × Value)} {st : List Value} {S : zS} (E : zE C own cc n ret rm) {i : Nat} {x : Int32} (d : decode cc pc = .ok (.iload i, 2)) (q : Nat) (hk : lv[q]? = some (i, .int x)) (kk : zB C cs (pc + 2) lv (.int x :: st) S) : zB C cs pc lv st S := by
  obtain ⟨p, l, e, R, s, m, args, below, meth, c, Q, X, nn⟩ := C
  intro H locs ls hl hW hS
  exact lv_iload E.1 E.2.1 d (lv_at hl q hk) (kk H locs ls hl hW hS)
theorem zb_istore_n {C : zC} {own : String} {cc : ByteArray} {n : Nat} {ret : Option FieldType} {rm : Room} {cs : Nat × Nat} {pc : Nat} {lv : List (Nat × Value)} {st : List Value} {S : zS} (E : zE C own cc n ret rm) {k : Fin 4} {i : Nat} {x : Int32} {lv2 : List (Nat × Value)} (d : decode cc pc = .ok (.istore_n k, 1)) (hi : (k : Nat) = i) (hn : i < n) (hl2 : (i, Value.int x) :: lv.filter (fun q => !(q.1 == i) && !(q.1 + 1 == i && q.2.category == 2)) = lv2) (kk : zB C cs (pc + 1) lv2 st S) : zB C cs pc lv (.int x :: st) S := by
  obtain ⟨p, l, e, R, s, m, args, below, meth, c, Q, X, nn⟩ := C
  intro H locs ls hl hW hS
  exact lv_istore_n E.1 E.2.1 d hi hl (by rw [E.2.2.2.1]; exact hn) hl2 (fun ls2 h2 => kk H locs ls2 h2 hW hS)
theorem zb_istore {C : zC} {own : String} {cc : ByteArray} {n : Nat} {ret : Option FieldType} {rm : Room} {cs : Nat × Nat} {pc : Nat} {lv : List (Nat × Value)} {st : List Value} {S : zS} (E : zE C own cc n ret rm) {i : Nat} {x : Int32} {lv2 : List (Nat × Value)} (d : decode cc pc = .ok (.istore i, 2)) (hn : i < n) (hl2 : (i, Value.int x) :: lv.filter (fun q => !(q.1 == i) && !(q.1 + 1 == i && q.2.category == 2)) = lv2) (kk : zB C cs (pc + 2) lv2 st S) : zB C cs pc lv (.int x :: st) S := by
  obtain ⟨p, l, e, R, s, m, args, below, meth, c, Q, X, nn⟩ := C
  intro H locs ls hl hW hS
  exact lv_istore E.1 E.2.1 d hl (by rw [E.2.2.2.1]; exact hn) hl2 (fun ls2 h2 => kk H locs ls2 h2 hW hS)
theorem zb_lload_n {C : zC} {own : String} {cc : ByteArray} {n : Nat} {ret : Option FieldType} {rm : Room} {cs : Nat × Nat} {pc : Nat} {lv : List (Nat × Value)} {st : List Value} {S : zS} (E : zE C own cc n ret rm) {k : Fin 4} {i : Nat} {x : Int64} (d : decode cc pc = .ok (.lload_n k, 1)) (q : Nat) (hk : lv[q]? = some (i, .long x)) (hi : (k : Nat) = i) (kk : zB C cs (pc + 1) lv (.long x :: st) S) : zB C cs pc lv st S := by
  obtain ⟨p, l, e, R, s, m, args, below, meth, c, Q, X, nn⟩ := C
  intro H locs ls hl hW hS
  exact lv_lload_n E.1 E.2.1 d hi (lv_at hl q hk) (kk H locs ls hl hW hS)
theorem zb_lload {C : zC} {own : String} {cc : ByteArray} {n : Nat} {ret : Option FieldType} {rm : Room} {cs : Nat × Nat} {pc : Nat} {lv : List (Nat × Value)} {st : List Value} {S : zS} (E : zE C own cc n ret rm) {i : Nat} {x : Int64} (d : decode cc pc = .ok (.lload i, 2)) (q : Nat) (hk : lv[q]? = some (i, .long x)) (kk : zB C cs (pc + 2) lv (.long x :: st) S) : zB C cs pc lv st S := by
  obtain ⟨p, l, e, R, s, m, args, below, meth, c, Q, X, nn⟩ := C
  intro H locs ls hl hW hS
  exact lv_lload E.1 E.2.1 d (lv_at hl q hk) (kk H locs ls hl hW hS)
theorem zb_lstore_n {C : zC} {own : String} {cc : ByteArray} {n : Nat} {ret : Option FieldType} {rm : Room} {cs : Nat × Nat} {pc : Nat} {lv : List (Nat × Value)} {st : List Value} {S : zS} (E : zE C own cc n ret rm) {k : Fin 4} {i : Nat} {x : Int64} {lv2 : List (Nat × Value)} (d : decode cc pc = .ok (.lstore_n k, 1)) (hi : (k : Nat) = i) (hn : i + 1 < n) (hl2 : (i, Value.long x) :: lv.filter (fun q => !(q.1 == i) && (!(q.1 == i + 1) && !(q.1 + 1 == i && q.2.category == 2))) = lv2) (kk : zB C cs (pc + 1) lv2 st S) : zB C cs pc lv (.long x :: st) S := by
  obtain ⟨p, l, e, R, s, m, args, below, meth, c, Q, X, nn⟩ := C
  intro H locs ls hl hW hS
  exact lv_lstore_n E.1 E.2.1 d hi hl (by rw [E.2.2.2.1]; exact hn) hl2 (fun ls2 h2 => kk H locs ls2 h2 hW hS)
theorem zb_lstore {C : zC} {own : String} {cc : ByteArray} {n : Nat} {ret : Option FieldType} {rm : Room} {cs : Nat × Nat} {pc : Nat} {lv : List (Nat × Value)} {st : List Value} {S : zS} (E : zE C own cc n ret rm) {i : Nat} {x : Int64} {lv2 : List (Nat × Value)} (d : decode cc pc = .ok (.lstore i, 2)) (hn : i + 1 < n) (hl2 : (i, Value.long x) :: lv.filter (fun q => !(q.1 == i) && (!(q.1 == i + 1) && !(q.1 + 1 == i && q.2.category == 2))) = lv2) (kk : zB C cs (pc + 2) lv2 st S) : zB C cs pc lv (.long x :: st) S := by
  obtain ⟨p, l, e, R, s, m, args, below, meth, c, Q, X, nn⟩ := C
  intro H locs ls hl hW hS
  exact lv_lstore E.1 E.2.1 d hl (by rw [E.2.2.2.1]; exact hn) hl2 (fun ls2 h2 => kk H locs ls2 h2 hW hS)
theorem zb_aload_n {C : zC} {own : String} {cc : ByteArray} {n : Nat} {ret : Option FieldType} {rm : Room} {cs : Nat × Nat} {pc : Nat} {lv : List (Nat × Value)} {st : List Value} {S : zS} (E : zE C own cc n ret rm) {k : Fin 4} {i : Nat} {x : Nat} (d : decode cc pc = .ok (.aload_n k, 1)) (q : Nat) (hk : lv[q]? = some (i, .ref x)) (hi : (k : Nat) = i) (kk : zB C cs (pc + 1) lv (.ref x :: st) S) : zB C cs pc lv st S := by
  obtain ⟨p, l, e, R, s, m, args, below, meth, c, Q, X, nn⟩ := C
  intro H locs ls hl hW hS
  exact lv_aload_n E.1 E.2.1 d hi (lv_at hl q hk) (kk H locs ls hl hW hS)
theorem zb_aload {C : zC} {own : String} {cc : ByteArray} {n : Nat} {ret : Option FieldType} {rm : Room} {cs : Nat × Nat} {pc : Nat} {lv : List (Nat × Value)} {st : List Value} {S : zS} (E : zE C own cc n ret rm) {i : Nat} {x : Nat} (d : decode cc pc = .ok (.aload i, 2)) (q : Nat) (hk : lv[q]? = some (i, .ref x)) (kk : zB C cs (pc + 2) lv (.ref x :: st) S) : zB C cs pc lv st S := by
  obtain ⟨p, l, e, R, s, m, args, below, meth, c, Q, X, nn⟩ := C
  intro H locs ls hl hW hS
  exact lv_aload E.1 E.2.1 d (lv_at hl q hk) (kk H locs ls hl hW hS)
theorem zb_astore_n {C : zC} {own : String} {cc : ByteArray} {n : Nat} {ret : Option FieldType} {rm : Room} {cs : Nat × Nat} {pc : Nat} {lv : List (Nat × Value)} {st : List Value} {S : zS} (E : zE C own cc n ret rm) {k : Fin 4} {i : Nat} {x : Nat} {lv2 : List (Nat × Value)} (d : decode cc pc = .ok (.astore_n k, 1)) (hi : (k : Nat) = i) (hn : i < n) (hl2 : (i, Value.ref x) :: lv.filter (fun q => !(q.1 == i) && !(q.1 + 1 == i && q.2.category == 2)) = lv2) (kk : zB C cs (pc + 1) lv2 st S) : zB C cs pc lv (.ref x :: st) S := by
  obtain ⟨p, l, e, R, s, m, args, below, meth, c, Q, X, nn⟩ := C
  intro H locs ls hl hW hS
  exact lv_astore_n E.1 E.2.1 d hi hl (by rw [E.2.2.2.1]; exact hn) hl2 (fun ls2 h2 => kk H locs ls2 h2 hW hS)
theorem zb_astore {C : zC} {own : String} {cc : ByteArray} {n : Nat} {ret : Option FieldType} {rm : Room} {cs : Nat × Nat} {pc : Nat} {lv : List (Nat × Value)} {st : List Value} {S : zS} (E : zE C own cc n ret rm) {i : Nat} {x : Nat} {lv2 : List (Nat × Value)} (d : decode cc pc = .ok (.astore i, 2)) (hn : i < n) (hl2 : (i, Value.ref x) :: lv.filter (fun q => !(q.1 == i) && !(q.1 + 1 == i && q.2.category == 2)) = lv2) (kk : zB C cs (pc + 2) lv2 st S) : zB C cs pc lv (.ref x :: st) S := by
  obtain ⟨p, l, e, R, s, m, args, below, meth, c, Q, X, nn⟩ := C
  intro H locs ls hl hW hS
  exact lv_astore E.1 E.2.1 d hl (by rw [E.2.2.2.1]; exact hn) hl2 (fun ls2 h2 => kk H locs ls2 h2 hW hS)
theorem zb_iinc {C : zC} {own : String} {cc : ByteArray} {n : Nat} {ret : Option FieldType} {rm : Room} {cs : Nat × Nat} {pc : Nat} {lv : List (Nat × Value)} {st : List Value} {S : zS} (E : zE C own cc n ret rm) {i : Nat} {kc : Int} {x v : Int32} {lv2 : List (Nat × Value)} (d : decode cc pc = .ok (.iinc i kc, 3)) (q : Nat) (hk : lv[q]? = some (i, .int x)) (hv : x + Int32.ofInt kc = v) (hn : i < n) (hl2 : (i, Value.int v) :: lv.filter (fun q => !(q.1 == i) && !(q.1 + 1 == i && q.2.category == 2)) = lv2) (kk : zB C cs (pc + 3) lv2 st S) : zB C cs pc lv st S := by
  obtain ⟨p, l, e, R, s, m, args, below, meth, c, Q, X, nn⟩ := C
  intro H locs ls hl hW hS
  exact lv_iinc E.1 E.2.1 d hl hk hv (by rw [E.2.2.2.1]; exact hn) hl2 (fun ls2 h2 => kk H locs ls2 h2 hW hS)
theorem zb_iadd {C : zC} {own : String} {cc : ByteArray} {n : Nat} {ret : Option FieldType} {rm : Room} {cs : Nat × Nat} {pc : Nat} {lv : List (Nat × Value)} {st : List Value} {S : zS} (E : zE C own cc n ret rm) {x y : Int32} (d : decode cc pc = .ok (.iadd, 1)) (kk : zB C cs (pc + 1) lv (.int (x + y) :: st) S) : zB C cs pc lv (.int y :: .int x :: st) S := by
  obtain ⟨p, l, e, R, s, m, args, below, meth, c, Q, X, nn⟩ := C
  intro H locs ls hl hW hS
  exact lv_iadd E.1 E.2.1 d (kk H locs ls hl hW hS)
theorem zb_isub {C : zC} {own : String} {cc : ByteArray} {n : Nat} {ret : Option FieldType} {rm : Room} {cs : Nat × Nat} {pc : Nat} {lv : List (Nat × Value)} {st : List Value} {S : zS} (E : zE C own cc n ret rm) {x y : Int32} (d : decode cc pc = .ok (.isub, 1)) (kk : zB C cs (pc + 1) lv (.int (x - y) :: st) S) : zB C cs pc lv (.int y :: .int x :: st) S := by
  obtain ⟨p, l, e, R, s, m, args, below, meth, c, Q, X, nn⟩ := C
  intro H locs ls hl hW hS
  exact lv_isub E.1 E.2.1 d (kk H locs ls hl hW hS)
theorem zb_imul {C : zC} {own : String} {cc : ByteArray} {n : Nat} {ret : Option FieldType} {rm : Room} {cs : Nat × Nat} {pc : Nat} {lv : List (Nat × Value)} {st : List Value} {S : zS} (E : zE C own cc n ret rm) {x y : Int32} (d : decode cc pc = .ok (.imul, 1)) (kk : zB C cs (pc + 1) lv (.int (x * y) :: st) S) : zB C cs pc lv (.int y :: .int x :: st) S := by
  obtain ⟨p, l, e, R, s, m, args, below, meth, c, Q, X, nn⟩ := C
  intro H locs ls hl hW hS
  exact lv_imul E.1 E.2.1 d (kk H locs ls hl hW hS)
theorem zb_iand {C : zC} {own : String} {cc : ByteArray} {n : Nat} {ret : Option FieldType} {rm : Room} {cs : Nat × Nat} {pc : Nat} {lv : List (Nat × Value)} {st : List Value} {S : zS} (E : zE C own cc n ret rm) {x y : Int32} (d : decode cc pc = .ok (.iand, 1)) (kk : zB C cs (pc + 1) lv (.int (x &&& y) :: st) S) : zB C cs pc lv (.int y :: .int x :: st) S := by
  obtain ⟨p, l, e, R, s, m, args, below, meth, c, Q, X, nn⟩ := C
  intro H locs ls hl hW hS
  exact lv_iand E.1 E.2.1 d (kk H locs ls hl hW hS)
theorem zb_ior {C : zC} {own : String} {cc : ByteArray} {n : Nat} {ret : Option FieldType} {rm : Room} {cs : Nat × Nat} {pc : Nat} {lv : List (Nat × Value)} {st : List Value} {S : zS} (E : zE C own cc n ret rm) {x y : Int32} (d : decode cc pc = .ok (.ior, 1)) (kk : zB C cs (pc + 1) lv (.int (x ||| y) :: st) S) : zB C cs pc lv (.int y :: .int x :: st) S := by
  obtain ⟨p, l, e, R, s, m, args, below, meth, c, Q, X, nn⟩ := C
  intro H locs ls hl hW hS
  exact lv_ior E.1 E.2.1 d (kk H locs ls hl hW hS)
theorem zb_ixor {C : zC} {own : String} {cc : ByteArray} {n : Nat} {ret : Option FieldType} {rm : Room} {cs : Nat × Nat} {pc : Nat} {lv : List (Nat × Value)} {st : List Value} {S : zS} (E : zE C own cc n ret rm) {x y : Int32} (d : decode cc pc = .ok (.ixor, 1)) (kk : zB C cs (pc + 1) lv (.int (x ^^^ y) :: st) S) : zB C cs pc lv (.int y :: .int x :: st) S := by
  obtain ⟨p, l, e, R, s, m, args, below, meth, c, Q, X, nn⟩ := C
  intro H locs ls hl hW hS
  exact lv_ixor E.1 E.2.1 d (kk H locs ls hl hW hS)
theorem zb_ladd {C : zC} {own : String} {cc : ByteArray} {n : Nat} {ret : Option FieldType} {rm : Room} {cs : Nat × Nat} {pc : Nat} {lv : List (Nat × Value)} {st : List Value} {S : zS} (E : zE C own cc n ret rm) {x y : Int64} (d : decode cc pc = .ok (.ladd, 1)) (kk : zB C cs (pc + 1) lv (.long (x + y) :: st) S) : zB C cs pc lv (.long y :: .long x :: st) S := by
  obtain ⟨p, l, e, R, s, m, args, below, meth, c, Q, X, nn⟩ := C
  intro H locs ls hl hW hS
  exact lv_ladd E.1 E.2.1 d (kk H locs ls hl hW hS)
theorem zb_lsub {C : zC} {own : String} {cc : ByteArray} {n : Nat} {ret : Option FieldType} {rm : Room} {cs : Nat × Nat} {pc : Nat} {lv : List (Nat × Value)} {st : List Value} {S : zS} (E : zE C own cc n ret rm) {x y : Int64} (d : decode cc pc = .ok (.lsub, 1)) (kk : zB C cs (pc + 1) lv (.long (x - y) :: st) S) : zB C cs pc lv (.long y :: .long x :: st) S := by
  obtain ⟨p, l, e, R, s, m, args, below, meth, c, Q, X, nn⟩ := C
  intro H locs ls hl hW hS
  exact lv_lsub E.1 E.2.1 d (kk H locs ls hl hW hS)
theorem zb_lmul {C : zC} {own : String} {cc : ByteArray} {n : Nat} {ret : Option FieldType} {rm : Room} {cs : Nat × Nat} {pc : Nat} {lv : List (Nat × Value)} {st : List Value} {S : zS} (E : zE C own cc n ret rm) {x y : Int64} (d : decode cc pc = .ok (.lmul, 1)) (kk : zB C cs (pc + 1) lv (.long (x * y) :: st) S) : zB C cs pc lv (.long y :: .long x :: st) S := by
  obtain ⟨p, l, e, R, s, m, args, below, meth, c, Q, X, nn⟩ := C
  intro H locs ls hl hW hS
  exact lv_lmul E.1 E.2.1 d (kk H locs ls hl hW hS)
theorem zb_land {C : zC} {own : String} {cc : ByteArray} {n : Nat} {ret : Option FieldType} {rm : Room} {cs : Nat × Nat} {pc : Nat} {lv : List (Nat × Value)} {st : List Value} {S : zS} (E : zE C own cc n ret rm) {x y : Int64} (d : decode cc pc = .ok (.land, 1)) (kk : zB C cs (pc + 1) lv (.long (x &&& y) :: st) S) : zB C cs pc lv (.long y :: .long x :: st) S := by
  obtain ⟨p, l, e, R, s, m, args, below, meth, c, Q, X, nn⟩ := C
  intro H locs ls hl hW hS
  exact lv_land E.1 E.2.1 d (kk H locs ls hl hW hS)
theorem zb_lor {C : zC} {own : String} {cc : ByteArray} {n : Nat} {ret : Option FieldType} {rm : Room} {cs : Nat × Nat} {pc : Nat} {lv : List (Nat × Value)} {st : List Value} {S : zS} (E : zE C own cc n ret rm) {x y : Int64} (d : decode cc pc = .ok (.lor, 1)) (kk : zB C cs (pc + 1) lv (.long (x ||| y) :: st) S) : zB C cs pc lv (.long y :: .long x :: st) S := by
  obtain ⟨p, l, e, R, s, m, args, below, meth, c, Q, X, nn⟩ := C
  intro H locs ls hl hW hS
  exact lv_lor E.1 E.2.1 d (kk H locs ls hl hW hS)
theorem zb_lxor {C : zC} {own : String} {cc : ByteArray} {n : Nat} {ret : Option FieldType} {rm : Room} {cs : Nat × Nat} {pc : Nat} {lv : List (Nat × Value)} {st : List Value} {S : zS} (E : zE C own cc n ret rm) {x y : Int64} (d : decode cc pc = .ok (.lxor, 1)) (kk : zB C cs (pc + 1) lv (.long (x ^^^ y) :: st) S) : zB C cs pc lv (.long y :: .long x :: st) S := by
  obtain ⟨p, l, e, R, s, m, args, below, meth, c, Q, X, nn⟩ := C
  intro H locs ls hl hW hS
  exact lv_lxor E.1 E.2.1 d (kk H locs ls hl hW hS)
theorem zb_ineg {C : zC} {own : String} {cc : ByteArray} {n : Nat} {ret : Option FieldType} {rm : Room} {cs : Nat × Nat} {pc : Nat} {lv : List (Nat × Value)} {st : List Value} {S : zS} (E : zE C own cc n ret rm) {x : Int32} (d : decode cc pc = .ok (.ineg, 1)) (kk : zB C cs (pc + 1) lv (.int (-x) :: st) S) : zB C cs pc lv (.int x :: st) S := by
  obtain ⟨p, l, e, R, s, m, args, below, meth, c, Q, X, nn⟩ := C
  intro H locs ls hl hW hS
  exact lv_ineg E.1 E.2.1 d (kk H locs ls hl hW hS)
theorem zb_lneg {C : zC} {own : String} {cc : ByteArray} {n : Nat} {ret : Option FieldType} {rm : Room} {cs : Nat × Nat} {pc : Nat} {lv : List (Nat × Value)} {st : List Value} {S : zS} (E : zE C own cc n ret rm) {x : Int64} (d : decode cc pc = .ok (.lneg, 1)) (kk : zB C cs (pc + 1) lv (.long (-x) :: st) S) : zB C cs pc lv (.long x :: st) S := by
  obtain ⟨p, l, e, R, s, m, args, below, meth, c, Q, X, nn⟩ := C
  intro H locs ls hl hW hS
  exact lv_lneg E.1 E.2.1 d (kk H locs ls hl hW hS)
theorem zb_idiv {C : zC} {own : String} {cc : ByteArray} {n : Nat} {ret : Option FieldType} {rm : Room} {cs : Nat × Nat} {pc : Nat} {lv : List (Nat × Value)} {st : List Value} {S : zS} (E : zE C own cc n ret rm) (d : decode cc pc = .ok (.idiv, 1)) {x y : Int32} (hne : ¬ y = 0) (kk : zB C cs (pc + 1) lv (.int (x / y) :: st) S) : zB C cs pc lv (.int y :: .int x :: st) S := by
  obtain ⟨p, l, e, R, s, m, args, below, meth, c, Q, X, nn⟩ := C
  intro H locs ls hl hW hS
  exact lv_idiv E.1 E.2.1 d hne (kk H locs ls hl hW hS)
theorem zb_irem {C : zC} {own : String} {cc : ByteArray} {n : Nat} {ret : Option FieldType} {rm : Room} {cs : Nat × Nat} {pc : Nat} {lv : List (Nat × Value)} {st : List Value} {S : zS} (E : zE C own cc n ret rm) (d : decode cc pc = .ok (.irem, 1)) {x y : Int32} (hne : ¬ y = 0) (kk : zB C cs (pc + 1) lv (.int (x - x / y * y) :: st) S) : zB C cs pc lv (.int y :: .int x :: st) S := by
  obtain ⟨p, l, e, R, s, m, args, below, meth, c, Q, X, nn⟩ := C
  intro H locs ls hl hW hS
  exact lv_irem E.1 E.2.1 d hne (kk H locs ls hl hW hS)
theorem zb_ldiv {C : zC} {own : String} {cc : ByteArray} {n : Nat} {ret : Option FieldType} {rm : Room} {cs : Nat × Nat} {pc : Nat} {lv : List (Nat × Value)} {st : List Value} {S : zS} (E : zE C own cc n ret rm) (d : decode cc pc = .ok (.ldiv, 1)) {x y : Int64} (hne : ¬ y = 0) (kk : zB C cs (pc + 1) lv (.long (x / y) :: st) S) : zB C cs pc lv (.long y :: .long x :: st) S := by
  obtain ⟨p, l, e, R, s, m, args, below, meth, c, Q, X, nn⟩ := C
  intro H locs ls hl hW hS
  exact lv_ldiv E.1 E.2.1 d hne (kk H locs ls hl hW hS)
theorem zb_lrem {C : zC} {own : String} {cc : ByteArray} {n : Nat} {ret : Option FieldType} {rm : Room} {cs : Nat × Nat} {pc : Nat} {lv : List (Nat × Value)} {st : List Value} {S : zS} (E : zE C own cc n ret rm) (d : decode cc pc = .ok (.lrem, 1)) {x y : Int64} (hne : ¬ y = 0) (kk : zB C cs (pc + 1) lv (.long (x - x / y * y) :: st) S) : zB C cs pc lv (.long y :: .long x :: st) S := by
  obtain ⟨p, l, e, R, s, m, args, below, meth, c, Q, X, nn⟩ := C
  intro H locs ls hl hW hS
  exact lv_lrem E.1 E.2.1 d hne (kk H locs ls hl hW hS)
theorem zb_ishl {C : zC} {own : String} {cc : ByteArray} {n : Nat} {ret : Option FieldType} {rm : Room} {cs : Nat × Nat} {pc : Nat} {lv : List (Nat × Value)} {st : List Value} {S : zS} (E : zE C own cc n ret rm) {x y : Int32} (d : decode cc pc = .ok (.ishl, 1)) (kk : zB C cs (pc + 1) lv (.int (x <<< (y &&& 31)) :: st) S) : zB C cs pc lv (.int y :: .int x :: st) S := by
  obtain ⟨p, l, e, R, s, m, args, below, meth, c, Q, X, nn⟩ := C
  intro H locs ls hl hW hS
  exact lv_ishl E.1 E.2.1 d (kk H locs ls hl hW hS)
theorem zb_ishr {C : zC} {own : String} {cc : ByteArray} {n : Nat} {ret : Option FieldType} {rm : Room} {cs : Nat × Nat} {pc : Nat} {lv : List (Nat × Value)} {st : List Value} {S : zS} (E : zE C own cc n ret rm) {x y : Int32} (d : decode cc pc = .ok (.ishr, 1)) (kk : zB C cs (pc + 1) lv (.int (x >>> (y &&& 31)) :: st) S) : zB C cs pc lv (.int y :: .int x :: st) S := by
  obtain ⟨p, l, e, R, s, m, args, below, meth, c, Q, X, nn⟩ := C
  intro H locs ls hl hW hS
  exact lv_ishr E.1 E.2.1 d (kk H locs ls hl hW hS)
theorem zb_iushr {C : zC} {own : String} {cc : ByteArray} {n : Nat} {ret : Option FieldType} {rm : Room} {cs : Nat × Nat} {pc : Nat} {lv : List (Nat × Value)} {st : List Value} {S : zS} (E : zE C own cc n ret rm) {x y : Int32} (d : decode cc pc = .ok (.iushr, 1)) (kk : zB C cs (pc + 1) lv (.int ((x.toUInt32 >>> (y.toUInt32 &&& Int32.toUInt32 31)).toInt32) :: st) S) : zB C cs pc lv (.int y :: .int x :: st) S := by
  obtain ⟨p, l, e, R, s, m, args, below, meth, c, Q, X, nn⟩ := C
  intro H locs ls hl hW hS
  exact lv_iushr E.1 E.2.1 d rfl (kk H locs ls hl hW hS)
theorem zb_lshl {C : zC} {own : String} {cc : ByteArray} {n : Nat} {ret : Option FieldType} {rm : Room} {cs : Nat × Nat} {pc : Nat} {lv : List (Nat × Value)} {st : List Value} {S : zS} (E : zE C own cc n ret rm) {x : Int64} {y : Int32} (d : decode cc pc = .ok (.lshl, 1)) (kk : zB C cs (pc + 1) lv (.long (x <<< (y.toInt64 &&& 63)) :: st) S) : zB C cs pc lv (.int y :: .long x :: st) S := by
  obtain ⟨p, l, e, R, s, m, args, below, meth, c, Q, X, nn⟩ := C
  intro H locs ls hl hW hS
  exact lv_lshl E.1 E.2.1 d rfl (kk H locs ls hl hW hS)
theorem zb_i2l {C : zC} {own : String} {cc : ByteArray} {n : Nat} {ret : Option FieldType} {rm : Room} {cs : Nat × Nat} {pc : Nat} {lv : List (Nat × Value)} {st : List Value} {S : zS} (E : zE C own cc n ret rm) {x : Int32} (d : decode cc pc = .ok (.i2l, 1)) (kk : zB C cs (pc + 1) lv (.long x.toInt64 :: st) S) : zB C cs pc lv (.int x :: st) S := by
  obtain ⟨p, l, e, R, s, m, args, below, meth, c, Q, X, nn⟩ := C
  intro H locs ls hl hW hS
  exact lv_i2l E.1 E.2.1 d rfl (kk H locs ls hl hW hS)
theorem zb_l2i {C : zC} {own : String} {cc : ByteArray} {n : Nat} {ret : Option FieldType} {rm : Room} {cs : Nat × Nat} {pc : Nat} {lv : List (Nat × Value)} {st : List Value} {S : zS} (E : zE C own cc n ret rm) {x : Int64} (d : decode cc pc = .ok (.l2i, 1)) (kk : zB C cs (pc + 1) lv (.int x.toInt32 :: st) S) : zB C cs pc lv (.long x :: st) S := by
  obtain ⟨p, l, e, R, s, m, args, below, meth, c, Q, X, nn⟩ := C
  intro H locs ls hl hW hS
  exact lv_l2i E.1 E.2.1 d rfl (kk H locs ls hl hW hS)
theorem zb_i2c {C : zC} {own : String} {cc : ByteArray} {n : Nat} {ret : Option FieldType} {rm : Room} {cs : Nat × Nat} {pc : Nat} {lv : List (Nat × Value)} {st : List Value} {S : zS} (E : zE C own cc n ret rm) {x : Int32} (d : decode cc pc = .ok (.i2c, 1)) (kk : zB C cs (pc + 1) lv (.int (x.toUInt32 % 65536).toInt32 :: st) S) : zB C cs pc lv (.int x :: st) S := by
  obtain ⟨p, l, e, R, s, m, args, below, meth, c, Q, X, nn⟩ := C
  intro H locs ls hl hW hS
  exact lv_i2c E.1 E.2.1 d rfl (kk H locs ls hl hW hS)
theorem zb_lcmp {C : zC} {own : String} {cc : ByteArray} {n : Nat} {ret : Option FieldType} {rm : Room} {cs : Nat × Nat} {pc : Nat} {lv : List (Nat × Value)} {st : List Value} {S : zS} (E : zE C own cc n ret rm) {x y : Int64} (d : decode cc pc = .ok (.lcmp, 1)) (kk : zB C cs (pc + 1) lv (.int (lg_cmp x y) :: st) S) : zB C cs pc lv (.long y :: .long x :: st) S := by
  obtain ⟨p, l, e, R, s, m, args, below, meth, c, Q, X, nn⟩ := C
  intro H locs ls hl hW hS
  exact W.lcmp E.1 E.2.1 d (kk H locs ls hl hW hS)
theorem zb_dup {C : zC} {own : String} {cc : ByteArray} {n : Nat} {ret : Option FieldType} {rm : Room} {cs : Nat × Nat} {pc : Nat} {lv : List (Nat × Value)} {st : List Value} {S : zS} (E : zE C own cc n ret rm) (d : decode cc pc = .ok (.dup, 1)) {va : Value} (hva : va.category = 1) (kk : zB C cs (pc + 1) lv (va :: va :: st) S) : zB C cs pc lv (va :: st) S := by
  obtain ⟨p, l, e, R, s, m, args, below, meth, c, Q, X, nn⟩ := C
  intro H locs ls hl hW hS
  exact lv_dup E.1 E.2.1 d hva (kk H locs ls hl hW hS)
theorem zb_pop {C : zC} {own : String} {cc : ByteArray} {n : Nat} {ret : Option FieldType} {rm : Room} {cs : Nat × Nat} {pc : Nat} {lv : List (Nat × Value)} {st : List Value} {S : zS} (E : zE C own cc n ret rm) (d : decode cc pc = .ok (.pop, 1)) {va : Value} (hva : va.category = 1) (kk : zB C cs (pc + 1) lv (st) S) : zB C cs pc lv (va :: st) S := by
  obtain ⟨p, l, e, R, s, m, args, below, meth, c, Q, X, nn⟩ := C
  intro H locs ls hl hW hS
  exact lv_pop E.1 E.2.1 d hva (kk H locs ls hl hW hS)
theorem zb_dup_x1 {C : zC} {own : String} {cc : ByteArray} {n : Nat} {ret : Option FieldType} {rm : Room} {cs : Nat × Nat} {pc : Nat} {lv : List (Nat × Value)} {st : List Value} {S : zS} (E : zE C own cc n ret rm) (d : decode cc pc = .ok (.dup_x1, 1)) {va vb : Value} (hva : va.category = 1) (hvb : vb.category = 1) (kk : zB C cs (pc + 1) lv (va :: vb :: va :: st) S) : zB C cs pc lv (va :: vb :: st) S := by
  obtain ⟨p, l, e, R, s, m, args, below, meth, c, Q, X, nn⟩ := C
  intro H locs ls hl hW hS
  exact lv_dup_x1 E.1 E.2.1 d hva hvb (kk H locs ls hl hW hS)
theorem zb_dup_x2 {C : zC} {own : String} {cc : ByteArray} {n : Nat} {ret : Option FieldType} {rm : Room} {cs : Nat × Nat} {pc : Nat} {lv : List (Nat × Value)} {st : List Value} {S : zS} (E : zE C own cc n ret rm) (d : decode cc pc = .ok (.dup_x2, 1)) {va vb vd : Value} (hva : va.category = 1) (hvb : vb.category = 1) (hvd : vd.category = 1) (kk : zB C cs (pc + 1) lv (va :: vb :: vd :: va :: st) S) : zB C cs pc lv (va :: vb :: vd :: st) S := by
  obtain ⟨p, l, e, R, s, m, args, below, meth, c, Q, X, nn⟩ := C
  intro H locs ls hl hW hS
  exact lv_dup_x2 E.1 E.2.1 d hva hvb hvd (kk H locs ls hl hW hS)
theorem zb_dup2_11 {C : zC} {own : String} {cc : ByteArray} {n : Nat} {ret : Option FieldType} {rm : Room} {cs : Nat × Nat} {pc : Nat} {lv : List (Nat × Value)} {st : List Value} {S : zS} (E : zE C own cc n ret rm) (d : decode cc pc = .ok (.dup2, 1)) {va vb : Value} (hva : va.category = 1) (hvb : vb.category = 1) (kk : zB C cs (pc + 1) lv (va :: vb :: va :: vb :: st) S) : zB C cs pc lv (va :: vb :: st) S := by
  obtain ⟨p, l, e, R, s, m, args, below, meth, c, Q, X, nn⟩ := C
  intro H locs ls hl hW hS
  exact lv_dup2_11 E.1 E.2.1 d hva hvb (kk H locs ls hl hW hS)
theorem zb_dup2_2 {C : zC} {own : String} {cc : ByteArray} {n : Nat} {ret : Option FieldType} {rm : Room} {cs : Nat × Nat} {pc : Nat} {lv : List (Nat × Value)} {st : List Value} {S : zS} (E : zE C own cc n ret rm) (d : decode cc pc = .ok (.dup2, 1)) {va : Value} (hva : va.category = 2) (kk : zB C cs (pc + 1) lv (va :: va :: st) S) : zB C cs pc lv (va :: st) S := by
  obtain ⟨p, l, e, R, s, m, args, below, meth, c, Q, X, nn⟩ := C
  intro H locs ls hl hW hS
  exact lv_dup2_2 E.1 E.2.1 d hva (kk H locs ls hl hW hS)
theorem zb_dup2_x1_2 {C : zC} {own : String} {cc : ByteArray} {n : Nat} {ret : Option FieldType} {rm : Room} {cs : Nat × Nat} {pc : Nat} {lv : List (Nat × Value)} {st : List Value} {S : zS} (E : zE C own cc n ret rm) (d : decode cc pc = .ok (.dup2_x1, 1)) {va vb : Value} (hva : va.category = 2) (hvb : vb.category = 1) (kk : zB C cs (pc + 1) lv (va :: vb :: va :: st) S) : zB C cs pc lv (va :: vb :: st) S := by
  obtain ⟨p, l, e, R, s, m, args, below, meth, c, Q, X, nn⟩ := C
  intro H locs ls hl hW hS
  exact lv_dup2_x1_2 E.1 E.2.1 d hva hvb (kk H locs ls hl hW hS)
theorem zb_null {C : zC} {own : String} {cc : ByteArray} {n : Nat} {ret : Option FieldType} {rm : Room} {cs : Nat × Nat} {pc : Nat} {lv : List (Nat × Value)} {st : List Value} {S : zS} (E : zE C own cc n ret rm)  (d : decode cc pc = .ok (.aconst_null, 1)) (kk : zB C cs (pc + 1) lv (.null :: st) S) : zB C cs pc lv (st) S := by
  obtain ⟨p, l, e, R, s, m, args, below, meth, c, Q, X, nn⟩ := C
  intro H locs ls hl hW hS
  exact lv_null E.1 E.2.1 d (kk H locs ls hl hW hS)
theorem zb_goto {C : zC} {own : String} {cc : ByteArray} {n : Nat} {ret : Option FieldType} {rm : Room} {cs : Nat × Nat} {pc : Nat} {lv : List (Nat × Value)} {st : List Value} {S : zS} (E : zE C own cc n ret rm) {off : Int} {tgt : Nat} (d : decode cc pc = .ok (.goto off, 3)) (ht : (pc : Int) + off = (tgt : Int)) (kk : zB C cs tgt lv st S) : zB C cs pc lv st S := by
  obtain ⟨p, l, e, R, s, m, args, below, meth, c, Q, X, nn⟩ := C
  intro H locs ls hl hW hS
  exact lv_goto E.1 E.2.1 d ht (kk H locs ls hl hW hS)
theorem zb_if_eq {C : zC} {own : String} {cc : ByteArray} {n : Nat} {ret : Option FieldType} {rm : Room} {cs : Nat × Nat} {pc : Nat} {lv : List (Nat × Value)} {st : List Value} {S : zS} (E : zE C own cc n ret rm) {x : Int32} {off : Int} {tgt : Nat} (d : decode cc pc = .ok (.ifCond .eq off, 3)) (ht : (pc : Int) + off = (tgt : Int)) (kt : x = 0 → zB C cs tgt lv st S) (kf : ¬ (x = 0) → zB C cs (pc + 3) lv st S) : zB C cs pc lv (.int x :: st) S := by
  obtain ⟨p, l, e, R, s, m, args, below, meth, c, Q, X, nn⟩ := C
  intro H locs ls hl hW hS
  exact lv_if_eq E.1 E.2.1 d ht (fun h => kt h H locs ls hl hW hS) (fun h => kf h H locs ls hl hW hS)
theorem zb_icmp_eq {C : zC} {own : String} {cc : ByteArray} {n : Nat} {ret : Option FieldType} {rm : Room} {cs : Nat × Nat} {pc : Nat} {lv : List (Nat × Value)} {st : List Value} {S : zS} (E : zE C own cc n ret rm) {x y : Int32} {off : Int} {tgt : Nat} (d : decode cc pc = .ok (.if_icmp .eq off, 3)) (ht : (pc : Int) + off = (tgt : Int)) (kt : x = y → zB C cs tgt lv st S) (kf : ¬ (x = y) → zB C cs (pc + 3) lv st S) : zB C cs pc lv (.int y :: .int x :: st) S := by
  obtain ⟨p, l, e, R, s, m, args, below, meth, c, Q, X, nn⟩ := C
  intro H locs ls hl hW hS
  exact lv_icmp_eq E.1 E.2.1 d ht (fun h => kt h H locs ls hl hW hS) (fun h => kf h H locs ls hl hW hS)
theorem zb_if_ne {C : zC} {own : String} {cc : ByteArray} {n : Nat} {ret : Option FieldType} {rm : Room} {cs : Nat × Nat} {pc : Nat} {lv : List (Nat × Value)} {st : List Value} {S : zS} (E : zE C own cc n ret rm) {x : Int32} {off : Int} {tgt : Nat} (d : decode cc pc = .ok (.ifCond .ne off, 3)) (ht : (pc : Int) + off = (tgt : Int)) (kt : ¬ x = 0 → zB C cs tgt lv st S) (kf : x = 0 → zB C cs (pc + 3) lv st S) : zB C cs pc lv (.int x :: st) S := by
  obtain ⟨p, l, e, R, s, m, args, below, meth, c, Q, X, nn⟩ := C
  intro H locs ls hl hW hS
  exact lv_if_ne E.1 E.2.1 d ht (fun h => kt h H locs ls hl hW hS) (fun h => kf h H locs ls hl hW hS)
theorem zb_icmp_ne {C : zC} {own : String} {cc : ByteArray} {n : Nat} {ret : Option FieldType} {rm : Room} {cs : Nat × Nat} {pc : Nat} {lv : List (Nat × Value)} {st : List Value} {S : zS} (E : zE C own cc n ret rm) {x y : Int32} {off : Int} {tgt : Nat} (d : decode cc pc = .ok (.if_icmp .ne off, 3)) (ht : (pc : Int) + off = (tgt : Int)) (kt : ¬ x = y → zB C cs tgt lv st S) (kf : x = y → zB C cs (pc + 3) lv st S) : zB C cs pc lv (.int y :: .int x :: st) S := by
  obtain ⟨p, l, e, R, s, m, args, below, meth, c, Q, X, nn⟩ := C
  intro H locs ls hl hW hS
  exact lv_icmp_ne E.1 E.2.1 d ht (fun h => kt h H locs ls hl hW hS) (fun h => kf h H locs ls hl hW hS)
theorem zb_if_lt {C : zC} {own : String} {cc : ByteArray} {n : Nat} {ret : Option FieldType} {rm : Room} {cs : Nat × Nat} {pc : Nat} {lv : List (Nat × Value)} {st : List Value} {S : zS} (E : zE C own cc n ret rm) {x : Int32} {off : Int} {tgt : Nat} (d : decode cc pc = .ok (.ifCond .lt off, 3)) (ht : (pc : Int) + off = (tgt : Int)) (kt : x < 0 → zB C cs tgt lv st S) (kf : ¬ (x < 0) → zB C cs (pc + 3) lv st S) : zB C cs pc lv (.int x :: st) S := by
  obtain ⟨p, l, e, R, s, m, args, below, meth, c, Q, X, nn⟩ := C
  intro H locs ls hl hW hS
  exact lv_if_lt E.1 E.2.1 d ht (fun h => kt h H locs ls hl hW hS) (fun h => kf h H locs ls hl hW hS)
theorem zb_icmp_lt {C : zC} {own : String} {cc : ByteArray} {n : Nat} {ret : Option FieldType} {rm : Room} {cs : Nat × Nat} {pc : Nat} {lv : List (Nat × Value)} {st : List Value} {S : zS} (E : zE C own cc n ret rm) {x y : Int32} {off : Int} {tgt : Nat} (d : decode cc pc = .ok (.if_icmp .lt off, 3)) (ht : (pc : Int) + off = (tgt : Int)) (kt : x < y → zB C cs tgt lv st S) (kf : ¬ (x < y) → zB C cs (pc + 3) lv st S) : zB C cs pc lv (.int y :: .int x :: st) S := by
  obtain ⟨p, l, e, R, s, m, args, below, meth, c, Q, X, nn⟩ := C
  intro H locs ls hl hW hS
  exact lv_icmp_lt E.1 E.2.1 d ht (fun h => kt h H locs ls hl hW hS) (fun h => kf h H locs ls hl hW hS)
theorem zb_if_ge {C : zC} {own : String} {cc : ByteArray} {n : Nat} {ret : Option FieldType} {rm : Room} {cs : Nat × Nat} {pc : Nat} {lv : List (Nat × Value)} {st : List Value} {S : zS} (E : zE C own cc n ret rm) {x : Int32} {off : Int} {tgt : Nat} (d : decode cc pc = .ok (.ifCond .ge off, 3)) (ht : (pc : Int) + off = (tgt : Int)) (kt : 0 ≤ x → zB C cs tgt lv st S) (kf : ¬ (0 ≤ x) → zB C cs (pc + 3) lv st S) : zB C cs pc lv (.int x :: st) S := by
  obtain ⟨p, l, e, R, s, m, args, below, meth, c, Q, X, nn⟩ := C
  intro H locs ls hl hW hS
  exact lv_if_ge E.1 E.2.1 d ht (fun h => kt h H locs ls hl hW hS) (fun h => kf h H locs ls hl hW hS)
theorem zb_icmp_ge {C : zC} {own : String} {cc : ByteArray} {n : Nat} {ret : Option FieldType} {rm : Room} {cs : Nat × Nat} {pc : Nat} {lv : List (Nat × Value)} {st : List Value} {S : zS} (E : zE C own cc n ret rm) {x y : Int32} {off : Int} {tgt : Nat} (d : decode cc pc = .ok (.if_icmp .ge off, 3)) (ht : (pc : Int) + off = (tgt : Int)) (kt : y ≤ x → zB C cs tgt lv st S) (kf : ¬ (y ≤ x) → zB C cs (pc + 3) lv st S) : zB C cs pc lv (.int y :: .int x :: st) S := by
  obtain ⟨p, l, e, R, s, m, args, below, meth, c, Q, X, nn⟩ := C
  intro H locs ls hl hW hS
  exact lv_icmp_ge E.1 E.2.1 d ht (fun h => kt h H locs ls hl hW hS) (fun h => kf h H locs ls hl hW hS)
theorem zb_if_gt {C : zC} {own : String} {cc : ByteArray} {n : Nat} {ret : Option FieldType} {rm : Room} {cs : Nat × Nat} {pc : Nat} {lv : List (Nat × Value)} {st : List Value} {S : zS} (E : zE C own cc n ret rm) {x : Int32} {off : Int} {tgt : Nat} (d : decode cc pc = .ok (.ifCond .gt off, 3)) (ht : (pc : Int) + off = (tgt : Int)) (kt : 0 < x → zB C cs tgt lv st S) (kf : ¬ (0 < x) → zB C cs (pc + 3) lv st S) : zB C cs pc lv (.int x :: st) S := by
  obtain ⟨p, l, e, R, s, m, args, below, meth, c, Q, X, nn⟩ := C
  intro H locs ls hl hW hS
  exact lv_if_gt E.1 E.2.1 d ht (fun h => kt h H locs ls hl hW hS) (fun h => kf h H locs ls hl hW hS)
theorem zb_icmp_gt {C : zC} {own : String} {cc : ByteArray} {n : Nat} {ret : Option FieldType} {rm : Room} {cs : Nat × Nat} {pc : Nat} {lv : List (Nat × Value)} {st : List Value} {S : zS} (E : zE C own cc n ret rm) {x y : Int32} {off : Int} {tgt : Nat} (d : decode cc pc = .ok (.if_icmp .gt off, 3)) (ht : (pc : Int) + off = (tgt : Int)) (kt : y < x → zB C cs tgt lv st S) (kf : ¬ (y < x) → zB C cs (pc + 3) lv st S) : zB C cs pc lv (.int y :: .int x :: st) S := by
  obtain ⟨p, l, e, R, s, m, args, below, meth, c, Q, X, nn⟩ := C
  intro H locs ls hl hW hS
  exact lv_icmp_gt E.1 E.2.1 d ht (fun h => kt h H locs ls hl hW hS) (fun h => kf h H locs ls hl hW hS)
theorem zb_if_le {C : zC} {own : String} {cc : ByteArray} {n : Nat} {ret : Option FieldType} {rm : Room} {cs : Nat × Nat} {pc : Nat} {lv : List (Nat × Value)} {st : List Value} {S : zS} (E : zE C own cc n ret rm) {x : Int32} {off : Int} {tgt : Nat} (d : decode cc pc = .ok (.ifCond .le off, 3)) (ht : (pc : Int) + off = (tgt : Int)) (kt : x ≤ 0 → zB C cs tgt lv st S) (kf : ¬ (x ≤ 0) → zB C cs (pc + 3) lv st S) : zB C cs pc lv (.int x :: st) S := by
  obtain ⟨p, l, e, R, s, m, args, below, meth, c, Q, X, nn⟩ := C
  intro H locs ls hl hW hS
  exact lv_if_le E.1 E.2.1 d ht (fun h => kt h H locs ls hl hW hS) (fun h => kf h H locs ls hl hW hS)
theorem zb_icmp_le {C : zC} {own : String} {cc : ByteArray} {n : Nat} {ret : Option FieldType} {rm : Room} {cs : Nat × Nat} {pc : Nat} {lv : List (Nat × Value)} {st : List Value} {S : zS} (E : zE C own cc n ret rm) {x y : Int32} {off : Int} {tgt : Nat} (d : decode cc pc = .ok (.if_icmp .le off, 3)) (ht : (pc : Int) + off = (tgt : Int)) (kt : x ≤ y → zB C cs tgt lv st S) (kf : ¬ (x ≤ y) → zB C cs (pc + 3) lv st S) : zB C cs pc lv (.int y :: .int x :: st) S := by
  obtain ⟨p, l, e, R, s, m, args, below, meth, c, Q, X, nn⟩ := C
  intro H locs ls hl hW hS
  exact lv_icmp_le E.1 E.2.1 d ht (fun h => kt h H locs ls hl hW hS) (fun h => kf h H locs ls hl hW hS)
theorem zb_ldc {C : zC} {own : String} {cc : ByteArray} {n : Nat} {ret : Option FieldType} {rm : Room} {cs : Nat × Nat} {pc : Nat} {lv : List (Nat × Value)} {st : List Value} {S : zS} {index : Nat} (E : zE C own cc n ret rm) (d : decode cc pc = .ok (.ldc index, 2)) {v : Int32} (hw : Cond.constant own index v ∈ zT) (kk : zB C cs (pc + 2) lv (.int v :: st) S) : zB C cs pc lv (st) S := by
  obtain ⟨p, l, e, R, s, m, args, below, meth, c, Q, X, nn⟩ := C
  intro H locs ls hl hW hS
  exact lv_ldc E.1 E.2.1 E.2.2.2.2.1 (E.2.2.2.2.2.1 _ hw) d (kk H locs ls hl hW hS)
theorem zb_ldcw {C : zC} {own : String} {cc : ByteArray} {n : Nat} {ret : Option FieldType} {rm : Room} {cs : Nat × Nat} {pc : Nat} {lv : List (Nat × Value)} {st : List Value} {S : zS} {index : Nat} (E : zE C own cc n ret rm) (d : decode cc pc = .ok (.ldc_w index, 3)) {v : Int32} (hw : Cond.constant own index v ∈ zT) (kk : zB C cs (pc + 3) lv (.int v :: st) S) : zB C cs pc lv (st) S := by
  obtain ⟨p, l, e, R, s, m, args, below, meth, c, Q, X, nn⟩ := C
  intro H locs ls hl hW hS
  exact lv_ldcw E.1 E.2.1 E.2.2.2.2.1 (E.2.2.2.2.2.1 _ hw) d (kk H locs ls hl hW hS)
theorem zb_ldc2 {C : zC} {own : String} {cc : ByteArray} {n : Nat} {ret : Option FieldType} {rm : Room} {cs : Nat × Nat} {pc : Nat} {lv : List (Nat × Value)} {st : List Value} {S : zS} {index : Nat} (E : zE C own cc n ret rm) (d : decode cc pc = .ok (.ldc2_w index, 3)) {v : Int64} (hw : Cond.constantLong own index v ∈ zT) (kk : zB C cs (pc + 3) lv (.long v :: st) S) : zB C cs pc lv (st) S := by
  obtain ⟨p, l, e, R, s, m, args, below, meth, c, Q, X, nn⟩ := C
  intro H locs ls hl hW hS
  exact lv_ldc2 E.1 E.2.1 E.2.2.2.2.1 (E.2.2.2.2.2.1 _ hw) d (kk H locs ls hl hW hS)
theorem zW.at_ {X : zX} {S : zS} {H : Heap} (h : zW X S H) {k : Nat} (hk : k < 182) {e : va_E} (he : zF X k (S.1 k) (S.2.1 k) (S.2.2.1 k) = e) : va_P X.2.1 vwCl [(X.1 + k, e)] H := by
  intro i q hq
  cases i with
  | zero =>
    have e1 : q = (X.1 + k, e) := (Option.some.inj hq).symm
    subst e1
    subst he
    exact h.2.1 k hk
  | succ i => simp at hq
theorem zW.up {X : zX} {S S' : zS} {H H1 : Heap} (h : zW X S H) {k : Nat} (z : H1.size = H.size) (oq : ∀ q : Nat, q ≠ X.1 + k → H1[q]? = H[q]?) (hat : va_at X.2.1 vwCl (X.1 + k, zF X k (S'.1 k) (S'.2.1 k) (S'.2.2.1 k)) H1) (ho : ∀ j, j ≠ k → S'.1 j = S.1 j ∧ S'.2.1 j = S.2.1 j ∧ S'.2.2.1 j = S.2.2.1 j) (hk : k < 182) (hD : S'.2.2.2 = S.2.2.2) : zW X S' H1 := by
  refine ⟨by rw [z, hD]; exact h.1, fun j hj => ?_, fun j hj => ?_⟩
  · by_cases e : j = k
    · subst e
      exact hat
    · obtain ⟨e1, e2, e3⟩ := ho j e
      rw [e1, e2, e3]
      exact (h.2.1 j hj).kept (oq _ (fun z => e (by omega)))
  · rw [hD] at hj ⊢
    exact (h.2.2 j hj).kept (oq _ (fun z => by have z2 : X.1 + 182 + j = X.1 + k := z; omega))
theorem zup_s {α : Type} {f : Nat → α} {k : Nat} {v : α} : va_up f k v k = v := if_pos rfl
theorem zup_n {α : Type} {f : Nat → α} {k j : Nat} {v : α} (h : j ≠ k) : va_up f k v j = f j := if_neg h
theorem zup_id {α : Type} {f : Nat → α} {k : Nat} : va_up f k (f k) = f := by
  funext j
  by_cases h : j = k
  · subst h
    exact zup_s
  · exact zup_n h
theorem zup_c {α : Type} {f : Nat → α} {a b : Nat} {x y : α} (h : a ≠ b) : va_up (va_up f a x) b y = va_up (va_up f b y) a x := by
  funext j
  by_cases h1 : j = b
  · subst h1
    rw [zup_s, zup_n (Ne.symm h), zup_s]
  · by_cases h2 : j = a
    · subst h2
      rw [zup_n h1, zup_s, zup_s]
    · rw [zup_n h1, zup_n h2, zup_n h2, zup_n h1]
theorem zn1 {α : Type} {f : Nat → α} {a : Nat} {x y : α} : va_up (va_up f a x) a y = va_up f a y := by
  funext j
  by_cases h : j = a
  · subst h
    rw [zup_s, zup_s]
  · rw [zup_n h, zup_n h, zup_n h]
theorem zn2 {α : Type} {f : Nat → α} {a k1 : Nat} {x y x1 : α} (h1 : k1 ≠ a) : va_up (va_up (va_up f a x) k1 x1) a y = va_up (va_up f a y) k1 x1 := (zup_c h1).trans (congrArg (fun g => va_up g k1 x1) (zn1))
theorem zn3 {α : Type} {f : Nat → α} {a k1 k2 : Nat} {x y x1 x2 : α} (h1 : k1 ≠ a) (h2 : k2 ≠ a) : va_up (va_up (va_up (va_up f a x) k2 x2) k1 x1) a y = va_up (va_up (va_up f a y) k2 x2) k1 x1 := (zup_c h1).trans (congrArg (fun g => va_up g k1 x1) (zn2 h2))
theorem zn4 {α : Type} {f : Nat → α} {a k1 k2 k3 : Nat} {x y x1 x2 x3 : α} (h1 : k1 ≠ a) (h2 : k2 ≠ a) (h3 : k3 ≠ a) : va_up (va_up (va_up (va_up (va_up f a x) k3 x3) k2 x2) k1 x1) a y = va_up (va_up (va_up (va_up f a y) k3 x3) k2 x2) k1 x1 := (zup_c h1).trans (congrArg (fun g => va_up g k1 x1) (zn3 h2 h3))
theorem zn5 {α : Type} {f : Nat → α} {a k1 k2 k3 k4 : Nat} {x y x1 x2 x3 x4 : α} (h1 : k1 ≠ a) (h2 : k2 ≠ a) (h3 : k3 ≠ a) (h4 : k4 ≠ a) : va_up (va_up (va_up (va_up (va_up (va_up f a x) k4 x4) k3 x3) k2 x2) k1 x1) a y = va_up (va_up (va_up (va_up (va_up f a y) k4 x4) k3 x3) k2 x2) k1 x1 := (zup_c h1).trans (congrArg (fun g => va_up g k1 x1) (zn4 h2 h3 h4))
theorem zn6 {α : Type} {f : Nat → α} {a k1 k2 k3 k4 k5 : Nat} {x y x1 x2 x3 x4 x5 : α} (h1 : k1 ≠ a) (h2 : k2 ≠ a) (h3 : k3 ≠ a) (h4 : k4 ≠ a) (h5 : k5 ≠ a) : va_up (va_up (va_up (va_up (va_up (va_up (va_up f a x) k5 x5) k4 x4) k3 x3) k2 x2) k1 x1) a y = va_up (va_up (va_up (va_up (va_up (va_up f a y) k5 x5) k4 x4) k3 x3) k2 x2) k1 x1 := (zup_c h1).trans (congrArg (fun g => va_up g k1 x1) (zn5 h2 h3 h4 h5))
theorem zn7 {α : Type} {f : Nat → α} {a k1 k2 k3 k4 k5 k6 : Nat} {x y x1 x2 x3 x4 x5 x6 : α} (h1 : k1 ≠ a) (h2 : k2 ≠ a) (h3 : k3 ≠ a) (h4 : k4 ≠ a) (h5 : k5 ≠ a) (h6 : k6 ≠ a) : va_up (va_up (va_up (va_up (va_up (va_up (va_up (va_up f a x) k6 x6) k5 x5) k4 x4) k3 x3) k2 x2) k1 x1) a y = va_up (va_up (va_up (va_up (va_up (va_up (va_up f a y) k6 x6) k5 x5) k4 x4) k3 x3) k2 x2) k1 x1 := (zup_c h1).trans (congrArg (fun g => va_up g k1 x1) (zn6 h2 h3 h4 h5 h6))
theorem zn8 {α : Type} {f : Nat → α} {a k1 k2 k3 k4 k5 k6 k7 : Nat} {x y x1 x2 x3 x4 x5 x6 x7 : α} (h1 : k1 ≠ a) (h2 : k2 ≠ a) (h3 : k3 ≠ a) (h4 : k4 ≠ a) (h5 : k5 ≠ a) (h6 : k6 ≠ a) (h7 : k7 ≠ a) : va_up (va_up (va_up (va_up (va_up (va_up (va_up (va_up (va_up f a x) k7 x7) k6 x6) k5 x5) k4 x4) k3 x3) k2 x2) k1 x1) a y = va_up (va_up (va_up (va_up (va_up (va_up (va_up (va_up f a y) k7 x7) k6 x6) k5 x5) k4 x4) k3 x3) k2 x2) k1 x1 := (zup_c h1).trans (congrArg (fun g => va_up g k1 x1) (zn7 h2 h3 h4 h5 h6 h7))
theorem zn9 {α : Type} {f : Nat → α} {a k1 k2 k3 k4 k5 k6 k7 k8 : Nat} {x y x1 x2 x3 x4 x5 x6 x7 x8 : α} (h1 : k1 ≠ a) (h2 : k2 ≠ a) (h3 : k3 ≠ a) (h4 : k4 ≠ a) (h5 : k5 ≠ a) (h6 : k6 ≠ a) (h7 : k7 ≠ a) (h8 : k8 ≠ a) : va_up (va_up (va_up (va_up (va_up (va_up (va_up (va_up (va_up (va_up f a x) k8 x8) k7 x7) k6 x6) k5 x5) k4 x4) k3 x3) k2 x2) k1 x1) a y = va_up (va_up (va_up (va_up (va_up (va_up (va_up (va_up (va_up f a y) k8 x8) k7 x7) k6 x6) k5 x5) k4 x4) k3 x3) k2 x2) k1 x1 := (zup_c h1).trans (congrArg (fun g => va_up g k1 x1) (zn8 h2 h3 h4 h5 h6 h7 h8))
theorem zn10 {α : Type} {f : Nat → α} {a k1 k2 k3 k4 k5 k6 k7 k8 k9 : Nat} {x y x1 x2 x3 x4 x5 x6 x7 x8 x9 : α} (h1 : k1 ≠ a) (h2 : k2 ≠ a) (h3 : k3 ≠ a) (h4 : k4 ≠ a) (h5 : k5 ≠ a) (h6 : k6 ≠ a) (h7 : k7 ≠ a) (h8 : k8 ≠ a) (h9 : k9 ≠ a) : va_up (va_up (va_up (va_up (va_up (va_up (va_up (va_up (va_up (va_up (va_up f a x) k9 x9) k8 x8) k7 x7) k6 x6) k5 x5) k4 x4) k3 x3) k2 x2) k1 x1) a y = va_up (va_up (va_up (va_up (va_up (va_up (va_up (va_up (va_up (va_up f a y) k9 x9) k8 x8) k7 x7) k6 x6) k5 x5) k4 x4) k3 x3) k2 x2) k1 x1 := (zup_c h1).trans (congrArg (fun g => va_up g k1 x1) (zn9 h2 h3 h4 h5 h6 h7 h8 h9))
theorem zn11 {α : Type} {f : Nat → α} {a k1 k2 k3 k4 k5 k6 k7 k8 k9 k10 : Nat} {x y x1 x2 x3 x4 x5 x6 x7 x8 x9 x10 : α} (h1 : k1 ≠ a) (h2 : k2 ≠ a) (h3 : k3 ≠ a) (h4 : k4 ≠ a) (h5 : k5 ≠ a) (h6 : k6 ≠ a) (h7 : k7 ≠ a) (h8 : k8 ≠ a) (h9 : k9 ≠ a) (h10 : k10 ≠ a) : va_up (va_up (va_up (va_up (va_up (va_up (va_up (va_up (va_up (va_up (va_up (va_up f a x) k10 x10) k9 x9) k8 x8) k7 x7) k6 x6) k5 x5) k4 x4) k3 x3) k2 x2) k1 x1) a y = va_up (va_up (va_up (va_up (va_up (va_up (va_up (va_up (va_up (va_up (va_up f a y) k10 x10) k9 x9) k8 x8) k7 x7) k6 x6) k5 x5) k4 x4) k3 x3) k2 x2) k1 x1 := (zup_c h1).trans (congrArg (fun g => va_up g k1 x1) (zn10 h2 h3 h4 h5 h6 h7 h8 h9 h10))
theorem zn12 {α : Type} {f : Nat → α} {a k1 k2 k3 k4 k5 k6 k7 k8 k9 k10 k11 : Nat} {x y x1 x2 x3 x4 x5 x6 x7 x8 x9 x10 x11 : α} (h1 : k1 ≠ a) (h2 : k2 ≠ a) (h3 : k3 ≠ a) (h4 : k4 ≠ a) (h5 : k5 ≠ a) (h6 : k6 ≠ a) (h7 : k7 ≠ a) (h8 : k8 ≠ a) (h9 : k9 ≠ a) (h10 : k10 ≠ a) (h11 : k11 ≠ a) : va_up (va_up (va_up (va_up (va_up (va_up (va_up (va_up (va_up (va_up (va_up (va_up (va_up f a x) k11 x11) k10 x10) k9 x9) k8 x8) k7 x7) k6 x6) k5 x5) k4 x4) k3 x3) k2 x2) k1 x1) a y = va_up (va_up (va_up (va_up (va_up (va_up (va_up (va_up (va_up (va_up (va_up (va_up f a y) k11 x11) k10 x10) k9 x9) k8 x8) k7 x7) k6 x6) k5 x5) k4 x4) k3 x3) k2 x2) k1 x1 := (zup_c h1).trans (congrArg (fun g => va_up g k1 x1) (zn11 h2 h3 h4 h5 h6 h7 h8 h9 h10 h11))
theorem zn13 {α : Type} {f : Nat → α} {a k1 k2 k3 k4 k5 k6 k7 k8 k9 k10 k11 k12 : Nat} {x y x1 x2 x3 x4 x5 x6 x7 x8 x9 x10 x11 x12 : α} (h1 : k1 ≠ a) (h2 : k2 ≠ a) (h3 : k3 ≠ a) (h4 : k4 ≠ a) (h5 : k5 ≠ a) (h6 : k6 ≠ a) (h7 : k7 ≠ a) (h8 : k8 ≠ a) (h9 : k9 ≠ a) (h10 : k10 ≠ a) (h11 : k11 ≠ a) (h12 : k12 ≠ a) : va_up (va_up (va_up (va_up (va_up (va_up (va_up (va_up (va_up (va_up (va_up (va_up (va_up (va_up f a x) k12 x12) k11 x11) k10 x10) k9 x9) k8 x8) k7 x7) k6 x6) k5 x5) k4 x4) k3 x3) k2 x2) k1 x1) a y = va_up (va_up (va_up (va_up (va_up (va_up (va_up (va_up (va_up (va_up (va_up (va_up (va_up f a y) k12 x12) k11 x11) k10 x10) k9 x9) k8 x8) k7 x7) k6 x6) k5 x5) k4 x4) k3 x3) k2 x2) k1 x1 := (zup_c h1).trans (congrArg (fun g => va_up g k1 x1) (zn12 h2 h3 h4 h5 h6 h7 h8 h9 h10 h11 h12))
theorem zn14 {α : Type} {f : Nat → α} {a k1 k2 k3 k4 k5 k6 k7 k8 k9 k10 k11 k12 k13 : Nat} {x y x1 x2 x3 x4 x5 x6 x7 x8 x9 x10 x11 x12 x13 : α} (h1 : k1 ≠ a) (h2 : k2 ≠ a) (h3 : k3 ≠ a) (h4 : k4 ≠ a) (h5 : k5 ≠ a) (h6 : k6 ≠ a) (h7 : k7 ≠ a) (h8 : k8 ≠ a) (h9 : k9 ≠ a) (h10 : k10 ≠ a) (h11 : k11 ≠ a) (h12 : k12 ≠ a) (h13 : k13 ≠ a) : va_up (va_up (va_up (va_up (va_up (va_up (va_up (va_up (va_up (va_up (va_up (va_up (va_up (va_up (va_up f a x) k13 x13) k12 x12) k11 x11) k10 x10) k9 x9) k8 x8) k7 x7) k6 x6) k5 x5) k4 x4) k3 x3) k2 x2) k1 x1) a y = va_up (va_up (va_up (va_up (va_up (va_up (va_up (va_up (va_up (va_up (va_up (va_up (va_up (va_up f a y) k13 x13) k12 x12) k11 x11) k10 x10) k9 x9) k8 x8) k7 x7) k6 x6) k5 x5) k4 x4) k3 x3) k2 x2) k1 x1 := (zup_c h1).trans (congrArg (fun g => va_up g k1 x1) (zn13 h2 h3 h4 h5 h6 h7 h8 h9 h10 h11 h12 h13))
theorem zn15 {α : Type} {f : Nat → α} {a k1 k2 k3 k4 k5 k6 k7 k8 k9 k10 k11 k12 k13 k14 : Nat} {x y x1 x2 x3 x4 x5 x6 x7 x8 x9 x10 x11 x12 x13 x14 : α} (h1 : k1 ≠ a) (h2 : k2 ≠ a) (h3 : k3 ≠ a) (h4 : k4 ≠ a) (h5 : k5 ≠ a) (h6 : k6 ≠ a) (h7 : k7 ≠ a) (h8 : k8 ≠ a) (h9 : k9 ≠ a) (h10 : k10 ≠ a) (h11 : k11 ≠ a) (h12 : k12 ≠ a) (h13 : k13 ≠ a) (h14 : k14 ≠ a) : va_up (va_up (va_up (va_up (va_up (va_up (va_up (va_up (va_up (va_up (va_up (va_up (va_up (va_up (va_up (va_up f a x) k14 x14) k13 x13) k12 x12) k11 x11) k10 x10) k9 x9) k8 x8) k7 x7) k6 x6) k5 x5) k4 x4) k3 x3) k2 x2) k1 x1) a y = va_up (va_up (va_up (va_up (va_up (va_up (va_up (va_up (va_up (va_up (va_up (va_up (va_up (va_up (va_up f a y) k14 x14) k13 x13) k12 x12) k11 x11) k10 x10) k9 x9) k8 x8) k7 x7) k6 x6) k5 x5) k4 x4) k3 x3) k2 x2) k1 x1 := (zup_c h1).trans (congrArg (fun g => va_up g k1 x1) (zn14 h2 h3 h4 h5 h6 h7 h8 h9 h10 h11 h12 h13 h14))
theorem zn16 {α : Type} {f : Nat → α} {a k1 k2 k3 k4 k5 k6 k7 k8 k9 k10 k11 k12 k13 k14 k15 : Nat} {x y x1 x2 x3 x4 x5 x6 x7 x8 x9 x10 x11 x12 x13 x14 x15 : α} (h1 : k1 ≠ a) (h2 : k2 ≠ a) (h3 : k3 ≠ a) (h4 : k4 ≠ a) (h5 : k5 ≠ a) (h6 : k6 ≠ a) (h7 : k7 ≠ a) (h8 : k8 ≠ a) (h9 : k9 ≠ a) (h10 : k10 ≠ a) (h11 : k11 ≠ a) (h12 : k12 ≠ a) (h13 : k13 ≠ a) (h14 : k14 ≠ a) (h15 : k15 ≠ a) : va_up (va_up (va_up (va_up (va_up (va_up (va_up (va_up (va_up (va_up (va_up (va_up (va_up (va_up (va_up (va_up (va_up f a x) k15 x15) k14 x14) k13 x13) k12 x12) k11 x11) k10 x10) k9 x9) k8 x8) k7 x7) k6 x6) k5 x5) k4 x4) k3 x3) k2 x2) k1 x1) a y = va_up (va_up (va_up (va_up (va_up (va_up (va_up (va_up (va_up (va_up (va_up (va_up (va_up (va_up (va_up (va_up f a y) k15 x15) k14 x14) k13 x13) k12 x12) k11 x11) k10 x10) k9 x9) k8 x8) k7 x7) k6 x6) k5 x5) k4 x4) k3 x3) k2 x2) k1 x1 := (zup_c h1).trans (congrArg (fun g => va_up g k1 x1) (zn15 h2 h3 h4 h5 h6 h7 h8 h9 h10 h11 h12 h13 h14 h15))
theorem zb_iald {C : zC} {own : String} {cc : ByteArray} {n : Nat} {ret : Option FieldType} {rm : Room} {cs : Nat × Nat} {pc : Nat} {lv : List (Nat × Value)} {st : List Value} {I : Nat → Nat → Int32} {J : Nat → Nat → Int64} {Rr : Nat → Nat → Option Nat} {D : zD} (E : zE C own cc n ret rm) (k : Nat) {N : Nat} (hk : k < 182) (hF : ∀ (X : zX) (i : Nat → Int32) (j : Nat → Int64) (r : Nat → Option Nat), zF X k i j r = .inl (X.2.2.1 0, N, .inl i)) {f : Nat → Int32} (hf : I k = f) {i : Int32} (hin : vp_in i N) (d : decode cc pc = .ok (.iaload, 1)) (kk : zB C cs (pc + 1) lv (.int (f i.toNatClampNeg) :: st) (I, J, Rr, D)) : zB C cs pc lv (.int i :: .ref (C.X.1 + k) :: st) (I, J, Rr, D) := by
  obtain ⟨p, l, e, R, s, m, args, below, meth, c, Q, X, nn⟩ := C
  intro H locs ls hl hW hS
  subst hf
  exact va_iald E.1 E.2.1 E.2.2.2.2.2.2.2.2.2.1 (hW.at_ hk (hF X _ _ _)) 0 0 rfl rfl hin d (kk H locs ls hl hW hS)
theorem zb_cald {C : zC} {own : String} {cc : ByteArray} {n : Nat} {ret : Option FieldType} {rm : Room} {cs : Nat × Nat} {pc : Nat} {lv : List (Nat × Value)} {st : List Value} {I : Nat → Nat → Int32} {J : Nat → Nat → Int64} {Rr : Nat → Nat → Option Nat} {D : zD} (E : zE C own cc n ret rm) (k : Nat) {N : Nat} (hk : k < 182) (hF : ∀ (X : zX) (i : Nat → Int32) (j : Nat → Int64) (r : Nat → Option Nat), zF X k i j r = .inl (X.2.2.1 2, N, .inl i)) {f : Nat → Int32} (hf : I k = f) {i : Int32} (hin : vp_in i N) (d : decode cc pc = .ok (.caload, 1)) (kk : zB C cs (pc + 1) lv (.int (f i.toNatClampNeg) :: st) (I, J, Rr, D)) : zB C cs pc lv (.int i :: .ref (C.X.1 + k) :: st) (I, J, Rr, D) := by
  obtain ⟨p, l, e, R, s, m, args, below, meth, c, Q, X, nn⟩ := C
  intro H locs ls hl hW hS
  subst hf
  exact va_cald E.1 E.2.1 E.2.2.2.2.2.2.2.2.2.1 (hW.at_ hk (hF X _ _ _)) 0 2 rfl rfl hin d (kk H locs ls hl hW hS)
theorem zb_zald {C : zC} {own : String} {cc : ByteArray} {n : Nat} {ret : Option FieldType} {rm : Room} {cs : Nat × Nat} {pc : Nat} {lv : List (Nat × Value)} {st : List Value} {I : Nat → Nat → Int32} {J : Nat → Nat → Int64} {Rr : Nat → Nat → Option Nat} {D : zD} (E : zE C own cc n ret rm) (k : Nat) {N : Nat} (hk : k < 182) (hF : ∀ (X : zX) (i : Nat → Int32) (j : Nat → Int64) (r : Nat → Option Nat), zF X k i j r = .inl (X.2.2.1 3, N, .inl i)) {f : Nat → Int32} (hf : I k = f) {i : Int32} (hin : vp_in i N) (d : decode cc pc = .ok (.baload, 1)) (kk : zB C cs (pc + 1) lv (.int (f i.toNatClampNeg) :: st) (I, J, Rr, D)) : zB C cs pc lv (.int i :: .ref (C.X.1 + k) :: st) (I, J, Rr, D) := by
  obtain ⟨p, l, e, R, s, m, args, below, meth, c, Q, X, nn⟩ := C
  intro H locs ls hl hW hS
  subst hf
  exact va_zald E.1 E.2.1 E.2.2.2.2.2.2.2.2.2.1 (hW.at_ hk (hF X _ _ _)) 0 3 rfl rfl hin d (kk H locs ls hl hW hS)
theorem zb_lald {C : zC} {own : String} {cc : ByteArray} {n : Nat} {ret : Option FieldType} {rm : Room} {cs : Nat × Nat} {pc : Nat} {lv : List (Nat × Value)} {st : List Value} {I : Nat → Nat → Int32} {J : Nat → Nat → Int64} {Rr : Nat → Nat → Option Nat} {D : zD} (E : zE C own cc n ret rm) (k : Nat) {N : Nat} (hk : k < 182) (hF : ∀ (X : zX) (i : Nat → Int32) (j : Nat → Int64) (r : Nat → Option Nat), zF X k i j r = .inl (X.2.2.1 1, N, .inr (.inl j))) {f : Nat → Int64} (hf : J k = f) {i : Int32} (hin : vp_in i N) (d : decode cc pc = .ok (.laload, 1)) (kk : zB C cs (pc + 1) lv (.long (f i.toNatClampNeg) :: st) (I, J, Rr, D)) : zB C cs pc lv (.int i :: .ref (C.X.1 + k) :: st) (I, J, Rr, D) := by
  obtain ⟨p, l, e, R, s, m, args, below, meth, c, Q, X, nn⟩ := C
  intro H locs ls hl hW hS
  subst hf
  exact va_lald E.1 E.2.1 E.2.2.2.2.2.2.2.2.2.1 (hW.at_ hk (hF X _ _ _)) 0 1 rfl rfl hin d (kk H locs ls hl hW hS)
theorem zb_alen {C : zC} {own : String} {cc : ByteArray} {n : Nat} {ret : Option FieldType} {rm : Room} {cs : Nat × Nat} {pc : Nat} {lv : List (Nat × Value)} {st : List Value} {I : Nat → Nat → Int32} {J : Nat → Nat → Int64} {Rr : Nat → Nat → Option Nat} {D : zD} (E : zE C own cc n ret rm) (k : Nat) {cA : ClassId} {x : Nat × ((Nat → Int32) ⊕ (Nat → Int64) ⊕ (Nat → UInt32) ⊕ (Nat → UInt64) ⊕ (Nat → Option Nat))} (hk : k < 182) (hF : zF C.X k (I k) (J k) (Rr k) = .inl (cA, x)) {ty : FieldType} (t0 : Nat) (ht : (zty C.X)[t0]? = some (cA, ty)) {v : Int32} (hv : Int32.ofNat x.1 = v) (d : decode cc pc = .ok (.arraylength, 1)) (kk : zB C cs (pc + 1) lv (.int v :: st) (I, J, Rr, D)) : zB C cs pc lv (.ref (C.X.1 + k) :: st) (I, J, Rr, D) := by
  obtain ⟨p, l, e, R, s, m, args, below, meth, c, Q, X, nn⟩ := C
  intro H locs ls hl hW hS
  exact va_alen E.1 E.2.1 E.2.2.2.2.2.2.2.2.2.1 (hW.at_ hk hF) 0 t0 rfl ht hv d (kk H locs ls hl hW hS)
theorem zst_i (cA : ClassId) (N k : Nat) (f : Nat → Int32) (x : Int32) : (vp_cell cA (N, .inl f)).setSlot k (.int x) = vp_cell cA (N, .inl (upd f k x)) := by
  rw [vp_cell_i, vp_cell_i, arrV_store]
  refine congrArg (arrV cA N) (funext fun q => ?_)
  by_cases h : q = k
  · rw [updV, if_pos h, upd, if_pos h]
  · rw [updV, if_neg h, upd, if_neg h]
theorem zst_l (cA : ClassId) (N k : Nat) (f : Nat → Int64) (x : Int64) : (vp_cell cA (N, .inr (.inl f))).setSlot k (.long x) = vp_cell cA (N, .inr (.inl (vp_updL f k x))) := by
  rw [vp_cell_l, vp_cell_l, arrV_store]
  refine congrArg (arrV cA N) (funext fun q => ?_)
  by_cases h : q = k
  · rw [updV, if_pos h, vp_updL, if_pos h]
  · rw [updV, if_neg h, vp_updL, if_neg h]
theorem zb_iast {C : zC} {own : String} {cc : ByteArray} {n : Nat} {ret : Option FieldType} {rm : Room} {cs : Nat × Nat} {pc : Nat} {lv : List (Nat × Value)} {st : List Value} {I : Nat → Nat → Int32} {J : Nat → Nat → Int64} {Rr : Nat → Nat → Option Nat} {D : zD} (E : zE C own cc n ret rm) (k : Nat) {N : Nat} (hk : k < 182) (hF : ∀ (X : zX) (i : Nat → Int32) (j : Nat → Int64) (r : Nat → Option Nat), zF X k i j r = .inl (X.2.2.1 0, N, .inl i)) {f : Nat → Int32} (hf : I k = f) {i : Int32} {x : Int32} (hin : vp_in i N) (d : decode cc pc = .ok (.iastore, 1)) {I2 : Nat → Nat → Int32} (hI : va_up I k (upd f i.toNatClampNeg x) = I2) (kk : zB C cs (pc + 1) lv st (I2, J, Rr, D)) : zB C cs pc lv (.int x :: .int i :: .ref (C.X.1 + k) :: st) (I, J, Rr, D) := by
  obtain ⟨p, l, e, R, s, m, args, below, meth, c, Q, X, nn⟩ := C
  intro H locs ls hl hW hS
  subst hf
  subst hI
  have hc : H[X.1 + k]? = some (vp_cell (X.2.2.1 0) (N, .inl (I k))) := hW.at_ hk (hF X _ _ _) 0 _ rfl
  refine W.iast E.1 E.2.1 hc ((E.2.2.2.2.2.2.2.2.2.1.2 0 _ rfl).1 N (fun j => .int (I k j))) (fun q => by cases q) (by show ¬ (i < 0 ∨ (arrV _ _ _).slots.size ≤ _); rw [arrV_size]; exact hin) rfl rfl d fun H1 e1 z oq => ?_
  refine kk H1 _ ls hl (hW.up z oq ?_ (fun j h => ⟨zup_n h, rfl, rfl⟩) hk rfl) (hS.put z oq (Nat.le_add_right _ _))
  show va_at X.2.1 vwCl (X.1 + k, zF X k (va_up I k (upd (I k) i.toNatClampNeg x) k) (J k) (Rr k)) H1
  rw [zup_s, hF]
  show H1[X.1 + k]? = some _
  rw [e1]
  exact congrArg some (zst_i _ _ _ _ _)
theorem zb_cast {C : zC} {own : String} {cc : ByteArray} {n : Nat} {ret : Option FieldType} {rm : Room} {cs : Nat × Nat} {pc : Nat} {lv : List (Nat × Value)} {st : List Value} {I : Nat → Nat → Int32} {J : Nat → Nat → Int64} {Rr : Nat → Nat → Option Nat} {D : zD} (E : zE C own cc n ret rm) (k : Nat) {N : Nat} (hk : k < 182) (hF : ∀ (X : zX) (i : Nat → Int32) (j : Nat → Int64) (r : Nat → Option Nat), zF X k i j r = .inl (X.2.2.1 2, N, .inl i)) {f : Nat → Int32} (hf : I k = f) {i : Int32} {x : Int32} (hin : vp_in i N) (d : decode cc pc = .ok (.castore, 1)) {I2 : Nat → Nat → Int32} (hI : va_up I k (upd f i.toNatClampNeg (vp_nar .char x)) = I2) (kk : zB C cs (pc + 1) lv st (I2, J, Rr, D)) : zB C cs pc lv (.int x :: .int i :: .ref (C.X.1 + k) :: st) (I, J, Rr, D) := by
  obtain ⟨p, l, e, R, s, m, args, below, meth, c, Q, X, nn⟩ := C
  intro H locs ls hl hW hS
  subst hf
  subst hI
  have hc : H[X.1 + k]? = some (vp_cell (X.2.2.1 2) (N, .inl (I k))) := hW.at_ hk (hF X _ _ _) 0 _ rfl
  refine W.cast E.1 E.2.1 hc ((E.2.2.2.2.2.2.2.2.2.1.2 2 _ rfl).1 N (fun j => .int (I k j))) (fun q => by cases q) (by show ¬ (i < 0 ∨ (arrV _ _ _).slots.size ≤ _); rw [arrV_size]; exact hin) rfl rfl d fun H1 e1 z oq => ?_
  refine kk H1 _ ls hl (hW.up z oq ?_ (fun j h => ⟨zup_n h, rfl, rfl⟩) hk rfl) (hS.put z oq (Nat.le_add_right _ _))
  show va_at X.2.1 vwCl (X.1 + k, zF X k (va_up I k (upd (I k) i.toNatClampNeg (vp_nar .char x)) k) (J k) (Rr k)) H1
  rw [zup_s, hF]
  show H1[X.1 + k]? = some _
  rw [e1]
  refine Eq.trans ?_ (congrArg some (zst_i _ _ _ _ _))
  first | rfl | (simp [vp_nar]; done) | (simp [vp_nar]; rfl)
theorem zb_zast {C : zC} {own : String} {cc : ByteArray} {n : Nat} {ret : Option FieldType} {rm : Room} {cs : Nat × Nat} {pc : Nat} {lv : List (Nat × Value)} {st : List Value} {I : Nat → Nat → Int32} {J : Nat → Nat → Int64} {Rr : Nat → Nat → Option Nat} {D : zD} (E : zE C own cc n ret rm) (k : Nat) {N : Nat} (hk : k < 182) (hF : ∀ (X : zX) (i : Nat → Int32) (j : Nat → Int64) (r : Nat → Option Nat), zF X k i j r = .inl (X.2.2.1 3, N, .inl i)) {f : Nat → Int32} (hf : I k = f) {i : Int32} {x : Int32} (hin : vp_in i N) (d : decode cc pc = .ok (.bastore, 1)) {I2 : Nat → Nat → Int32} (hI : va_up I k (upd f i.toNatClampNeg (vp_nar .boolean x)) = I2) (kk : zB C cs (pc + 1) lv st (I2, J, Rr, D)) : zB C cs pc lv (.int x :: .int i :: .ref (C.X.1 + k) :: st) (I, J, Rr, D) := by
  obtain ⟨p, l, e, R, s, m, args, below, meth, c, Q, X, nn⟩ := C
  intro H locs ls hl hW hS
  subst hf
  subst hI
  have hc : H[X.1 + k]? = some (vp_cell (X.2.2.1 3) (N, .inl (I k))) := hW.at_ hk (hF X _ _ _) 0 _ rfl
  refine W.zast E.1 E.2.1 hc ((E.2.2.2.2.2.2.2.2.2.1.2 3 _ rfl).1 N (fun j => .int (I k j))) (fun q => by cases q) (by show ¬ (i < 0 ∨ (arrV _ _ _).slots.size ≤ _); rw [arrV_size]; exact hin) rfl rfl d fun H1 e1 z oq => ?_
  refine kk H1 _ ls hl (hW.up z oq ?_ (fun j h => ⟨zup_n h, rfl, rfl⟩) hk rfl) (hS.put z oq (Nat.le_add_right _ _))
  show va_at X.2.1 vwCl (X.1 + k, zF X k (va_up I k (upd (I k) i.toNatClampNeg (vp_nar .boolean x)) k) (J k) (Rr k)) H1
  rw [zup_s, hF]
  show H1[X.1 + k]? = some _
  rw [e1]
  refine Eq.trans ?_ (congrArg some (zst_i _ _ _ _ _))
  first | rfl | (simp [vp_nar]; done) | (simp [vp_nar]; rfl)
theorem zb_last {C : zC} {own : String} {cc : ByteArray} {n : Nat} {ret : Option FieldType} {rm : Room} {cs : Nat × Nat} {pc : Nat} {lv : List (Nat × Value)} {st : List Value} {I : Nat → Nat → Int32} {J : Nat → Nat → Int64} {Rr : Nat → Nat → Option Nat} {D : zD} (E : zE C own cc n ret rm) (k : Nat) {N : Nat} (hk : k < 182) (hF : ∀ (X : zX) (i : Nat → Int32) (j : Nat → Int64) (r : Nat → Option Nat), zF X k i j r = .inl (X.2.2.1 1, N, .inr (.inl j))) {f : Nat → Int64} (hf : J k = f) {i : Int32} {x : Int64} (hin : vp_in i N) (d : decode cc pc = .ok (.lastore, 1)) {J2 : Nat → Nat → Int64} (hI : va_up J k (vp_updL f i.toNatClampNeg x) = J2) (kk : zB C cs (pc + 1) lv st (I, J2, Rr, D)) : zB C cs pc lv (.long x :: .int i :: .ref (C.X.1 + k) :: st) (I, J, Rr, D) := by
  obtain ⟨p, l, e, R, s, m, args, below, meth, c, Q, X, nn⟩ := C
  intro H locs ls hl hW hS
  subst hf
  subst hI
  have hc : H[X.1 + k]? = some (vp_cell (X.2.2.1 1) (N, .inr (.inl (J k)))) := hW.at_ hk (hF X _ _ _) 0 _ rfl
  refine W.last E.1 E.2.1 hc ((E.2.2.2.2.2.2.2.2.2.1.2 1 _ rfl).1 N (fun j => .long (J k j))) (fun q => by cases q) (by show ¬ (i < 0 ∨ (arrV _ _ _).slots.size ≤ _); rw [arrV_size]; exact hin) rfl rfl d fun H1 e1 z oq => ?_
  refine kk H1 _ ls hl (hW.up z oq ?_ (fun j h => ⟨rfl, zup_n h, rfl⟩) hk rfl) (hS.put z oq (Nat.le_add_right _ _))
  show va_at X.2.1 vwCl (X.1 + k, zF X k (I k) (va_up J k (vp_updL (J k) i.toNatClampNeg x) k) (Rr k)) H1
  rw [zup_s, hF]
  show H1[X.1 + k]? = some _
  rw [e1]
  exact congrArg some (zst_l _ _ _ _ _)
