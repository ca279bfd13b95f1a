set_option maxHeartbeats 400000
set_option maxRecDepth 100000
theorem ze_iconst {C : zC} {own : String} {cc : ByteArray} {n : Nat} {ret : Option FieldType} {rm : Room} {cs : Nat × Nat} {pc : Nat} {lv : List (Nat × Value)} {st : List Value} {S : zeS} {k : Int} (E : zEe C own cc n ret rm) (d : decode cc pc = .ok (.iconst k, 1)) {v : Int32} (hv : Int32.ofInt k = v) (kk : zBe C cs (pc + 1) lv (.int v :: st) S) : zBe C cs pc lv (st) S := by
  obtain ⟨p, l, e, R, s, m, args, below, meth, c, Q, X, nn⟩ := C
  intro H locs ls hl hW hS
  exact lv_iconst E.1.1 E.1.2.1 d hv (kk H locs ls hl hW hS)
theorem ze_bipush {C : zC} {own : String} {cc : ByteArray} {n : Nat} {ret : Option FieldType} {rm : Room} {cs : Nat × Nat} {pc : Nat} {lv : List (Nat × Value)} {st : List Value} {S : zeS} {k : Int} (E : zEe C own cc n ret rm) (d : decode cc pc = .ok (.bipush k, 2)) {v : Int32} (hv : (Int8.ofInt k).toInt32 = v) (kk : zBe C cs (pc + 2) lv (.int v :: st) S) : zBe C cs pc lv (st) S := by
  obtain ⟨p, l, e, R, s, m, args, below, meth, c, Q, X, nn⟩ := C
  intro H locs ls hl hW hS
  exact lv_bipush E.1.1 E.1.2.1 d hv (kk H locs ls hl hW hS)
theorem ze_sipush {C : zC} {own : String} {cc : ByteArray} {n : Nat} {ret : Option FieldType} {rm : Room} {cs : Nat × Nat} {pc : Nat} {lv : List (Nat × Value)} {st : List Value} {S : zeS} {k : Int} (E : zEe C own cc n ret rm) (d : decode cc pc = .ok (.sipush k, 3)) {v : Int32} (hv : (Int16.ofInt k).toInt32 = v) (kk : zBe C cs (pc + 3) lv (.int v :: st) S) : zBe C cs pc lv (st) S := by
  obtain ⟨p, l, e, R, s, m, args, below, meth, c, Q, X, nn⟩ := C
  intro H locs ls hl hW hS
  exact lv_sipush E.1.1 E.1.2.1 d hv (kk H locs ls hl hW hS)
theorem ze_iload_n {C : zC} {own : String} {cc : ByteArray} {n : Nat} {ret : Option FieldType} {rm : Room} {cs : Nat × Nat} {pc : Nat} {lv : List (Nat × Value)} {st : List Value} {S : zeS} (E : zEe C own cc n ret rm) {k : Fin 4} {i : Nat} {x : Int32} (d : decode cc pc = .ok (.iload_n k, 1)) (q : Nat) (hk : lv[q]? = some (i, .int x)) (hi : (k : Nat) = i) (kk : zBe C cs (pc + 1) lv (.int x :: st) S) : zBe C cs pc lv st S := by
  obtain ⟨p, l, e, R, s, m, args, below, meth, c, Q, X, nn⟩ := C
  intro H locs ls hl hW hS
  exact lv_iload_n E.1.1 E.1.2.1 d hi (lv_at hl q hk) (kk H locs ls hl hW hS)
theorem ze_iload {C : zC} {own : String} {cc : ByteArray} {n : Nat} {ret : Option FieldType} {rm : Room} {cs : Nat × Nat} {pc : Nat} {lv : List (Nat × Value)} {st : List Value} {S : zeS} (E : zEe C own cc n ret rm) {i : Nat} {x : Int32} (d : decode cc pc = .ok (.iload i, 2)) (q : Nat) (hk : lv[q]? = some (i, .int x)) (kk : zBe C cs (pc + 2) lv (.int x :: st) S) : zBe C cs pc lv st S := by
  obtain ⟨p, l, e, R, s, m, args, below, meth, c, Q, X, nn⟩ := C
  intro H locs ls hl hW hS
  exact lv_iload E.1.1 E.1.2.1 d (lv_at hl q hk) (kk H locs ls hl hW hS)
theorem ze_istore_n {C : zC} {own : String} {cc : ByteArray} {n : Nat} {ret : Option FieldType} {rm : Room} {cs : Nat × Nat} {pc : Nat} {lv : List (Nat × Value)} {st : List Value} {S : zeS} (E : zEe C own cc n ret rm) {k : Fin 4} {i : Nat} {x : Int32} {lv2 : List (Nat × Value)} (d : decode cc pc = .ok (.istore_n k, 1)) (hi : (k : Nat) = i) (hn : i < n) (hl2 : (i, Value.int x) :: lv.filter (fun q => !(q.1 == i) && !(q.1 + 1 == i && q.2.category == 2)) = lv2) (kk : zBe C cs (pc + 1) lv2 st S) : zBe C cs pc lv (.int x :: st) S := by
  obtain ⟨p, l, e, R, s, m, args, below, meth, c, Q, X, nn⟩ := C
  intro H locs ls hl hW hS
  exact lv_istore_n E.1.1 E.1.2.1 d hi hl (by rw [E.1.2.2.2.1]; exact hn) hl2 (fun ls2 h2 => kk H locs ls2 h2 hW hS)
theorem ze_istore {C : zC} {own : String} {cc : ByteArray} {n : Nat} {ret : Option FieldType} {rm : Room} {cs : Nat × Nat} {pc : Nat} {lv : List (Nat × Value)} {st : List Value} {S : zeS} (E : zEe C own cc n ret rm) {i : Nat} {x : Int32} {lv2 : List (Nat × Value)} (d : decode cc pc = .ok (.istore i, 2)) (hn : i < n) (hl2 : (i, Value.int x) :: lv.filter (fun q => !(q.1 == i) && !(q.1 + 1 == i && q.2.category == 2)) = lv2) (kk : zBe C cs (pc + 2) lv2 st S) : zBe C cs pc lv (.int x :: st) S := by
  obtain ⟨p, l, e, R, s, m, args, below, meth, c, Q, X, nn⟩ := C
  intro H locs ls hl hW hS
  exact lv_istore E.1.1 E.1.2.1 d hl (by rw [E.1.2.2.2.1]; exact hn) hl2 (fun ls2 h2 => kk H locs ls2 h2 hW hS)
theorem ze_aload_n {C : zC} {own : String} {cc : ByteArray} {n : Nat} {ret : Option FieldType} {rm : Room} {cs : Nat × Nat} {pc : Nat} {lv : List (Nat × Value)} {st : List Value} {S : zeS} (E : zEe C own cc n ret rm) {k : Fin 4} {i : Nat} {x : Nat} (d : decode cc pc = .ok (.aload_n k, 1)) (q : Nat) (hk : lv[q]? = some (i, .ref x)) (hi : (k : Nat) = i) (kk : zBe C cs (pc + 1) lv (.ref x :: st) S) : zBe C cs pc lv st S := by
  obtain ⟨p, l, e, R, s, m, args, below, meth, c, Q, X, nn⟩ := C
  intro H locs ls hl hW hS
  exact lv_aload_n E.1.1 E.1.2.1 d hi (lv_at hl q hk) (kk H locs ls hl hW hS)
theorem ze_aload {C : zC} {own : String} {cc : ByteArray} {n : Nat} {ret : Option FieldType} {rm : Room} {cs : Nat × Nat} {pc : Nat} {lv : List (Nat × Value)} {st : List Value} {S : zeS} (E : zEe C own cc n ret rm) {i : Nat} {x : Nat} (d : decode cc pc = .ok (.aload i, 2)) (q : Nat) (hk : lv[q]? = some (i, .ref x)) (kk : zBe C cs (pc + 2) lv (.ref x :: st) S) : zBe C cs pc lv st S := by
  obtain ⟨p, l, e, R, s, m, args, below, meth, c, Q, X, nn⟩ := C
  intro H locs ls hl hW hS
  exact lv_aload E.1.1 E.1.2.1 d (lv_at hl q hk) (kk H locs ls hl hW hS)
theorem ze_astore_n {C : zC} {own : String} {cc : ByteArray} {n : Nat} {ret : Option FieldType} {rm : Room} {cs : Nat × Nat} {pc : Nat} {lv : List (Nat × Value)} {st : List Value} {S : zeS} (E : zEe C own cc n ret rm) {k : Fin 4} {i : Nat} {x : Nat} {lv2 : List (Nat × Value)} (d : decode cc pc = .ok (.astore_n k, 1)) (hi : (k : Nat) = i) (hn : i < n) (hl2 : (i, Value.ref x) :: lv.filter (fun q => !(q.1 == i) && !(q.1 + 1 == i && q.2.category == 2)) = lv2) (kk : zBe C cs (pc + 1) lv2 st S) : zBe C cs pc lv (.ref x :: st) S := by
  obtain ⟨p, l, e, R, s, m, args, below, meth, c, Q, X, nn⟩ := C
  intro H locs ls hl hW hS
  exact lv_astore_n E.1.1 E.1.2.1 d hi hl (by rw [E.1.2.2.2.1]; exact hn) hl2 (fun ls2 h2 => kk H locs ls2 h2 hW hS)
theorem ze_astore {C : zC} {own : String} {cc : ByteArray} {n : Nat} {ret : Option FieldType} {rm : Room} {cs : Nat × Nat} {pc : Nat} {lv : List (Nat × Value)} {st : List Value} {S : zeS} (E : zEe C own cc n ret rm) {i : Nat} {x : Nat} {lv2 : List (Nat × Value)} (d : decode cc pc = .ok (.astore i, 2)) (hn : i < n) (hl2 : (i, Value.ref x) :: lv.filter (fun q => !(q.1 == i) && !(q.1 + 1 == i && q.2.category == 2)) = lv2) (kk : zBe C cs (pc + 2) lv2 st S) : zBe C cs pc lv (.ref x :: st) S := by
  obtain ⟨p, l, e, R, s, m, args, below, meth, c, Q, X, nn⟩ := C
  intro H locs ls hl hW hS
  exact lv_astore E.1.1 E.1.2.1 d hl (by rw [E.1.2.2.2.1]; exact hn) hl2 (fun ls2 h2 => kk H locs ls2 h2 hW hS)
theorem ze_iinc {C : zC} {own : String} {cc : ByteArray} {n : Nat} {ret : Option FieldType} {rm : Room} {cs : Nat × Nat} {pc : Nat} {lv : List (Nat × Value)} {st : List Value} {S : zeS} (E : zEe C own cc n ret rm) {i : Nat} {kc : Int} {x v : Int32} {lv2 : List (Nat × Value)} (d : decode cc pc = .ok (.iinc i kc, 3)) (q : Nat) (hk : lv[q]? = some (i, .int x)) (hv : x + Int32.ofInt kc = v) (hn : i < n) (hl2 : (i, Value.int v) :: lv.filter (fun q => !(q.1 == i) && !(q.1 + 1 == i && q.2.category == 2)) = lv2) (kk : zBe C cs (pc + 3) lv2 st S) : zBe C cs pc lv st S := by
  obtain ⟨p, l, e, R, s, m, args, below, meth, c, Q, X, nn⟩ := C
  intro H locs ls hl hW hS
  exact lv_iinc E.1.1 E.1.2.1 d hl hk hv (by rw [E.1.2.2.2.1]; exact hn) hl2 (fun ls2 h2 => kk H locs ls2 h2 hW hS)
theorem ze_dup {C : zC} {own : String} {cc : ByteArray} {n : Nat} {ret : Option FieldType} {rm : Room} {cs : Nat × Nat} {pc : Nat} {lv : List (Nat × Value)} {st : List Value} {S : zeS} (E : zEe C own cc n ret rm) (d : decode cc pc = .ok (.dup, 1)) {va : Value} (hva : va.category = 1) (kk : zBe C cs (pc + 1) lv (va :: va :: st) S) : zBe C cs pc lv (va :: st) S := by
  obtain ⟨p, l, e, R, s, m, args, below, meth, c, Q, X, nn⟩ := C
  intro H locs ls hl hW hS
  exact lv_dup E.1.1 E.1.2.1 d hva (kk H locs ls hl hW hS)
theorem ze_goto {C : zC} {own : String} {cc : ByteArray} {n : Nat} {ret : Option FieldType} {rm : Room} {cs : Nat × Nat} {pc : Nat} {lv : List (Nat × Value)} {st : List Value} {S : zeS} (E : zEe C own cc n ret rm) {off : Int} {tgt : Nat} (d : decode cc pc = .ok (.goto off, 3)) (ht : (pc : Int) + off = (tgt : Int)) (kk : zBe C cs tgt lv st S) : zBe C cs pc lv st S := by
  obtain ⟨p, l, e, R, s, m, args, below, meth, c, Q, X, nn⟩ := C
  intro H locs ls hl hW hS
  exact lv_goto E.1.1 E.1.2.1 d ht (kk H locs ls hl hW hS)
theorem ze_icmp_lt {C : zC} {own : String} {cc : ByteArray} {n : Nat} {ret : Option FieldType} {rm : Room} {cs : Nat × Nat} {pc : Nat} {lv : List (Nat × Value)} {st : List Value} {S : zeS} (E : zEe C own cc n ret rm) {x y : Int32} {off : Int} {tgt : Nat} (d : decode cc pc = .ok (.if_icmp .lt off, 3)) (ht : (pc : Int) + off = (tgt : Int)) (kt : x < y → zBe C cs tgt lv st S) (kf : ¬ (x < y) → zBe C cs (pc + 3) lv st S) : zBe C cs pc lv (.int y :: .int x :: st) S := by
  obtain ⟨p, l, e, R, s, m, args, below, meth, c, Q, X, nn⟩ := C
  intro H locs ls hl hW hS
  exact lv_icmp_lt E.1.1 E.1.2.1 d ht (fun h => kt h H locs ls hl hW hS) (fun h => kf h H locs ls hl hW hS)
theorem ze_icmp_ge {C : zC} {own : String} {cc : ByteArray} {n : Nat} {ret : Option FieldType} {rm : Room} {cs : Nat × Nat} {pc : Nat} {lv : List (Nat × Value)} {st : List Value} {S : zeS} (E : zEe C own cc n ret rm) {x y : Int32} {off : Int} {tgt : Nat} (d : decode cc pc = .ok (.if_icmp .ge off, 3)) (ht : (pc : Int) + off = (tgt : Int)) (kt : y ≤ x → zBe C cs tgt lv st S) (kf : ¬ (y ≤ x) → zBe C cs (pc + 3) lv st S) : zBe C cs pc lv (.int y :: .int x :: st) S := by
  obtain ⟨p, l, e, R, s, m, args, below, meth, c, Q, X, nn⟩ := C
  intro H locs ls hl hW hS
  exact lv_icmp_ge E.1.1 E.1.2.1 d ht (fun h => kt h H locs ls hl hW hS) (fun h => kf h H locs ls hl hW hS)
theorem ze_ldc {C : zC} {own : String} {cc : ByteArray} {n : Nat} {ret : Option FieldType} {rm : Room} {cs : Nat × Nat} {pc : Nat} {lv : List (Nat × Value)} {st : List Value} {S : zeS} {index : Nat} (E : zEe C own cc n ret rm) (d : decode cc pc = .ok (.ldc index, 2)) {v : Int32} (hw : Cond.constant own index v ∈ zT) (kk : zBe C cs (pc + 2) lv (.int v :: st) S) : zBe C cs pc lv (st) S := by
  obtain ⟨p, l, e, R, s, m, args, below, meth, c, Q, X, nn⟩ := C
  intro H locs ls hl hW hS
  exact lv_ldc E.1.1 E.1.2.1 E.1.2.2.2.2.1 (E.1.2.2.2.2.2.1 _ hw) d (kk H locs ls hl hW hS)
theorem ze_objinit {C : zC} {own : String} {cc : ByteArray} {n : Nat} {ret : Option FieldType} {rm : Room} {cs : Nat × Nat} {pc : Nat} {lv : List (Nat × Value)} {st : List Value} {S : zeS} (E : zEe C own cc n ret rm) {x idx : Nat} (hl : Cond.methodLink own idx Lib.objectInit ∈ zT) (hcat : (st.map fun v => v.category).sum ≤ 8) (hR : 1 ≤ rm.frames ∧ 20 ≤ rm.locals) (d : decode cc pc = .ok (.invokespecial idx, 3)) (kk : zBe C cs (pc + 3) lv st S) : zBe C cs pc lv (.ref x :: st) S := by
  obtain ⟨p, l, e, R, s, m, args, below, meth, c, Q, X, nn⟩ := C
  intro H locs ls hl0 hW hS
  have hR2 : R = rm := E.1.2.2.2.2.2.2.2.2.1
  subst hR2
  exact W.objInit E.1.1 E.1.2.1 E.1.2.2.2.2.1 (E.1.2.2.2.2.2.1 _ hl) (E.1.2.2.2.2.2.1 _ zw_27) (E.1.2.2.2.2.2.1 _ zw_28) rfl (by show ls.size = _; exact hl0.1.trans (E.1.2.2.2.1.trans E.1.2.2.1.symm)) rfl d hR.1 (by show 2 * 0 + _ + 12 ≤ R.locals; have := hR.2; omega) (kk H locs ls hl0 hW hS)
theorem zMve.ofI {l : Launch} {y : MethodName} {cc : ByteArray} {n : Nat} {ret : Option FieldType} {rm : Room} {X : zX} {av : List Value} {S : zeS} {S2 : zeS} (hy : plainName y.cls = true) (hlen : (lg_sl av).length ≤ n) (body : ∀ C : zC, zEe C y.cls cc n ret rm → C.l = l → C.X = X → C.Q = zQve C rm S2 → C.2.2.2.2.2.2.2.2.1.name = y.name → zBe C (0, 0) 0 (lv_args 0 av) [] S) : zMve l y cc n ret rm X av S S2 := by
  refine Met.ofW (cc := cc) (maxL := n) (ret := ret) hy rfl ?_
  intro p e s m args below meth c s₁ B hml hP
  obtain ⟨rfl, hW, hK⟩ := hP
  have hl := lv_entry av (n := n) hlen
  rw [lg_entry_eq]
  refine body (p, l, e, rm, s, m, av.toArray, below, meth, c, MQ below (va_Qv (fun (u : zeS) => u = S2) (zMe X) (zA X)) av.toArray s rm.cells rm.slots (zA X), X, n) ⟨⟨B.exec, B.bytes, hml, rfl, findClass_of_methodNamed B.named, fun w hw => atoms_spec (ws := Cond.code y cc n ret :: zT) B.pre w (List.mem_cons_of_mem _ hw), B.returns, B.notSynchronized, rfl, hK.1⟩, hK.2⟩ rfl rfl rfl (name_of_methodNamed B.named B.method).1 s.heap [] _ hl hW va_S.rf
theorem ze_cIv {C : zC} {own : String} {cc : ByteArray} {n : Nat} {ret : Option FieldType} {rm : Room} {cs : Nat × Nat} {pc : Nat} {lv : List (Nat × Value)} {st : List Value} {S : zeS} (E : zEe C own cc n ret rm) {y : MethodName} {cy : ByteArray} {ny na : Nat} {rm2 : Room} {S2 : zeS} (As : List Value) (b : Nat) (hY : zYi y cy ny na) {index : Nat} (hl : Cond.methodLink own index y ∈ zT) (hM : zMve C.l y cy ny none rm2 C.X (.ref b :: As) S S2) (hR : rm2.frames + 1 ≤ rm.frames ∧ 8 + (ny + 11) + rm2.locals ≤ rm.locals ∧ cs.1 + rm2.cells ≤ rm.cells ∧ cs.2 + rm2.slots ≤ rm.slots) (hn : As.length = na) {stk : List Value} (hst : stk = As.reverse ++ .ref b :: st) (hcat : (st.map fun v => v.category).sum ≤ 8) (d : decode cc pc = .ok (.invokespecial index, 3)) {cs2 : Nat × Nat} (hcs2 : (cs.1 + rm2.cells, cs.2 + rm2.slots) = cs2) (kk : zBe C cs2 (pc + 3) lv st S2) : zBe C cs pc lv stk S := by
  obtain ⟨p, l, e, R, s, m, args, below, meth, c, Q, X, nn⟩ := C
  intro H locs ls hl0 hW hS
  subst hst
  subst hcs2
  obtain ⟨y1, y2, y3, y4, y5⟩ := hY
  have hR2 : R = rm := E.1.2.2.2.2.2.2.2.2.1
  subst hR2
  have run := va_runI (ws := Cond.code y cy ny none :: zT) (H := H) (locs := locs) (cells := cs.1) (slots := cs.2) (l := l) (e := e) (below := below) (meth := meth) (rest := st) (g := F0 m pc ls _) ⟨E.1.1, E.1.2.1, E.1.2.2.1, E.1.2.2.2.2.1, E.1.2.2.2.2.2.1⟩ hM ⟨zcb E.1.2.2.2.2.2.1 y3 y4 y5 hl ⟨hR.1, hR.2.1⟩, y2, E.1.2.2.2.2.2.1 _ y1⟩ ⟨zKe_blind, fun U hU hWm => ⟨rfl, by rw [hU]; exact hW, zKe.to ⟨E.1.2.2.2.2.2.2.2.2.2, E.2⟩ hS hU hWm⟩⟩ rfl hn (hl0.1.trans E.1.2.2.2.1) rfl (by show 2 * 0 + _ ≤ 8; omega) d ⟨hR.2.2.1, hR.2.2.2⟩
  refine va_callv run hS (fun q _ h => h) (fun q h => h) ?_
  intro u t H1 locs1 ht hal hpo hB hz hfr hS1
  obtain rfl := hpo
  exact kk H1 locs1 ls hl0 (by rw [← ht]; exact hB.1) hS1
theorem ze_cINv {C : zC} {own : String} {cc : ByteArray} {n : Nat} {ret : Option FieldType} {rm : Room} {cs : Nat × Nat} {pc : Nat} {lv : List (Nat × Value)} {st : List Value} {S : zeS} (E : zEe C own cc n ret rm) {y : MethodName} {cy : ByteArray} {ny na : Nat} {rm2 : Room} {S2 : zeS} (As : List Value) (b : Nat) (hY : zYi y cy ny na) {index : Nat} {host : String} (hl : Cond.methodLinkNest own index y host ∈ zN) (hM : zMve C.l y cy ny none rm2 C.X (.ref b :: As) S S2) (hR : rm2.frames + 1 ≤ rm.frames ∧ 8 + (ny + 11) + rm2.locals ≤ rm.locals ∧ cs.1 + rm2.cells ≤ rm.cells ∧ cs.2 + rm2.slots ≤ rm.slots) (hn : As.length = na) {stk : List Value} (hst : stk = As.reverse ++ .ref b :: st) (hcat : (st.map fun v => v.category).sum ≤ 8) (d : decode cc pc = .ok (.invokespecial index, 3)) {cs2 : Nat × Nat} (hcs2 : (cs.1 + rm2.cells, cs.2 + rm2.slots) = cs2) (kk : zBe C cs2 (pc + 3) lv st S2) : zBe C cs pc lv stk S := by
  obtain ⟨p, l, e, R, s, m, args, below, meth, c, Q, X, nn⟩ := C
  intro H locs ls hl0 hW hS
  subst hst
  subst hcs2
  obtain ⟨y1, y2, y3, y4, y5⟩ := hY
  have hR2 : R = rm := E.1.2.2.2.2.2.2.2.2.1
  subst hR2
  have run := va_runIN (ws := Cond.code y cy ny none :: zT) (H := H) (locs := locs) (cells := cs.1) (slots := cs.2) (l := l) (e := e) (below := below) (meth := meth) (rest := st) (g := F0 m pc ls _) ⟨E.1.1, E.1.2.1, E.1.2.2.1, E.1.2.2.2.2.1, E.1.2.2.2.2.2.1⟩ hM ⟨zcn E.1.2.2.2.2.2.1 y3 y4 y5 (E.1.2.2.2.2.2.2.2.2.2.2.1 _ hl) ⟨hR.1, hR.2.1⟩, y2, E.1.2.2.2.2.2.1 _ y1⟩ ⟨zKe_blind, fun U hU hWm => ⟨rfl, by rw [hU]; exact hW, zKe.to ⟨E.1.2.2.2.2.2.2.2.2.2, E.2⟩ hS hU hWm⟩⟩ rfl hn (hl0.1.trans E.1.2.2.2.1) rfl (by show 2 * 0 + _ ≤ 8; omega) d ⟨hR.2.2.1, hR.2.2.2⟩
  refine va_callv run hS (fun q _ h => h) (fun q h => h) ?_
  intro u t H1 locs1 ht hal hpo hB hz hfr hS1
  obtain rfl := hpo
  exact kk H1 locs1 ls hl0 (by rw [← ht]; exact hB.1) hS1
theorem ze_vret {C : zC} {own : String} {cc : ByteArray} {n : Nat} {ret : Option FieldType} {rm : Room} {cs : Nat × Nat} {pc : Nat} {lv : List (Nat × Value)} {n0 : Nat} {e : Nat → va_E} (E : zEe C own cc n ret rm) (hQ : C.Q = zQve C rm (n0, e)) (hr : ret = none) (hcs : cs.1 ≤ rm.cells ∧ cs.2 ≤ rm.slots) (d : decode cc pc = .ok (.return_, 1)) : zBe C cs pc lv [] (n0, e) := by
  obtain ⟨p, l, eV, R, s, m, args, below, meth, c, Q, X, nn⟩ := C
  intro H locs ls hl hW hS
  have hQ2 : Q = MQ below (va_Qv (fun (u : zeS) => u = (n0, e)) (zMe X) (zA X)) args s rm.cells rm.slots (zA X) := hQ
  subst hQ2
  refine W.widen hcs.1 hcs.2 ?_
  refine W.vret E.1.1 E.1.2.1 (E.1.2.2.2.2.2.2.1.trans hr) (fun t ht hWm => ?_) hS.2.2 d E.1.2.2.2.2.2.2.2.1
  have hM : zMe X (n0, e) t := ⟨by rw [ht]; exact hW, zKe.to ⟨E.1.2.2.2.2.2.2.2.2.2, E.2⟩ hS ht hWm⟩
  exact ⟨⟨(n0, e), rfl, rfl, hM⟩, hS.F ht⟩
theorem ze_new {C : zC} {own : String} {cc : ByteArray} {n : Nat} {ret : Option FieldType} {rm : Room} {cs : Nat × Nat} {pc : Nat} {lv : List (Nat × Value)} {st : List Value} {n0 : Nat} {e : Nat → va_E} (E : zEe C own cc n ret rm) {index ci N : Nat} {CN : String} {TF : u_T} (ty : Nat → FieldType) (hc : vwCl[ci]? = some (CN, TF, N)) (hcl : Cond.classLink own index CN ∈ zT) (hinst : Cond.instantiable CN N ∈ zT) (hini : Cond.initialized CN ∈ zT) (hin : ∀ w ∈ u_ws CN TF N, w ∈ zT) (hty : ∀ k, k < N → parseFieldDescriptor (TF k).2.2.1 = some (ty k)) {fs : List Value} (hfs : ∀ j, j < N → defaultValue (ty j) = vp_V fs j) (hcs : cs.1 + 1 ≤ rm.cells ∧ cs.2 + N ≤ rm.slots) {c2 : Nat × Nat} (hc2 : (cs.1 + 1, cs.2 + N) = c2) {n2 : Nat} (hn2 : n0 + 1 = n2) (d : decode cc pc = .ok (.new index, 3)) (kk : zBe C c2 (pc + 3) lv (.ref (C.X.1 + n0) :: st) (n2, va_up e n0 (.inr (ci, fs)))) : zBe C cs pc lv st (n0, e) := by
  obtain ⟨p, l, eV, R, s, m, args, below, meth, c, Q, X, nn⟩ := C
  intro H locs ls hl hW hS
  subst hc2
  subst hn2
  have hR2 : R = rm := E.1.2.2.2.2.2.2.2.2.1
  subst hR2
  have hK : va_K X.2.1 vwCl (zty X) s := E.1.2.2.2.2.2.2.2.2.2.1
  have hKn := hK.1 ci _ hc
  have hs : H.size = X.1 + n0 := hW.1
  refine W.newcK E.1.1 E.1.2.1 E.1.2.2.2.2.1 (E.1.2.2.2.2.2.1 _ hcl) (E.1.2.2.2.2.2.1 _ hinst) (E.1.2.2.2.2.2.1 _ hini) rfl d hcs.1 hcs.2 hKn.2.1 hs fun H1 kC hkC e1 z1 o1 => ?_
  have z2 : H1.size = H.size + 1 := by rw [z1, hs]
  have o2 : ∀ q : Nat, q < H.size → H1[q]? = H[q]? := fun q hq => o1 q (by rw [← hs]; exact hq)
  exact kk H1 locs ls hl (hW.gr z2 o2 ⟨_, hc, (u_born ty (fun w hw => E.1.2.2.2.2.2.1 w hw) hin hKn hkC e1 hty).to hfs⟩) (zS_gr hS z2 o2)
