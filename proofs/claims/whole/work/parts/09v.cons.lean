theorem zb_objinit {C : zC} {own : String} {cc : ByteArray} {n : Nat} {ret : Option FieldType} {rm : Room} {cs : Nat × Nat} {pc : Nat} {lv : List (Nat × Value)} {st : List Value} {S : zS} (E : zE C own cc n ret rm) {x idx : Nat} (hl : Cond.methodLink own idx Lib.objectInit ∈ zT) (hcat : (st.map fun v => v.category).sum ≤ 8) (hR : 1 ≤ rm.frames ∧ 20 ≤ rm.locals) (d : decode cc pc = .ok (.invokespecial idx, 3)) (kk : zB C cs (pc + 3) lv st S) : zB C cs pc lv (.ref x :: st) S := by
  obtain ⟨p, l, e, R, s, m, args, below, meth, c, Q, X, nn⟩ := C
  intro H locs ls hl0 hW hS
  have hR2 : R = rm := E.2.2.2.2.2.2.2.2.1
  subst hR2
  exact W.objInit E.1 E.2.1 E.2.2.2.2.1 (E.2.2.2.2.2.1 _ hl) (E.2.2.2.2.2.1 _ zw_27) (E.2.2.2.2.2.1 _ zw_28) rfl (by show ls.size = _; exact hl0.1.trans (E.2.2.2.1.trans E.2.2.1.symm)) rfl d hR.1 (by show 2 * 0 + _ + 12 ≤ R.locals; have := hR.2; omega) (kk H locs ls hl0 hW hS)
theorem zb_dnewS {C : zC} {own : String} {cc : ByteArray} {n : Nat} {ret : Option FieldType} {rm : Room} {cs : Nat × Nat} {pc : Nat} {lv : List (Nat × Value)} {st : List Value} {I : Nat → Nat → Int32} {J : Nat → Nat → Int64} {Rr : Nat → Nat → Option Nat} {D : zD} (E : zE C own cc n ret rm) {index y : Nat} (hcl : Cond.classLink own index RX9 ∈ zT) (hy : some (dN D) = some y) (hcs : cs.1 + 1 ≤ rm.cells ∧ cs.2 + 7 ≤ rm.slots) (d : decode cc pc = .ok (.new index, 3)) (kk : zB C (cs.1 + 1, cs.2 + 7) (pc + 3) lv (.ref (C.X.1 + 182 + y) :: st) (I, J, Rr, dNew D 0)) : zB C cs pc lv st (I, J, Rr, D) := by
  obtain ⟨p, l, e, R, s, m, args, below, meth, c, Q, X, nn⟩ := C
  intro H locs ls hl hW hS
  have hy2 : D.1 = y := Option.some.inj hy
  subst hy2
  have hR2 : R = rm := E.2.2.2.2.2.2.2.2.1
  subst hR2
  have hK : va_K X.2.1 vwCl (zty X) s := E.2.2.2.2.2.2.2.2.2.1
  have hKn := hK.1 9 _ rfl
  have hs : H.size = X.1 + 182 + D.1 := hW.1
  refine W.newcK E.1 E.2.1 E.2.2.2.2.1 (E.2.2.2.2.2.1 _ hcl) (E.2.2.2.2.2.1 _ zw_648) (E.2.2.2.2.2.1 _ zw_15) rfl d hcs.1 hcs.2 hKn.2.1 hs fun H1 kC hkC e1 z1 o1 => ?_
  have hv : zSt (dNew D 0) D.1 = [.int 0, .int 0, .int 0, .int 0, .int 0, .int 0, .int 0] := by
    unfold zSt dNew
    dsimp only
    rw [zup_s]
    all_goals rfl
  have hat : va_at X.2.1 vwCl (H.size, zDe X (dNew D 0) D.1) H1 := by
    rw [hs, zDe_0 (D := dNew D 0) zup_s]
    refine ⟨_, rfl, (u_born tyX9 (fun w hw => E.2.2.2.2.2.1 w hw) zin9 hKn hkC e1 tyX9_ok).to fun j hj => ?_⟩
    rw [hv]
    have hj2 : j < 7 := hj
    obtain rfl | rfl | rfl | rfl | rfl | rfl | rfl : j = 0 ∨ j = 1 ∨ j = 2 ∨ j = 3 ∨ j = 4 ∨ j = 5 ∨ j = 6 := by omega
    all_goals rfl
  exact kk H1 locs ls hl (hW.gr (by rw [z1, hs]) (fun q hq => o1 q (by rw [← hs]; exact hq)) hat (fun j hj => zDe_cg (zup_n (Nat.ne_of_lt hj)) rfl (zup_n (Nat.ne_of_lt hj)) (zup_n (Nat.ne_of_lt hj))) rfl) (zS_gr hS (by rw [z1, hs]) (fun q hq => o1 q (by rw [← hs]; exact hq)))
theorem zb_dnewW {C : zC} {own : String} {cc : ByteArray} {n : Nat} {ret : Option FieldType} {rm : Room} {cs : Nat × Nat} {pc : Nat} {lv : List (Nat × Value)} {st : List Value} {I : Nat → Nat → Int32} {J : Nat → Nat → Int64} {Rr : Nat → Nat → Option Nat} {D : zD} (E : zE C own cc n ret rm) {index y : Nat} (hcl : Cond.classLink own index RX10 ∈ zT) (hy : some (dN D) = some y) (hcs : cs.1 + 1 ≤ rm.cells ∧ cs.2 + 2 ≤ rm.slots) (d : decode cc pc = .ok (.new index, 3)) (kk : zB C (cs.1 + 1, cs.2 + 2) (pc + 3) lv (.ref (C.X.1 + 182 + y) :: st) (I, J, Rr, dNew D 1)) : zB C cs pc lv st (I, J, Rr, D) := by
  obtain ⟨p, l, e, R, s, m, args, below, meth, c, Q, X, nn⟩ := C
  intro H locs ls hl hW hS
  have hy2 : D.1 = y := Option.some.inj hy
  subst hy2
  have hR2 : R = rm := E.2.2.2.2.2.2.2.2.1
  subst hR2
  have hK : va_K X.2.1 vwCl (zty X) s := E.2.2.2.2.2.2.2.2.2.1
  have hKn := hK.1 10 _ rfl
  have hs : H.size = X.1 + 182 + D.1 := hW.1
  refine W.newcK E.1 E.2.1 E.2.2.2.2.1 (E.2.2.2.2.2.1 _ hcl) (E.2.2.2.2.2.1 _ zw_826) (E.2.2.2.2.2.1 _ zw_20) rfl d hcs.1 hcs.2 hKn.2.1 hs fun H1 kC hkC e1 z1 o1 => ?_
  have hv : zWr X (dNew D 1) D.1 = [.null, .null] := by
    unfold zWr dNew
    dsimp only
    rw [zup_s]
    all_goals rfl
  have hat : va_at X.2.1 vwCl (H.size, zDe X (dNew D 1) D.1) H1 := by
    rw [hs, zDe_1 (D := dNew D 1) zup_s]
    refine ⟨_, rfl, (u_born tyX10 (fun w hw => E.2.2.2.2.2.1 w hw) zin10 hKn hkC e1 tyX10_ok).to fun j hj => ?_⟩
    rw [hv]
    have hj2 : j < 2 := hj
    obtain rfl | rfl : j = 0 ∨ j = 1 := by omega
    all_goals rfl
  exact kk H1 locs ls hl (hW.gr (by rw [z1, hs]) (fun q hq => o1 q (by rw [← hs]; exact hq)) hat (fun j hj => zDe_cg (zup_n (Nat.ne_of_lt hj)) rfl (zup_n (Nat.ne_of_lt hj)) (zup_n (Nat.ne_of_lt hj))) rfl) (zS_gr hS (by rw [z1, hs]) (fun q hq => o1 q (by rw [← hs]; exact hq)))
theorem zb_dnewA {C : zC} {own : String} {cc : ByteArray} {n : Nat} {ret : Option FieldType} {rm : Room} {cs : Nat × Nat} {pc : Nat} {lv : List (Nat × Value)} {st : List Value} {I : Nat → Nat → Int32} {J : Nat → Nat → Int64} {Rr : Nat → Nat → Option Nat} {D : zD} (E : zE C own cc n ret rm) {index y : Nat} (hcl : Cond.classLink own index RX9 ∈ zT) (hy : some (dN D) = some y) {k : Int32} (hk : ib k 25 = true) (hcs : cs.1 + 1 ≤ rm.cells ∧ cs.2 + 24 ≤ rm.slots) (d : decode cc pc = .ok (.anewarray index, 3)) (kk : zB C (cs.1 + 1, cs.2 + 24) (pc + 3) lv (.ref (C.X.1 + 182 + y) :: st) (I, J, Rr, dNewA D 2 (ix k))) : zB C cs pc lv (.int k :: st) (I, J, Rr, D) := by
  obtain ⟨p, l, e, R, s, m, args, below, meth, c, Q, X, nn⟩ := C
  intro H locs ls hl hW hS
  have hy2 : D.1 = y := Option.some.inj hy
  subst hy2
  have hR2 : R = rm := E.2.2.2.2.2.2.2.2.1
  subst hR2
  have hK : va_K X.2.1 vwCl (zty X) s := E.2.2.2.2.2.2.2.2.2.1
  have hs : H.size = X.1 + 182 + D.1 := hW.1
  have hlt : k.toNatClampNeg < 25 := ib_lt hk
  have hn : ¬ k < 0 := fun q => ib_in hk (Or.inl q)
  have hAO : va_AO RX9 s := E.2.2.2.2.2.2.2.2.2.2.2.2.2.2
  refine W.anew E.1 E.2.1 E.2.2.2.2.1 (E.2.2.2.2.2.1 _ hcl) (va_AO.use hAO) rfl d rfl hn (by omega) hcs.1 (by have := hcs.2; show cs.2 + k.toNatClampNeg ≤ R.slots; omega) fun cA kA comp f1 f2 f3 f4 => ?_
  obtain ⟨kA2, comp2, r1, r2, r3, r4⟩ := (hK.2 5 _ rfl).2
  have hcA : cA = X.2.2.1 5 := Option.some.inj (f1.symm.trans r4)
  subst hcA
  refine W.widen (Nat.le_refl _) (show cs.2 + k.toNatClampNeg ≤ cs.2 + 24 by omega) ?_
  generalize hH1 : H.push ({ cls := X.2.2.1 5, slots := Array.replicate k.toNatClampNeg .null, vm := .none } : Cell) = H1
  have z1 : H1.size = H.size + 1 := by rw [← hH1, Array.size_push]
  have e1 : H1[H.size]? = some (arrV (X.2.2.1 5) k.toNatClampNeg (fun _ => .null)) := by rw [← hH1, Array.getElem?_push_size, ← arrV_new]
  have o1 : ∀ q : Nat, q < H.size → H1[q]? = H[q]? := fun q hq => by rw [← hH1, Array.getElem?_push, if_neg (Nat.ne_of_lt hq)]
  have hat : va_at X.2.1 vwCl (H.size, zDe X (dNewA D 2 (ix k)) D.1) H1 := by
    rw [zDe_2 (D := dNewA D 2 (ix k)) zup_s]
    show H1[H.size]? = some (vp_cell _ _)
    rw [e1, vp_cell_q]
    unfold dNewA
    dsimp only
    rw [zup_s, zup_s]
    rfl
  rw [hs]
  exact kk H1 locs ls hl (hW.gr z1 o1 hat (fun j hj => zDe_cg (zup_n (Nat.ne_of_lt hj)) (zup_n (Nat.ne_of_lt hj)) (zup_n (Nat.ne_of_lt hj)) (zup_n (Nat.ne_of_lt hj))) rfl) (zS_gr hS z1 o1)
theorem zb_dnewI {C : zC} {own : String} {cc : ByteArray} {n : Nat} {ret : Option FieldType} {rm : Room} {cs : Nat × Nat} {pc : Nat} {lv : List (Nat × Value)} {st : List Value} {I : Nat → Nat → Int32} {J : Nat → Nat → Int64} {Rr : Nat → Nat → Option Nat} {D : zD} (E : zE C own cc n ret rm) {y : Nat} (hy : some (dN D) = some y) {k : Int32} (hk : ib k 600 = true) (hcs : cs.1 + 1 ≤ rm.cells ∧ cs.2 + 600 ≤ rm.slots) (hw : Cond.arrayClass .int ∈ zT) (d : decode cc pc = .ok (.newarray .int, 2)) (kk : zB C (cs.1 + 1, cs.2 + 600) (pc + 2) lv (.ref (C.X.1 + 182 + y) :: st) (I, J, Rr, dNewA D 3 (ix k))) : zB C cs pc lv (.int k :: st) (I, J, Rr, D) := by
  obtain ⟨p, l, e, R, s, m, args, below, meth, c, Q, X, nn⟩ := C
  intro H locs ls hl hW hS
  have hy2 : D.1 = y := Option.some.inj hy
  subst hy2
  have hR2 : R = rm := E.2.2.2.2.2.2.2.2.1
  subst hR2
  have hK : va_K X.2.1 vwCl (zty X) s := E.2.2.2.2.2.2.2.2.2.1
  have hs : H.size = X.1 + 182 + D.1 := hW.1
  have hlt : k.toNatClampNeg < 600 := ib_lt hk
  have hn : ¬ k < 0 := fun q => ib_in hk (Or.inl q)
  refine va_newaK (atype := .int) E.1 E.2.1 (E.2.2.2.2.2.1 _ hw) rfl d rfl hn rfl (by show k.toNatClampNeg * 4 ≤ 536870912; omega) hcs.1 (by have := hcs.2; show cs.2 + k.toNatClampNeg ≤ R.slots; omega) hs fun H1 cA e1 z1 o1 hAr hNm => ?_
  have hcA : cA = X.2.2.1 0 := Option.some.inj (hNm.symm.trans (hK.2 0 _ rfl).2)
  subst hcA
  refine W.widen (Nat.le_refl _) (show cs.2 + k.toNatClampNeg ≤ cs.2 + 600 by omega) ?_
  have hat : va_at X.2.1 vwCl (H.size, zDe X (dNewA D 3 (ix k)) D.1) H1 := by
    rw [zDe_3 (D := dNewA D 3 (ix k)) zup_s, hs]
    show H1[X.1 + 182 + D.1]? = some (vp_cell _ _)
    rw [e1, vp_cell_i]
    unfold dNewA
    dsimp only
    rw [zup_s, zup_s]
    rfl
  exact kk H1 locs ls hl (hW.gr (by rw [z1, hs]) (fun q hq => o1 q (by rw [← hs]; exact hq)) hat (fun j hj => zDe_cg (zup_n (Nat.ne_of_lt hj)) (zup_n (Nat.ne_of_lt hj)) (zup_n (Nat.ne_of_lt hj)) (zup_n (Nat.ne_of_lt hj))) rfl) (zS_gr hS (by rw [z1, hs]) (fun q hq => o1 q (by rw [← hs]; exact hq)))
theorem zb_dcopyI {C : zC} {own : String} {cc : ByteArray} {n : Nat} {ret : Option FieldType} {rm : Room} {cs : Nat × Nat} {pc : Nat} {lv : List (Nat × Value)} {st : List Value} {I : Nat → Nat → Int32} {J : Nat → Nat → Int64} {Rr : Nat → Nat → Option Nat} {D : zD} (E : zE C own cc n ret rm) (k1 : Nat) {N1 : Nat} (hk1 : k1 < 182) (hF1 : ∀ (X : zX) (i : Nat → Int32) (j : Nat → Int64) (r : Nat → Option Nat), zF X k1 i j r = .inl (X.2.2.1 0, N1, .inl i)) {f : Nat → Int32} (hf : I k1 = f) {y : Nat} {sp dp nn : Int32} {D2 : zD} (hyk : y < D.1 ∧ D.2.1 y = 3) (hc : cpok sp N1 dp (D.2.2.1 y) nn = true) (hD : (D.1, D.2.1, D.2.2.1, va_up D.2.2.2.1 y (va_cpy f (D.2.2.2.1 y) (ix sp) (ix dp) (ix nn)), D.2.2.2.2) = D2) {index : Nat} (hl : Cond.methodLink own index arraycopyName ∈ zT) (hR : 1 ≤ rm.frames ∧ 72 ≤ rm.locals) (hcat : (st.map fun v => v.category).sum ≤ 8) (d : decode cc pc = .ok (.invokestatic index, 3)) (kk : zB C cs (pc + 3) lv st (I, J, Rr, D2)) : zB C cs pc lv (.int nn :: .int dp :: .ref (C.X.1 + 182 + y) :: .int sp :: .ref (C.X.1 + k1) :: st) (I, J, Rr, D) := by
  obtain ⟨p, l, e, R, s, m, args, below, meth, c, Q, X, nl⟩ := C
  intro H locs ls hl0 hW hS
  subst hf
  obtain ⟨hy, hkd⟩ := hyk
  subst hD
  have hR2 : R = rm := E.2.2.2.2.2.2.2.2.1
  subst hR2
  obtain ⟨q1, q2, q3, q4, q5⟩ := of_decide_eq_true hc
  obtain ⟨h1, r1⟩ := znn q1
  obtain ⟨h2, r2⟩ := znn q2
  obtain ⟨h3, r3⟩ := znn q3
  have h4 : sp.toNatClampNeg + nn.toNatClampNeg ≤ N1 := by omega
  have h5 : dp.toNatClampNeg + nn.toNatClampNeg ≤ D.2.2.1 y := by omega
  have c1 : H[X.1 + k1]? = some (vp_cell (X.2.2.1 0) (N1, .inl (I k1))) := hW.at_ hk1 (hF1 X _ _ _) 0 _ rfl
  have c2 : H[X.1 + 182 + y]? = some (vp_cell (X.2.2.1 0) (D.2.2.1 y, .inl (D.2.2.2.1 y))) := hW.dat hy (zDe_3 hkd) 0 _ rfl
  have hK : va_K X.2.1 vwCl (zty X) s := E.2.2.2.2.2.2.2.2.2.1
  obtain ⟨-, t1, ht1, cm1, hkk1⟩ := (hK.2 0 _ rfl).1 N1 (fun j => .int (I k1 j))
  obtain ⟨-, t2, ht2, cm2, hkk2⟩ := (hK.2 0 _ rfl).1 (D.2.2.1 y) (fun j => .int (D.2.2.2.1 y j))
  intro T hT XS
  have hw : nativeFrameWords "java/lang/System" "arraycopy" 5 + 11 ≤ 64 := by decide
  obtain ⟨vm', X', step⟩ := XS.arraycopy E.1 E.2.2.2.2.1 (E.2.2.2.2.2.1 _ hl) (E.2.2.2.2.2.1 _ zYcp.1) (E.2.2.2.2.2.1 _ zYcp.2.1) (E.2.2.2.2.2.1 _ zYcp.2.2) (src := X.1 + k1) (dst := X.1 + 182 + y) (cs := vp_cell (X.2.2.1 0) (N1, .inl (I k1))) (cd := vp_cell (X.2.2.1 0) (D.2.2.1 y, .inl (D.2.2.2.1 y))) (srcPos := sp) (destPos := dp) (n := nn) (by rw [hT]; exact c1) (by rw [hT]; exact c2)
    (fun _ h => by cases h) (fun _ h => by cases h) (fun h => by cases h) (fun h => by cases h) ht1 ht2 hkk1 hkk2 (by simp [refKind]) h1 h2 h3
    (by rw [r1, r3]; show ¬ _ > ((arrV _ N1 (fun j => .int (I k1 j))).slots.size : Int); rw [arrV_size]; omega)
    (by rw [r2, r3]; show ¬ _ > ((arrV _ (D.2.2.1 y) (fun j => .int (D.2.2.2.1 y j))).slots.size : Int); rw [arrV_size]; omega)
    (fun vm₁ hal i hi => by
      have e1 : (vp_cell (X.2.2.1 0) (N1, .inl (I k1))).slots.getD (sp.toNatClampNeg + i) .null = .int (I k1 (sp.toNatClampNeg + i)) := by
        show (arrV _ N1 (fun j => .int (I k1 j))).slots.getD _ _ = _
        rw [Array.getD_eq_getD_getElem?, arrV_read _ _ (by omega)]
        rfl
      rw [e1]
      exact ⟨rfl, trivial⟩)
    (g := F0 m pc ls (.int nn :: .int dp :: .ref (X.1 + 182 + y) :: .int sp :: .ref (X.1 + k1) :: st)) rfl (by show ls.size = _; exact hl0.1.trans (E.2.2.2.1.trans E.2.2.1.symm)) (rest := st) rfl (by rw [E.2.1]; exact d) hR.1 (by show 2 * 0 + _ + _ ≤ R.locals; have := hR.2; omega)
  have e1 : copied (vp_cell (X.2.2.1 0) (N1, .inl (I k1))) (vp_cell (X.2.2.1 0) (D.2.2.1 y, .inl (D.2.2.2.1 y))) sp dp nn = vp_cell (X.2.2.1 0) (D.2.2.1 y, .inl (va_cpy (I k1) (D.2.2.2.1 y) sp.toNatClampNeg dp.toNatClampNeg nn.toNatClampNeg)) := va_copied (fun z => .int z) _ _ (I k1) (D.2.2.2.1 y) h4
  rw [e1] at X' step
  have hl1 : X.1 + 182 + y < H.size := (Array.getElem?_eq_some_iff.mp c2).1
  have hheap : ∀ Y : Cell, ((T.setVm vm').setCell (X.1 + 182 + y) Y).heap = H.setIfInBounds (X.1 + 182 + y) Y := fun Y => by rw [← hT]; rfl
  have oq : ∀ (Y : Cell) (q : Nat), q ≠ X.1 + 182 + y → (H.setIfInBounds (X.1 + 182 + y) Y)[q]? = H[q]? := fun Y q hq => by simp [Array.getElem?_setIfInBounds, Ne.symm hq]
  have hat : ∀ Y : Cell, (H.setIfInBounds (X.1 + 182 + y) Y)[X.1 + 182 + y]? = some Y := fun Y => by simp [Array.getElem?_setIfInBounds, hl1]
  obtain ⟨t, b1, b2⟩ := kk _ _ ls hl0 (hW.upD (y := y) (by simp) (oq _) (by
      show va_at X.2.1 vwCl (X.1 + 182 + y, zDe X (D.1, D.2.1, D.2.2.1, va_up D.2.2.2.1 y (va_cpy (I k1) (D.2.2.2.1 y) (ix sp) (ix dp) (ix nn)), D.2.2.2.2) y) _
      rw [zDe_3 (D := (D.1, D.2.1, D.2.2.1, va_up D.2.2.2.1 y (va_cpy (I k1) (D.2.2.2.1 y) (ix sp) (ix dp) (ix nn)), D.2.2.2.2)) hkd]
      refine Eq.trans (hat _) (congrArg some (congrArg (vp_cell _) ?_))
      dsimp only
      rw [zup_s]
      all_goals rfl) (fun j hj => zDe_cg rfl rfl (zup_n hj) rfl) rfl) ⟨by simp; exact hS.1, fun q g1 g2 => by
      rw [oq _ q (fun e => g2 (by rw [e]; show X.1 ≤ X.1 + 182 + y; omega))]
      exact hS.2.1 q g1 g2, fun q hq => by
      rcases List.mem_append.mp hq with h | h
      · exact hS.2.2 q h
      · obtain ⟨z, -, hz⟩ := List.mem_map.mp h
        rw [← hz]
        show X.1 ≤ X.1 + 182 + y
        omega⟩ _ (hheap _) X'
  exact ⟨t, step t b1, b2⟩
theorem zb_dcopyR {C : zC} {own : String} {cc : ByteArray} {n : Nat} {ret : Option FieldType} {rm : Room} {cs : Nat × Nat} {pc : Nat} {lv : List (Nat × Value)} {st : List Value} {I : Nat → Nat → Int32} {J : Nat → Nat → Int64} {Rr : Nat → Nat → Option Nat} {D : zD} (E : zE C own cc n ret rm) (k1 : Nat) {N1 : Nat} (hk1 : k1 < 182) (hF1 : ∀ (X : zX) (i : Nat → Int32) (j : Nat → Int64) (r : Nat → Option Nat), zF X k1 i j r = .inl (X.2.2.1 5, N1, .inr (.inr (.inr (.inr (fun q => zq X (r q))))))) {f : Nat → (Option Nat)} (hf : Rr k1 = f) {y : Nat} {sp dp nn : Int32} {D2 : zD} (hd : dCopy D y f N1 sp dp nn = some D2) {index : Nat} (hl : Cond.methodLink own index arraycopyName ∈ zT) (hR : 1 ≤ rm.frames ∧ 72 ≤ rm.locals) (hcat : (st.map fun v => v.category).sum ≤ 8) (d : decode cc pc = .ok (.invokestatic index, 3)) (kk : zB C cs (pc + 3) lv st (I, J, Rr, D2)) : zB C cs pc lv (.int nn :: .int dp :: .ref (C.X.1 + 182 + y) :: .int sp :: .ref (C.X.1 + k1) :: st) (I, J, Rr, D) := by
  obtain ⟨p, l, e, R, s, m, args, below, meth, c, Q, X, nl⟩ := C
  intro H locs ls hl0 hW hS
  subst hf
  obtain ⟨⟨hy, hkd⟩, hc, hel, hD⟩ := dCopy_s hd
  subst hD
  have hR2 : R = rm := E.2.2.2.2.2.2.2.2.1
  subst hR2
  obtain ⟨q1, q2, q3, q4, q5⟩ := of_decide_eq_true hc
  obtain ⟨h1, r1⟩ := znn q1
  obtain ⟨h2, r2⟩ := znn q2
  obtain ⟨h3, r3⟩ := znn q3
  have h4 : sp.toNatClampNeg + nn.toNatClampNeg ≤ N1 := by omega
  have h5 : dp.toNatClampNeg + nn.toNatClampNeg ≤ D.2.2.1 y := by omega
  have c1 : H[X.1 + k1]? = some (vp_cell (X.2.2.1 5) (N1, .inr (.inr (.inr (.inr (fun q => zq X (Rr k1 q))))))) := hW.at_ hk1 (hF1 X _ _ _) 0 _ rfl
  have c2 : H[X.1 + 182 + y]? = some (vp_cell (X.2.2.1 5) (D.2.2.1 y, .inr (.inr (.inr (.inr (fun q => zq X (D.2.2.2.2 y q))))))) := hW.dat hy (zDe_2 hkd) 0 _ rfl
  have hK : va_K X.2.1 vwCl (zty X) s := E.2.2.2.2.2.2.2.2.2.1
  obtain ⟨-, t1, ht1, cm1, hkk1⟩ := (hK.2 5 _ rfl).1 N1 (fun j => va_rf (zq X (Rr k1 j)))
  obtain ⟨-, t2, ht2, cm2, hkk2⟩ := (hK.2 5 _ rfl).1 (D.2.2.1 y) (fun j => va_rf (zq X (D.2.2.2.2 y j)))
  intro T hT XS
  have hw : nativeFrameWords "java/lang/System" "arraycopy" 5 + 11 ≤ 64 := by decide
  obtain ⟨vm', X', step⟩ := XS.arraycopy E.1 E.2.2.2.2.1 (E.2.2.2.2.2.1 _ hl) (E.2.2.2.2.2.1 _ zYcp.1) (E.2.2.2.2.2.1 _ zYcp.2.1) (E.2.2.2.2.2.1 _ zYcp.2.2) (src := X.1 + k1) (dst := X.1 + 182 + y) (cs := vp_cell (X.2.2.1 5) (N1, .inr (.inr (.inr (.inr (fun q => zq X (Rr k1 q))))))) (cd := vp_cell (X.2.2.1 5) (D.2.2.1 y, .inr (.inr (.inr (.inr (fun q => zq X (D.2.2.2.2 y q))))))) (srcPos := sp) (destPos := dp) (n := nn) (by rw [hT]; exact c1) (by rw [hT]; exact c2)
    (fun _ h => by cases h) (fun _ h => by cases h) (fun h => by cases h) (fun h => by cases h) ht1 ht2 hkk1 hkk2 (by simp [refKind]) h1 h2 h3
    (by rw [r1, r3]; show ¬ _ > ((arrV _ N1 (fun j => va_rf (zq X (Rr k1 j)))).slots.size : Int); rw [arrV_size]; omega)
    (by rw [r2, r3]; show ¬ _ > ((arrV _ (D.2.2.1 y) (fun j => va_rf (zq X (D.2.2.2.2 y j)))).slots.size : Int); rw [arrV_size]; omega)
    (fun vm₁ hal i hi => by
      have e1 : (vp_cell (X.2.2.1 5) (N1, .inr (.inr (.inr (.inr (fun q => zq X (Rr k1 q))))))).slots.getD (sp.toNatClampNeg + i) .null = va_rf (zq X (Rr k1 (sp.toNatClampNeg + i))) := by
        show (arrV _ N1 (fun j => va_rf (zq X (Rr k1 j)))).slots.getD _ _ = _
        rw [Array.getD_eq_getD_getElem?, arrV_read _ _ (by omega)]
        rfl
      rw [e1]
      cases hz : Rr k1 (sp.toNatClampNeg + i) with
      | none => exact ⟨rfl, trivial⟩
      | some a =>
        have ha : dRt D (Rr k1 (ix sp + i)) 0 = true := hel i hi
        have ha2 : dRt D (some a) 0 = true := by rw [← hz]; exact ha
        obtain ⟨g1, g2⟩ := dRt_s ha2
        obtain ⟨r', hr', cellV, m1, m2, m3, -⟩ := (hW.dat g1 (zDe_0 g2)) 0 _ rfl
        have hc9 : vwCl[9]? = some r' := hr'
        have hcls := (hK.1 9 r' hc9).2
        have hn9 : r'.1 = RX9 := by
          have q := (Option.some.inj hc9).symm
          rw [q]
        obtain ⟨kA, comp, k1', k2', k3', -⟩ := (hK.2 5 _ rfl).2
        have hcm : cm2 = X.2.1.1 9 := by
          have w1 := k1'.symm.trans ht2
          cases Option.some.inj w1
          have w2 := k2'.symm.trans hkk2
          cases w2
          exact Option.some.inj (k3'.symm.trans (by rw [← hn9]; exact hcls.1))
        subst hcm
        obtain ⟨kC, hkC, -⟩ := hcls.2
        obtain ⟨kC', hkC', heC⟩ := hal.2.2 _ _ hkC
        refine ⟨rfl, cellV, by show T.heap[X.1 + 182 + a]? = _; rw [hT]; exact m1, (fun q h => by rw [m3] at h; cases h), ⟨kC', by rw [m2]; exact hkC'⟩, ⟨kC', hkC'⟩, ?_⟩
        have hsc : ClassAt (s.setVm vm₁) r'.1 (X.2.1.1 9) := classAt_moved hal hcls
        rw [m2]
        exact va_assign hsc)
    (g := F0 m pc ls (.int nn :: .int dp :: .ref (X.1 + 182 + y) :: .int sp :: .ref (X.1 + k1) :: st)) rfl (by show ls.size = _; exact hl0.1.trans (E.2.2.2.1.trans E.2.2.1.symm)) (rest := st) rfl (by rw [E.2.1]; exact d) hR.1 (by show 2 * 0 + _ + _ ≤ R.locals; have := hR.2; omega)
  have e1 : copied (vp_cell (X.2.2.1 5) (N1, .inr (.inr (.inr (.inr (fun q => zq X (Rr k1 q))))))) (vp_cell (X.2.2.1 5) (D.2.2.1 y, .inr (.inr (.inr (.inr (fun q => zq X (D.2.2.2.2 y q))))))) sp dp nn = vp_cell (X.2.2.1 5) (D.2.2.1 y, .inr (.inr (.inr (.inr (fun q => zq X (va_cpy (Rr k1) (D.2.2.2.2 y) sp.toNatClampNeg dp.toNatClampNeg nn.toNatClampNeg q)))))) := by
    have w := va_copied (fun z => va_rf (zq X z)) (X.2.2.1 5) (X.2.2.1 5) (Rr k1) (D.2.2.2.2 y) (n0 := N1) (n1 := D.2.2.1 y) (sp := sp.toNatClampNeg) (dp := dp.toNatClampNeg) (n := nn.toNatClampNeg) h4
    exact w
  rw [e1] at X' step
  have hl1 : X.1 + 182 + y < H.size := (Array.getElem?_eq_some_iff.mp c2).1
  have hheap : ∀ Y : Cell, ((T.setVm vm').setCell (X.1 + 182 + y) Y).heap = H.setIfInBounds (X.1 + 182 + y) Y := fun Y => by rw [← hT]; rfl
  have oq : ∀ (Y : Cell) (q : Nat), q ≠ X.1 + 182 + y → (H.setIfInBounds (X.1 + 182 + y) Y)[q]? = H[q]? := fun Y q hq => by simp [Array.getElem?_setIfInBounds, Ne.symm hq]
  have hat : ∀ Y : Cell, (H.setIfInBounds (X.1 + 182 + y) Y)[X.1 + 182 + y]? = some Y := fun Y => by simp [Array.getElem?_setIfInBounds, hl1]
  obtain ⟨t, b1, b2⟩ := kk _ _ ls hl0 (hW.upD (y := y) (by simp) (oq _) (by
      show va_at X.2.1 vwCl (X.1 + 182 + y, zDe X (D.1, D.2.1, D.2.2.1, D.2.2.2.1, va_up D.2.2.2.2 y (va_cpy (Rr k1) (D.2.2.2.2 y) (ix sp) (ix dp) (ix nn))) y) _
      rw [zDe_2 (D := (D.1, D.2.1, D.2.2.1, D.2.2.2.1, va_up D.2.2.2.2 y (va_cpy (Rr k1) (D.2.2.2.2 y) (ix sp) (ix dp) (ix nn)))) hkd]
      refine Eq.trans (hat _) (congrArg some (congrArg (vp_cell _) ?_))
      dsimp only
      rw [zup_s]
      all_goals rfl) (fun j hj => zDe_cg rfl rfl rfl (zup_n hj)) rfl) ⟨by simp; exact hS.1, fun q g1 g2 => by
      rw [oq _ q (fun e => g2 (by rw [e]; show X.1 ≤ X.1 + 182 + y; omega))]
      exact hS.2.1 q g1 g2, fun q hq => by
      rcases List.mem_append.mp hq with h | h
      · exact hS.2.2 q h
      · obtain ⟨z, -, hz⟩ := List.mem_map.mp h
        rw [← hz]
        show X.1 ≤ X.1 + 182 + y
        omega⟩ _ (hheap _) X'
  exact ⟨t, step t b1, b2⟩
def zYi (y : MethodName) (cc : ByteArray) (n : Nat) (k : Nat) : Prop := Cond.instanceMethod y ∈ zT ∧ y.name = "<init>" ∧ Cond.initialized y.cls ∈ zT ∧ Cond.code y cc n none ∈ zT ∧ (y.cls ≠ "java/lang/invoke/MethodHandle" ∧ y.cls ≠ "java/lang/invoke/VarHandle" ∧ (parseMethodDescriptor y.desc).map (fun d => d.parameters.length) = some k)
theorem zMv.ofI {l : Launch} {y : MethodName} {cc : ByteArray} {n : Nat} {ret : Option FieldType} {rm : Room} {X : zX} {av : List Value} {S : zS} {S2 : zS} (hy : plainName y.cls = true) (hlen : (lg_sl av).length ≤ n) (body : ∀ C : zC, zE C y.cls cc n ret rm → C.l = l → C.X = X → C.Q = zQv C rm S2 → C.2.2.2.2.2.2.2.2.1.name = y.name → zB C (0, 0) 0 (lv_args 0 av) [] S) : zMv l y cc n ret rm X av S S2 := by
  refine Met.ofW (cc := cc) (maxL := n) (ret := ret) hy rfl ?_
  intro p e s m args below meth c s₁ B hml hP
  obtain ⟨rfl, hW, hK⟩ := hP
  have hl := lv_entry av (n := n) hlen
  rw [lg_entry_eq]
  refine body (p, l, e, rm, s, m, av.toArray, below, meth, c, MQ below (va_Qv (fun (u : zS) => u = S2) (zM X) (zA X)) av.toArray s rm.cells rm.slots (zA X), X, n) ⟨B.exec, B.bytes, hml, rfl, findClass_of_methodNamed B.named, fun w hw => atoms_spec (ws := Cond.code y cc n ret :: zT) B.pre w (List.mem_cons_of_mem _ hw), B.returns, B.notSynchronized, rfl, hK⟩ rfl rfl rfl (name_of_methodNamed B.named B.method).1 s.heap [] _ hl hW va_S.rf
theorem zb_cIv {C : zC} {own : String} {cc : ByteArray} {n : Nat} {ret : Option FieldType} {rm : Room} {cs : Nat × Nat} {pc : Nat} {lv : List (Nat × Value)} {st : List Value} {S : zS} (E : zE C own cc n ret rm) {y : MethodName} {cy : ByteArray} {ny na : Nat} {rm2 : Room} {S2 : zS} (As : List Value) (b : Nat) (hY : zYi y cy ny na) {index : Nat} (hl : Cond.methodLink own index y ∈ zT) (hM : zMv C.l y cy ny none rm2 C.X (.ref b :: As) S S2) (hR : rm2.frames + 1 ≤ rm.frames ∧ 8 + (ny + 11) + rm2.locals ≤ rm.locals ∧ cs.1 + rm2.cells ≤ rm.cells ∧ cs.2 + rm2.slots ≤ rm.slots) (hn : As.length = na) {stk : List Value} (hst : stk = As.reverse ++ .ref b :: st) (hcat : (st.map fun v => v.category).sum ≤ 8) (d : decode cc pc = .ok (.invokespecial index, 3)) {cs2 : Nat × Nat} (hcs2 : (cs.1 + rm2.cells, cs.2 + rm2.slots) = cs2) (kk : zB C cs2 (pc + 3) lv st S2) : zB C cs pc lv stk S := by
  obtain ⟨p, l, e, R, s, m, args, below, meth, c, Q, X, nn⟩ := C
  intro H locs ls hl0 hW hS
  subst hst
  subst hcs2
  obtain ⟨y1, y2, y3, y4, y5⟩ := hY
  have hR2 : R = rm := E.2.2.2.2.2.2.2.2.1
  subst hR2
  have run := va_runI (ws := Cond.code y cy ny none :: zT) (H := H) (locs := locs) (cells := cs.1) (slots := cs.2) (l := l) (e := e) (below := below) (meth := meth) (rest := st) (g := F0 m pc ls _) ⟨E.1, E.2.1, E.2.2.1, E.2.2.2.2.1, E.2.2.2.2.2.1⟩ hM ⟨zcb E.2.2.2.2.2.1 y3 y4 y5 hl ⟨hR.1, hR.2.1⟩, y2, E.2.2.2.2.2.1 _ y1⟩ ⟨zK_blind, fun U hU hWm => ⟨rfl, by rw [hU]; exact hW, zK.to E.2.2.2.2.2.2.2.2.2 hS hU hWm⟩⟩ rfl hn (hl0.1.trans E.2.2.2.1) rfl (by show 2 * 0 + _ ≤ 8; omega) d ⟨hR.2.2.1, hR.2.2.2⟩
  refine va_callv run hS (fun q _ h => h) (fun q h => h) ?_
  intro u t H1 locs1 ht hal hpo hB hz hfr hS1
  obtain rfl := hpo
  exact kk H1 locs1 ls hl0 (by rw [← ht]; exact hB.1) hS1
theorem zb_cINv {C : zC} {own : String} {cc : ByteArray} {n : Nat} {ret : Option FieldType} {rm : Room} {cs : Nat × Nat} {pc : Nat} {lv : List (Nat × Value)} {st : List Value} {S : zS} (E : zE C own cc n ret rm) {y : MethodName} {cy : ByteArray} {ny na : Nat} {rm2 : Room} {S2 : zS} (As : List Value) (b : Nat) (hY : zYi y cy ny na) {index : Nat} {host : String} (hl : Cond.methodLinkNest own index y host ∈ zN) (hM : zMv C.l y cy ny none rm2 C.X (.ref b :: As) S S2) (hR : rm2.frames + 1 ≤ rm.frames ∧ 8 + (ny + 11) + rm2.locals ≤ rm.locals ∧ cs.1 + rm2.cells ≤ rm.cells ∧ cs.2 + rm2.slots ≤ rm.slots) (hn : As.length = na) {stk : List Value} (hst : stk = As.reverse ++ .ref b :: st) (hcat : (st.map fun v => v.category).sum ≤ 8) (d : decode cc pc = .ok (.invokespecial index, 3)) {cs2 : Nat × Nat} (hcs2 : (cs.1 + rm2.cells, cs.2 + rm2.slots) = cs2) (kk : zB C cs2 (pc + 3) lv st S2) : zB C cs pc lv stk S := by
  obtain ⟨p, l, e, R, s, m, args, below, meth, c, Q, X, nn⟩ := C
  intro H locs ls hl0 hW hS
  subst hst
  subst hcs2
  obtain ⟨y1, y2, y3, y4, y5⟩ := hY
  have hR2 : R = rm := E.2.2.2.2.2.2.2.2.1
  subst hR2
  have run := va_runIN (ws := Cond.code y cy ny none :: zT) (H := H) (locs := locs) (cells := cs.1) (slots := cs.2) (l := l) (e := e) (below := below) (meth := meth) (rest := st) (g := F0 m pc ls _) ⟨E.1, E.2.1, E.2.2.1, E.2.2.2.2.1, E.2.2.2.2.2.1⟩ hM ⟨zcn E.2.2.2.2.2.1 y3 y4 y5 (E.2.2.2.2.2.2.2.2.2.2.1 _ hl) ⟨hR.1, hR.2.1⟩, y2, E.2.2.2.2.2.1 _ y1⟩ ⟨zK_blind, fun U hU hWm => ⟨rfl, by rw [hU]; exact hW, zK.to E.2.2.2.2.2.2.2.2.2 hS hU hWm⟩⟩ rfl hn (hl0.1.trans E.2.2.2.1) rfl (by show 2 * 0 + _ ≤ 8; omega) d ⟨hR.2.2.1, hR.2.2.2⟩
  refine va_callv run hS (fun q _ h => h) (fun q h => h) ?_
  intro u t H1 locs1 ht hal hpo hB hz hfr hS1
  obtain rfl := hpo
  exact kk H1 locs1 ls hl0 (by rw [← ht]; exact hB.1) hS1
theorem dJ7_copyOf_59c91_0 : decode cJ7_copyOf_59c91 0 = .ok (.iload_n 1, 1) := by decide +kernel
theorem dJ7_copyOf_59c91_1 : decode cJ7_copyOf_59c91 1 = .ok (.aload_n 0, 1) := by decide +kernel
theorem dJ7_copyOf_59c91_2 : decode cJ7_copyOf_59c91 2 = .ok (.arraylength, 1) := by decide +kernel
theorem dJ7_copyOf_59c91_3 : decode cJ7_copyOf_59c91 3 = .ok (.if_icmp .ne 11, 3) := by decide +kernel
theorem dJ7_copyOf_59c91_6 : decode cJ7_copyOf_59c91 6 = .ok (.aload_n 0, 1) := by decide +kernel
theorem dJ7_copyOf_59c91_7 : decode cJ7_copyOf_59c91 7 = .ok (.invokevirtual 316, 3) := by decide +kernel
theorem dJ7_copyOf_59c91_10 : decode cJ7_copyOf_59c91 10 = .ok (.checkcast 317, 3) := by decide +kernel
theorem dJ7_copyOf_59c91_13 : decode cJ7_copyOf_59c91 13 = .ok (.areturn, 1) := by decide +kernel
theorem dJ7_copyOf_59c91_14 : decode cJ7_copyOf_59c91 14 = .ok (.iload_n 1, 1) := by decide +kernel
theorem dJ7_copyOf_59c91_15 : decode cJ7_copyOf_59c91 15 = .ok (.newarray .int, 2) := by decide +kernel
theorem dJ7_copyOf_59c91_17 : decode cJ7_copyOf_59c91 17 = .ok (.astore_n 2, 1) := by decide +kernel
theorem dJ7_copyOf_59c91_18 : decode cJ7_copyOf_59c91 18 = .ok (.aload_n 0, 1) := by decide +kernel
theorem dJ7_copyOf_59c91_19 : decode cJ7_copyOf_59c91 19 = .ok (.iconst 0, 1) := by decide +kernel
theorem dJ7_copyOf_59c91_20 : decode cJ7_copyOf_59c91 20 = .ok (.aload_n 2, 1) := by decide +kernel
theorem dJ7_copyOf_59c91_21 : decode cJ7_copyOf_59c91 21 = .ok (.iconst 0, 1) := by decide +kernel
theorem dJ7_copyOf_59c91_22 : decode cJ7_copyOf_59c91 22 = .ok (.aload_n 0, 1) := by decide +kernel
theorem dJ7_copyOf_59c91_23 : decode cJ7_copyOf_59c91 23 = .ok (.arraylength, 1) := by decide +kernel
theorem dJ7_copyOf_59c91_24 : decode cJ7_copyOf_59c91 24 = .ok (.iload_n 1, 1) := by decide +kernel
theorem dJ7_copyOf_59c91_25 : decode cJ7_copyOf_59c91 25 = .ok (.invokestatic 304, 3) := by decide +kernel
theorem dJ7_copyOf_59c91_28 : decode cJ7_copyOf_59c91 28 = .ok (.invokestatic 150, 3) := by decide +kernel
theorem dJ7_copyOf_59c91_31 : decode cJ7_copyOf_59c91 31 = .ok (.aload_n 2, 1) := by decide +kernel
theorem dJ7_copyOf_59c91_32 : decode cJ7_copyOf_59c91 32 = .ok (.areturn, 1) := by decide +kernel
theorem zy_J7_copyOf_59c91 : zYs yJ7_copyOf_59c91 cJ7_copyOf_59c91 3 (some (.array .int)) 2 := ⟨zw_834, zw_5, zw_835, by decide, by decide, by decide⟩
theorem zib_ne {k : Int32} (h : ib k 600 = true) : ¬ k = 600 := by
  intro e
  subst e
  revert h
  decide
theorem zmin6 {k : Int32} (h : ib k 600 = true) : m_min 600 k = k := by
  obtain ⟨h1, h2⟩ := of_decide_eq_true h
  have e : (600 : Int32).toInt = 600 := by decide
  have hlt : ¬ (600 : Int32) < k := fun q => by
    have := Int32.lt_iff_toInt_lt.mp q
    omega
  have hne : ¬ (600 : Int32) ≤ k := fun q => by
    have := Int32.le_iff_toInt_le.mp q
    omega
  unfold m_min
  first | exact if_neg hne | exact if_neg hlt | simp [hne, hlt]
theorem c_J7_copyOf_59c91 {l : Launch} {X : zX} {I : Nat → Nat → Int32} {J : Nat → Nat → Int64} {Rr : Nat → Nat → Option Nat} {D : zD} (k : Nat) (hk : k < 182) (hF : ∀ (X : zX) (i : Nat → Int32) (j : Nat → Int64) (r : Nat → Option Nat), zF X k i j r = .inl (X.2.2.1 0, 600, .inl i)) {f : Nat → Int32} (hf : I k = f) {y : Nat} (hy : some (dN D) = some y) {a : Int32} (ha : ib a 600 = true) : zMq l yJ7_copyOf_59c91 cJ7_copyOf_59c91 3 (some (.array .int)) ({ frames := 2, cells := 1, slots := 600, locals := 110 } : Room) X [.ref (X.1 + k), .int a] (I, J, Rr, D) (zq X (some y)) (I, J, Rr, dNewI D (ix a) f) := by
  refine zMq.of (by decide) (Nat.le_of_ble_eq_true rfl) (fun C E hl hX hQ => ?_)
  subst hl
  subst hX
  have hy2 : D.1 = y := Option.some.inj hy
  refine zb_iload_n E dJ7_copyOf_59c91_0 1 rfl rfl ?_
  refine zb_aload_n E dJ7_copyOf_59c91_1 0 rfl rfl ?_
  refine zb_alen E k hk (hF _ _ _ _) 0 rfl (v := 600) rfl dJ7_copyOf_59c91_2 ?_
  refine zb_icmp_ne E dJ7_copyOf_59c91_3 (tgt := 14) rfl (fun hc => ?_) (fun hc => absurd hc (zib_ne ha))
  refine zb_iload_n E dJ7_copyOf_59c91_14 1 rfl rfl ?_
  refine zb_dnewI E hy ha (by decide) zw_45 dJ7_copyOf_59c91_15 ?_
  refine zb_astore_n E dJ7_copyOf_59c91_17 rfl (by decide) (lv2 := [(2, .ref (C.X.1 + 182 + y)), (0, .ref (C.X.1 + k)), (1, .int a)]) rfl ?_
  refine zb_aload_n E dJ7_copyOf_59c91_18 1 rfl rfl ?_
  refine zb_iconst E dJ7_copyOf_59c91_19 (v := 0) rfl ?_
  refine zb_aload_n E dJ7_copyOf_59c91_20 0 rfl rfl ?_
  refine zb_iconst E dJ7_copyOf_59c91_21 (v := 0) rfl ?_
  refine zb_aload_n E dJ7_copyOf_59c91_22 1 rfl rfl ?_
  refine zb_alen E k hk (hF _ _ _ _) 0 rfl (v := 600) rfl dJ7_copyOf_59c91_23 ?_
  refine zb_iload_n E dJ7_copyOf_59c91_24 2 rfl rfl ?_
  refine zb_mmin E zYm_mmin zw_843 (by decide) (by first | decide | simp [Value.category]) dJ7_copyOf_59c91_25 ?_
  refine zb_LS rfl (st2 := [.int a, .int 0, .ref (C.X.1 + 182 + y), .int 0, .ref (C.X.1 + k)]) (by show [Value.int (m_min 600 a), _, _, _, _] = _; rw [zmin6 ha]) ?_
  refine zb_dcopyI E k hk hF hf (D2 := dNewI D (ix a) f) ?_ ?_ ?_ zw_844 (by decide) (by first | decide | simp [Value.category]) dJ7_copyOf_59c91_28 ?_
  · subst hy2
    exact ⟨Nat.lt_succ_self _, zup_s⟩
  · subst hy2
    obtain ⟨h1, h2⟩ := of_decide_eq_true ha
    refine decide_eq_true ⟨by decide, by decide, h1, ?_, ?_⟩
    · have e0 : (0 : Int32).toInt = 0 := by decide
      omega
    · have e0 : (0 : Int32).toInt = 0 := by decide
      have e1 : (dNewA D 3 (ix a)).2.2.1 D.1 = ix a := zup_s
      rw [e1, e0]
      show 0 + a.toInt ≤ ((a.toInt.toNat : Nat) : Int)
      omega
  · subst hy2
    unfold dNewI dNewA
    dsimp only
    rw [zup_s, zn1]
    rfl
  refine zb_aload_n E dJ7_copyOf_59c91_31 0 rfl rfl ?_
  exact zb_qret E hQ rfl (Or.inr ⟨_, rfl⟩) ⟨by decide, by decide⟩ dJ7_copyOf_59c91_32
theorem zb_copyOf {C : zC} {own : String} {cc : ByteArray} {n : Nat} {ret : Option FieldType} {rm : Room} {cs : Nat × Nat} {pc : Nat} {lv : List (Nat × Value)} {st : List Value} {I : Nat → Nat → Int32} {J : Nat → Nat → Int64} {Rr : Nat → Nat → Option Nat} {D : zD} (E : zE C own cc n ret rm) (k : Nat) (hk : k < 182) (hF : ∀ (X : zX) (i : Nat → Int32) (j : Nat → Int64) (r : Nat → Option Nat), zF X k i j r = .inl (X.2.2.1 0, 600, .inl i)) {f : Nat → Int32} (hf : I k = f) {y : Nat} (hy : some (dN D) = some y) {a : Int32} (ha : ib a 600 = true) {index : Nat} (hl : Cond.methodLink own index yJ7_copyOf_59c91 ∈ zT) (hR : 3 ≤ rm.frames ∧ 134 ≤ rm.locals ∧ cs.1 + 1 ≤ rm.cells ∧ cs.2 + 600 ≤ rm.slots) (hcat : (st.map fun v => v.category).sum ≤ 8) (d : decode cc pc = .ok (.invokestatic index, 3)) (kk : zB C (cs.1 + 1, cs.2 + 600) (pc + 3) lv (.ref (C.X.1 + 182 + y) :: st) (I, J, Rr, dNewI D (ix a) f)) : zB C cs pc lv (.int a :: .ref (C.X.1 + k) :: st) (I, J, Rr, D) := by
  exact zb_cSq E [.ref (C.X.1 + k), .int a] zy_J7_copyOf_59c91 hl (c_J7_copyOf_59c91 k hk hF hf hy ha) ⟨hR.1, by have := hR.2.1; show 8 + (3 + 11) + 110 ≤ rm.locals; omega, hR.2.2.1, hR.2.2.2⟩ rfl rfl hcat d rfl kk
