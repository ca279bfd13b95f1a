def zSt (D : zD) (y : Nat) : List Value := [.int (D.2.2.2.1 y 0), .int (D.2.2.2.1 y 1), .int (D.2.2.2.1 y 2), .int (D.2.2.2.1 y 3), .int (D.2.2.2.1 y 4), .int (D.2.2.2.1 y 5), .int (D.2.2.2.1 y 6)]
def zWr (X : zX) (D : zD) (y : Nat) : List Value := [va_rf (zq X (D.2.2.2.2 y 0)), va_rf (zq X (D.2.2.2.2 y 1))]
theorem zDe_0 {X : zX} {D : zD} {y : Nat} (h : D.2.1 y = 0) : zDe X D y = .inr (9, zSt D y) := by
  unfold zDe
  rw [h]
  rfl
theorem zDe_1 {X : zX} {D : zD} {y : Nat} (h : D.2.1 y = 1) : zDe X D y = .inr (10, zWr X D y) := by
  unfold zDe
  rw [h]
  rfl
theorem zDe_2 {X : zX} {D : zD} {y : Nat} (h : D.2.1 y = 2) : zDe X D y = .inl (X.2.2.1 5, D.2.2.1 y, .inr (.inr (.inr (.inr (fun i => zq X (D.2.2.2.2 y i)))))) := by
  unfold zDe
  rw [h]
  rfl
theorem zDe_3 {X : zX} {D : zD} {y : Nat} (h : D.2.1 y = 3) : zDe X D y = .inl (X.2.2.1 0, D.2.2.1 y, .inl (D.2.2.2.1 y)) := by
  unfold zDe
  rw [h]
  rfl
theorem zDe_cg {X : zX} {D D2 : zD} {y : Nat} (h1 : D2.2.1 y = D.2.1 y) (h2 : D2.2.2.1 y = D.2.2.1 y) (h3 : D2.2.2.2.1 y = D.2.2.2.1 y) (h4 : D2.2.2.2.2 y = D.2.2.2.2 y) : zDe X D2 y = zDe X D y := by
  unfold zDe
  rw [h1, h2, h3, h4]
theorem dGI_s {D : Dyn} {y c k : Nat} {v : Int32} (h : dGI D y c k = some v) : (y < D.1 ∧ D.2.1 y = c) ∧ D.2.2.2.1 y k = v := by
  unfold dGI at h
  by_cases g : dOk D y c
  · rw [if_pos g] at h
    exact ⟨g, Option.some.inj h⟩
  · rw [if_neg g] at h
    cases h
theorem dGR_s {D : Dyn} {y c k : Nat} {v : Option Nat} (h : dGR D y c k = some v) : (y < D.1 ∧ D.2.1 y = c) ∧ D.2.2.2.2 y k = v := by
  unfold dGR at h
  by_cases g : dOk D y c
  · rw [if_pos g] at h
    exact ⟨g, Option.some.inj h⟩
  · rw [if_neg g] at h
    cases h
theorem dPI_s {D D2 : Dyn} {y c k : Nat} {x : Int32} (h : dPI D y c k x = some D2) : (y < D.1 ∧ D.2.1 y = c) ∧ (D.1, D.2.1, D.2.2.1, va_up D.2.2.2.1 y (va_up (D.2.2.2.1 y) k x), D.2.2.2.2) = D2 := by
  unfold dPI at h
  by_cases g : dOk D y c
  · rw [if_pos g] at h
    exact ⟨g, Option.some.inj h⟩
  · rw [if_neg g] at h
    cases h
theorem dPR_s {D D2 : Dyn} {y c k : Nat} {x : Option Nat} (h : dPR D y c k x = some D2) : (y < D.1 ∧ D.2.1 y = c) ∧ (D.1, D.2.1, D.2.2.1, D.2.2.2.1, va_up D.2.2.2.2 y (va_up (D.2.2.2.2 y) k x)) = D2 := by
  unfold dPR at h
  by_cases g : dOk D y c
  · rw [if_pos g] at h
    exact ⟨g, Option.some.inj h⟩
  · rw [if_neg g] at h
    cases h
theorem dLen_s {D : Dyn} {y c n : Nat} (h : dLen D y c = some n) : (y < D.1 ∧ D.2.1 y = c) ∧ D.2.2.1 y = n := by
  unfold dLen at h
  by_cases g : dOk D y c
  · rw [if_pos g] at h
    exact ⟨g, Option.some.inj h⟩
  · rw [if_neg g] at h
    cases h
theorem dAI_s {D : Dyn} {y : Nat} {i v : Int32} (h : dAI D y i = some v) : (y < D.1 ∧ D.2.1 y = 3) ∧ ib i (D.2.2.1 y) = true ∧ D.2.2.2.1 y (ix i) = v := by
  unfold dAI at h
  by_cases g : dOk D y 3 ∧ ib i (D.2.2.1 y) = true
  · rw [if_pos g] at h
    exact ⟨g.1, g.2, Option.some.inj h⟩
  · rw [if_neg g] at h
    cases h
theorem dAR_s {D : Dyn} {y : Nat} {i : Int32} {v : Option Nat} (h : dAR D y i = some v) : (y < D.1 ∧ D.2.1 y = 2) ∧ ib i (D.2.2.1 y) = true ∧ D.2.2.2.2 y (ix i) = v := by
  unfold dAR at h
  by_cases g : dOk D y 2 ∧ ib i (D.2.2.1 y) = true
  · rw [if_pos g] at h
    exact ⟨g.1, g.2, Option.some.inj h⟩
  · rw [if_neg g] at h
    cases h
theorem dRt_s {D : Dyn} {y c : Nat} (h : dRt D (some y) c = true) : y < D.1 ∧ D.2.1 y = c := of_decide_eq_true h
theorem dCopy_s {D D2 : Dyn} {y L : Nat} {f : Nat → Option Nat} {sp dp n : Int32} (h : dCopy D y f L sp dp n = some D2) : (y < D.1 ∧ D.2.1 y = 2) ∧ cpok sp L dp (D.2.2.1 y) n = true ∧ (∀ i, i < ix n → dRt D (f (ix sp + i)) 0 = true) ∧ (D.1, D.2.1, D.2.2.1, D.2.2.2.1, va_up D.2.2.2.2 y (va_cpy f (D.2.2.2.2 y) (ix sp) (ix dp) (ix n))) = D2 := by
  unfold dCopy at h
  by_cases g : dOk D y 2 ∧ cpok sp L dp (D.2.2.1 y) n = true ∧ (List.range (ix n)).all (fun i => dRt D (f (ix sp + i)) 0) = true
  · rw [if_pos g] at h
    exact ⟨g.1, g.2.1, fun i hi => List.all_eq_true.mp g.2.2 i (List.mem_range.mpr hi), Option.some.inj h⟩
  · rw [if_neg g] at h
    cases h
theorem opn_s {R : Type} {q : Option Nat} {a : Option R} {f : Nat → Option R} {r : R} (h : opn q a f = some r) : (q = none ∧ a = some r) ∨ ∃ y, q = some y ∧ f y = some r := by
  cases q with
  | none => exact Or.inl ⟨rfl, h⟩
  | some y => exact Or.inr ⟨y, rfl, h⟩
theorem zSt_lt {D : zD} {y k : Nat} (h : k < 7) : k < (zSt D y).length := h
theorem zva_cat (q : Option Nat) : (va_rf q).category = 1 := by
  cases q <;> rfl
theorem zWr_lt {X : zX} {D : zD} {y k : Nat} (h : k < 2) : k < (zWr X D y).length := h
theorem dPI_f {X : zX} {D D2 : Dyn} {y k : Nat} {x : Int32} (h : dPI D y 0 k x = some D2) (hk : k < 7) : y < D.1 ∧ zDe X D y = .inr (9, zSt D y) ∧ zDe X D2 y = .inr (9, (zSt D y).set k (.int x)) ∧ (∀ j, j ≠ y → zDe X D2 j = zDe X D j) ∧ D2.1 = D.1 := by
  obtain ⟨⟨hy, hz⟩, rfl⟩ := dPI_s h
  refine ⟨hy, zDe_0 hz, ?_, fun j hj => zDe_cg rfl rfl (zup_n hj) rfl, rfl⟩
  rw [zDe_0 (D := (D.1, D.2.1, D.2.2.1, va_up D.2.2.2.1 y (va_up (D.2.2.2.1 y) k x), D.2.2.2.2)) hz]
  have e : zSt (D.1, D.2.1, D.2.2.1, va_up D.2.2.2.1 y (va_up (D.2.2.2.1 y) k x), D.2.2.2.2) y = (zSt D y).set k (.int x) := by
    unfold zSt
    dsimp only
    rw [zup_s]
    obtain rfl | rfl | rfl | rfl | rfl | rfl | rfl : k = 0 ∨ k = 1 ∨ k = 2 ∨ k = 3 ∨ k = 4 ∨ k = 5 ∨ k = 6 := by omega
    all_goals rfl
  rw [e]
theorem dPR_f {X : zX} {D D2 : Dyn} {y k : Nat} {x : Option Nat} (h : dPR D y 1 k x = some D2) (hk : k < 2) : y < D.1 ∧ zDe X D y = .inr (10, zWr X D y) ∧ zDe X D2 y = .inr (10, (zWr X D y).set k (va_rf (zq X x))) ∧ (∀ j, j ≠ y → zDe X D2 j = zDe X D j) ∧ D2.1 = D.1 := by
  obtain ⟨⟨hy, hz⟩, rfl⟩ := dPR_s h
  refine ⟨hy, zDe_1 hz, ?_, fun j hj => zDe_cg rfl rfl rfl (zup_n hj), rfl⟩
  rw [zDe_1 (D := (D.1, D.2.1, D.2.2.1, D.2.2.2.1, va_up D.2.2.2.2 y (va_up (D.2.2.2.2 y) k x))) hz]
  have e : zWr X (D.1, D.2.1, D.2.2.1, D.2.2.2.1, va_up D.2.2.2.2 y (va_up (D.2.2.2.2 y) k x)) y = (zWr X D y).set k (va_rf (zq X x)) := by
    unfold zWr
    dsimp only
    rw [zup_s]
    obtain rfl | rfl : k = 0 ∨ k = 1 := by omega
    all_goals rfl
  rw [e]
theorem zb_W {C : zC} {cs cs2 : Nat × Nat} {pc : Nat} {lv : List (Nat × Value)} {st : List Value} {S : zS} (h : cs.1 ≤ cs2.1 ∧ cs.2 ≤ cs2.2) (kk : zB C cs2 pc lv st S) : zB C cs pc lv st S := by
  intro H locs ls hl hW hS
  exact W.widen h.1 h.2 (kk H locs ls hl hW hS)
theorem zix1 {c : Int32} (h : ib c 25 = true) (_ : True) : ix (c + 1) = ix c + 1 := by
  obtain ⟨h1, h2⟩ := of_decide_eq_true h
  have e : (c + 1).toInt = c.toInt + 1 := by
    rw [Int32.toInt_add]
    have e1 : (1 : Int32).toInt = 1 := by decide
    rw [e1]
    exact Int.bmod_eq_of_le (by omega) (by omega)
  show (c + 1).toInt.toNat = c.toInt.toNat + 1
  omega
theorem zW.dat {X : zX} {S : zS} {H : Heap} (h : zW X S H) {j : Nat} (hj : j < S.2.2.2.1) {e : va_E} (he : zDe X S.2.2.2 j = e) : va_P X.2.1 vwCl [(X.1 + 182 + j, e)] H := by
  intro k q hq
  have hk : k < 1 := (List.getElem?_eq_some_iff.mp hq).1
  rw [show k = 0 by omega] at hq
  cases hq
  rw [← he]
  exact h.2.2 j hj
theorem zW.upD {X : zX} {I : Nat → Nat → Int32} {J : Nat → Nat → Int64} {Rr : Nat → Nat → Option Nat} {D D2 : zD} {H H1 : Heap} (h : zW X (I, J, Rr, D) H) {y : Nat} (z : H1.size = H.size) (oq : ∀ q : Nat, q ≠ X.1 + 182 + y → H1[q]? = H[q]?) (hat : va_at X.2.1 vwCl (X.1 + 182 + y, zDe X D2 y) H1) (ho : ∀ j, j ≠ y → zDe X D2 j = zDe X D j) (hn : D2.1 = D.1) : zW X (I, J, Rr, D2) H1 := by
  refine ⟨by show H1.size = X.1 + 182 + D2.1; rw [z, hn]; exact h.1, fun k hk => ?_, fun j hj => ?_⟩
  · exact (h.2.1 k hk).kept (oq _ (fun e => by have e2 : X.1 + k = X.1 + 182 + y := e; omega))
  · by_cases e : j = y
    · subst e
      exact hat
    · show va_at X.2.1 vwCl (X.1 + 182 + j, zDe X D2 j) H1
      rw [ho j e]
      have hj2 : j < D.1 := by rw [← hn]; exact hj
      exact (h.2.2 j hj2).kept (oq _ (fun z => e (by have z2 : X.1 + 182 + j = X.1 + 182 + y := z; omega)))
theorem zW.gr {X : zX} {I : Nat → Nat → Int32} {J : Nat → Nat → Int64} {Rr : Nat → Nat → Option Nat} {D D2 : zD} {H H1 : Heap} (h : zW X (I, J, Rr, D) H) (z : H1.size = H.size + 1) (oq : ∀ q : Nat, q < H.size → H1[q]? = H[q]?) (hat : va_at X.2.1 vwCl (H.size, zDe X D2 D.1) H1) (ho : ∀ j, j < D.1 → zDe X D2 j = zDe X D j) (hn : D2.1 = D.1 + 1) : zW X (I, J, Rr, D2) H1 := by
  have hs : H.size = X.1 + 182 + D.1 := h.1
  refine ⟨by show H1.size = X.1 + 182 + D2.1; omega, fun k hk => ?_, fun j hj => ?_⟩
  · exact (h.2.1 k hk).kept (oq _ (by show X.1 + k < H.size; omega))
  · have hj2 : j < D.1 + 1 := by rw [← hn]; exact hj
    show va_at X.2.1 vwCl (X.1 + 182 + j, zDe X D2 j) H1
    by_cases e : j = D.1
    · subst e
      rw [← hs]
      exact hat
    · have hj3 : j < D.1 := by omega
      rw [ho j hj3]
      exact (h.2.2 j hj3).kept (oq _ (by show X.1 + 182 + j < H.size; omega))
theorem zS_gr {X : zX} {s : State} {H H1 : Heap} {locs : List Loc} (hS : va_S (zA X) s.heap H locs) (z : H1.size = H.size + 1) (oq : ∀ q : Nat, q < H.size → H1[q]? = H[q]?) : va_S (zA X) s.heap H1 locs := ⟨Nat.le_trans hS.1 (by omega), fun q h1 h2 => (oq q (Nat.lt_of_lt_of_le h1 hS.1)).trans (hS.2.1 q h1 h2), hS.2.2⟩
theorem zb_aload_nQ {C : zC} {own : String} {cc : ByteArray} {n : Nat} {ret : Option FieldType} {rm : Room} {cs : Nat × Nat} {pc : Nat} {lv : List (Nat × Value)} {st : List Value} {S : zS} (E : zE C own cc n ret rm) {k : Fin 4} {i : Nat} {x : Option Nat} (d : decode cc pc = .ok (.aload_n k, 1)) (q : Nat) (hk : lv[q]? = some (i, va_rf x)) (hi : (k : Nat) = i) (kk : zB C cs (pc + 1) lv (va_rf x :: st) S) : zB C cs pc lv st S := by
  obtain ⟨p, l, e, R, s, m, args, below, meth, c, Q, X, nn⟩ := C
  intro H locs ls hl hW hS
  cases x with
  | none => exact lv_aload_nN E.1 E.2.1 d hi (lv_at hl q hk) (kk H locs ls hl hW hS)
  | some a => exact lv_aload_n E.1 E.2.1 d hi (lv_at hl q hk) (kk H locs ls hl hW hS)
theorem zb_aloadQ {C : zC} {own : String} {cc : ByteArray} {n : Nat} {ret : Option FieldType} {rm : Room} {cs : Nat × Nat} {pc : Nat} {lv : List (Nat × Value)} {st : List Value} {S : zS} (E : zE C own cc n ret rm) {i : Nat} {x : Option Nat} (d : decode cc pc = .ok (.aload i, 2)) (q : Nat) (hk : lv[q]? = some (i, va_rf x)) (kk : zB C cs (pc + 2) lv (va_rf x :: st) S) : zB C cs pc lv st S := by
  obtain ⟨p, l, e, R, s, m, args, below, meth, c, Q, X, nn⟩ := C
  intro H locs ls hl hW hS
  cases x with
  | none => exact lv_aloadN E.1 E.2.1 d (lv_at hl q hk) (kk H locs ls hl hW hS)
  | some a => exact lv_aload E.1 E.2.1 d (lv_at hl q hk) (kk H locs ls hl hW hS)
theorem zb_astore_nQ {C : zC} {own : String} {cc : ByteArray} {n : Nat} {ret : Option FieldType} {rm : Room} {cs : Nat × Nat} {pc : Nat} {lv : List (Nat × Value)} {st : List Value} {S : zS} (E : zE C own cc n ret rm) {k : Fin 4} {i : Nat} {x : Option Nat} {lv2 : List (Nat × Value)} (d : decode cc pc = .ok (.astore_n k, 1)) (hi : (k : Nat) = i) (hn : i < n) (hl2 : (i, va_rf x) :: lv.filter (fun q => !(q.1 == i) && !(q.1 + 1 == i && q.2.category == 2)) = lv2) (kk : zB C cs (pc + 1) lv2 st S) : zB C cs pc lv (va_rf x :: st) S := by
  obtain ⟨p, l, e, R, s, m, args, below, meth, c, Q, X, nn⟩ := C
  intro H locs ls hl hW hS
  cases x with
  | none => exact lv_astore_nN E.1 E.2.1 d hi hl (by rw [E.2.2.2.1]; exact hn) hl2 (fun ls2 h2 => kk H locs ls2 h2 hW hS)
  | some a => exact lv_astore_n E.1 E.2.1 d hi hl (by rw [E.2.2.2.1]; exact hn) hl2 (fun ls2 h2 => kk H locs ls2 h2 hW hS)
theorem zb_astoreQ {C : zC} {own : String} {cc : ByteArray} {n : Nat} {ret : Option FieldType} {rm : Room} {cs : Nat × Nat} {pc : Nat} {lv : List (Nat × Value)} {st : List Value} {S : zS} (E : zE C own cc n ret rm) {i : Nat} {x : Option Nat} {lv2 : List (Nat × Value)} (d : decode cc pc = .ok (.astore i, 2)) (hn : i < n) (hl2 : (i, va_rf x) :: lv.filter (fun q => !(q.1 == i) && !(q.1 + 1 == i && q.2.category == 2)) = lv2) (kk : zB C cs (pc + 2) lv2 st S) : zB C cs pc lv (va_rf x :: st) S := by
  obtain ⟨p, l, e, R, s, m, args, below, meth, c, Q, X, nn⟩ := C
  intro H locs ls hl hW hS
  cases x with
  | none => exact lv_astoreN E.1 E.2.1 d hl (by rw [E.2.2.2.1]; exact hn) hl2 (fun ls2 h2 => kk H locs ls2 h2 hW hS)
  | some a => exact lv_astore E.1 E.2.1 d hl (by rw [E.2.2.2.1]; exact hn) hl2 (fun ls2 h2 => kk H locs ls2 h2 hW hS)
theorem zb_LS {C : zC} {cs : Nat × Nat} {pc : Nat} {lv lv2 : List (Nat × Value)} {st st2 : List Value} {S : zS} (h1 : lv = lv2) (h2 : st = st2) (kk : zB C cs pc lv2 st2 S) : zB C cs pc lv st S := by
  subst h1
  subst h2
  exact kk
theorem zb_ifnullS {C : zC} {own : String} {cc : ByteArray} {n : Nat} {ret : Option FieldType} {rm : Room} {cs : Nat × Nat} {pc : Nat} {lv : List (Nat × Value)} {st : List Value} {S : zS} (E : zE C own cc n ret rm) {x : Nat} {off : Int} (d : decode cc pc = .ok (.ifnull off, 3)) (kk : zB C cs (pc + 3) lv st S) : zB C cs pc lv (.ref x :: st) S := by
  obtain ⟨p, l, e, R, s, m, args, below, meth, c, Q, X, nn⟩ := C
  intro H locs ls hl hW hS
  exact lv_ifnull E.1 E.2.1 d (kk H locs ls hl hW hS)
theorem zb_ifnullN {C : zC} {own : String} {cc : ByteArray} {n : Nat} {ret : Option FieldType} {rm : Room} {cs : Nat × Nat} {pc : Nat} {lv : List (Nat × Value)} {st : List Value} {S : zS} (E : zE C own cc n ret rm) {off : Int} {tgt : Nat} (d : decode cc pc = .ok (.ifnull off, 3)) (ht : (pc : Int) + off = (tgt : Int)) (kk : zB C cs tgt lv st S) : zB C cs pc lv (.null :: st) S := by
  obtain ⟨p, l, e, R, s, m, args, below, meth, c, Q, X, nn⟩ := C
  intro H locs ls hl hW hS
  exact lv_ifnullN E.1 E.2.1 d ht (kk H locs ls hl hW hS)
theorem zb_ifnonnullS {C : zC} {own : String} {cc : ByteArray} {n : Nat} {ret : Option FieldType} {rm : Room} {cs : Nat × Nat} {pc : Nat} {lv : List (Nat × Value)} {st : List Value} {S : zS} (E : zE C own cc n ret rm) {x : Nat} {off : Int} {tgt : Nat} (d : decode cc pc = .ok (.ifnonnull off, 3)) (ht : (pc : Int) + off = (tgt : Int)) (kk : zB C cs tgt lv st S) : zB C cs pc lv (.ref x :: st) S := by
  obtain ⟨p, l, e, R, s, m, args, below, meth, c, Q, X, nn⟩ := C
  intro H locs ls hl hW hS
  exact lv_ifnonnull E.1 E.2.1 d ht (kk H locs ls hl hW hS)
theorem zb_ifnonnullN {C : zC} {own : String} {cc : ByteArray} {n : Nat} {ret : Option FieldType} {rm : Room} {cs : Nat × Nat} {pc : Nat} {lv : List (Nat × Value)} {st : List Value} {S : zS} (E : zE C own cc n ret rm) {off : Int} (d : decode cc pc = .ok (.ifnonnull off, 3)) (kk : zB C cs (pc + 3) lv st S) : zB C cs pc lv (.null :: st) S := by
  obtain ⟨p, l, e, R, s, m, args, below, meth, c, Q, X, nn⟩ := C
  intro H locs ls hl hW hS
  exact lv_ifnonnullN E.1 E.2.1 d (kk H locs ls hl hW hS)
theorem zb_dget {C : zC} {own : String} {cc : ByteArray} {n : Nat} {ret : Option FieldType} {rm : Room} {cs : Nat × Nat} {pc : Nat} {lv : List (Nat × Value)} {st : List Value} {I : Nat → Nat → Int32} {J : Nat → Nat → Int64} {Rr : Nat → Nat → Option Nat} {D : zD} (E : zE C own cc n ret rm) (y : Nat) {ci N : Nat} {CN : String} {TF : u_T} {fs : List Value} (hy : y < D.1) (hF : zDe C.X D y = .inr (ci, fs)) (hc : vwCl[ci]? = some (CN, TF, N)) (hin : ∀ w ∈ u_ws CN TF N, w ∈ zT) (a : Nat) (ha : a < N) {index : Nat} (hw : Cond.fieldLink own index (TF a).1 (TF a).2.1 (TF a).2.2.1 ∈ zT) {v : Value} (hv : fs[a]? = some v) (d : decode cc pc = .ok (.getfield index, 3)) (kk : zB C cs (pc + 3) lv (v :: st) (I, J, Rr, D)) : zB C cs pc lv (.ref (C.X.1 + 182 + y) :: st) (I, J, Rr, D) := by
  obtain ⟨p, l, e, R, s, m, args, below, meth, c, Q, X, nn⟩ := C
  intro H locs ls hl hW hS
  exact va_get E.1 E.2.1 (Ts := zT) E.2.2.2.2.2.1 hin E.2.2.2.2.1 E.2.2.2.2.2.2.2.2.2.1 (hW.dat hy hF) 0 rfl hc a ha (E.2.2.2.2.2.1 _ hw) (fun _ h => h) hv d (kk H locs ls hl hW hS)
theorem zb_dput {C : zC} {own : String} {cc : ByteArray} {n : Nat} {ret : Option FieldType} {rm : Room} {cs : Nat × Nat} {pc : Nat} {lv : List (Nat × Value)} {st : List Value} {I : Nat → Nat → Int32} {J : Nat → Nat → Int64} {Rr : Nat → Nat → Option Nat} {D : zD} (E : zE C own cc n ret rm) (y : Nat) {ci N : Nat} {CN : String} {TF : u_T} {fs : List Value} (hy : y < D.1) (hF : zDe C.X D y = .inr (ci, fs)) (hc : vwCl[ci]? = some (CN, TF, N)) (hin : ∀ w ∈ u_ws CN TF N, w ∈ zT) (a : Nat) (ha : a < N) {index : Nat} (hw : Cond.fieldLink own index (TF a).1 (TF a).2.1 (TF a).2.2.1 ∈ zT) (ty : Nat → FieldType) (hty : ∀ k, k < N → parseFieldDescriptor (TF k).2.2.1 = some (ty k)) (hnm : ∀ a, a < N → ∀ b, b < N → a ≠ b → (TF a).2.1 ≠ (TF b).2.1) (hfin : (TF a).2.2.2 = false) {v : Value} (hn : narrow (ty a) v = v) (hfit : fits (ty a) v = true) {D2 : zD} (hF2 : zDe C.X D2 y = .inr (ci, fs.set a v)) (hlen : a < fs.length) (ho : ∀ j, j ≠ y → zDe C.X D2 j = zDe C.X D j) (hn2 : D2.1 = D.1) (d : decode cc pc = .ok (.putfield index, 3)) (kk : zB C cs (pc + 3) lv st (I, J, Rr, D2)) : zB C cs pc lv (v :: .ref (C.X.1 + 182 + y) :: st) (I, J, Rr, D) := by
  obtain ⟨p, l, e, R, s, m, args, below, meth, c, Q, X, nn⟩ := C
  intro H locs ls hl hW hS
  have hK : va_K X.2.1 vwCl (zty X) s := E.2.2.2.2.2.2.2.2.2.1
  have hap := va_apart (own := own) (Ts := zT) E.2.2.2.2.2.1 hin ty hty hnm hK hc
  obtain ⟨r, h1, cell, q1, q2, q3, q4⟩ := (hW.dat hy hF) 0 _ rfl
  have hr : r = (CN, TF, N) := Option.some.inj (h1.symm.trans hc)
  subst hr
  obtain ⟨hSl, hfc, kC, hkC, hkind⟩ := hK.1 ci _ hc
  obtain ⟨cf, kf, fi, f, hi, hsl⟩ := hSl a ha
  have hlay := E.2.2.2.2.2.1 _ (hin _ (u_in_lay ha))
  unfold u_lay at hlay
  rw [if_neg (by rw [hfin]; decide)] at hlay
  have hst := (u_facts hfc hkC (Or.inl hlay) hi).1
  have h6 := u_store hfc hkC hkind hlay hi (hty a ha) hn hfit
  refine W.putK E.1 E.2.1 ⟨E.2.2.2.2.1, (E.2.2.2.2.2.1 _ hw), ⟨_, _, _, hi⟩, hst⟩ (by rw [q2]; exact h6) q1 q3 (by rw [hsl]; exact k2_hasslot (q4 a ha)) rfl rfl d fun H1 e1 z oq => ?_
  rw [hsl] at e1 ⊢
  refine kk H1 _ ls hl (hW.upD z oq ?_ ho hn2) (hS.put z oq (by show X.1 ≤ X.1 + 182 + y; omega))
  show va_at X.2.1 vwCl (X.1 + 182 + y, zDe X D2 y) H1
  rw [hF2]
  exact ⟨_, hc, t_OB.to (V := updV (vp_V fs) a v) ⟨_, e1, q2, q3, t_set q4 hap ha v⟩ (fun j _ => vp_updV_set hlen v j)⟩
theorem zb_dputF {C : zC} {own : String} {cc : ByteArray} {n : Nat} {ret : Option FieldType} {rm : Room} {cs : Nat × Nat} {pc : Nat} {lv : List (Nat × Value)} {st : List Value} {I : Nat → Nat → Int32} {J : Nat → Nat → Int64} {Rr : Nat → Nat → Option Nat} {D : zD} (E : zE C own cc n ret rm) (y : Nat) {ci N : Nat} {CN : String} {TF : u_T} {fs : List Value} (hy : y < D.1) (hF : zDe C.X D y = .inr (ci, fs)) (hc : vwCl[ci]? = some (CN, TF, N)) (hin : ∀ w ∈ u_ws CN TF N, w ∈ zT) (a : Nat) (ha : a < N) {index : Nat} (hw : Cond.fieldLink own index (TF a).1 (TF a).2.1 (TF a).2.2.1 ∈ zT) (ty : Nat → FieldType) (hty : ∀ k, k < N → parseFieldDescriptor (TF k).2.2.1 = some (ty k)) (hnm : ∀ a, a < N → ∀ b, b < N → a ≠ b → (TF a).2.1 ≠ (TF b).2.1) (hfin : (TF a).2.2.2 = true) (hin2 : C.2.2.2.2.2.2.2.2.1.name = "<init>") (hdecl : (TF a).1 = own) {v : Value} (hn : narrow (ty a) v = v) (hfit : fits (ty a) v = true) {D2 : zD} (hF2 : zDe C.X D2 y = .inr (ci, fs.set a v)) (hlen : a < fs.length) (ho : ∀ j, j ≠ y → zDe C.X D2 j = zDe C.X D j) (hn2 : D2.1 = D.1) (d : decode cc pc = .ok (.putfield index, 3)) (kk : zB C cs (pc + 3) lv st (I, J, Rr, D2)) : zB C cs pc lv (v :: .ref (C.X.1 + 182 + y) :: st) (I, J, Rr, D) := by
  obtain ⟨p, l, e, R, s, m, args, below, meth, c, Q, X, nn⟩ := C
  intro H locs ls hl hW hS
  have hK : va_K X.2.1 vwCl (zty X) s := E.2.2.2.2.2.2.2.2.2.1
  have hap := va_apart (own := own) (Ts := zT) E.2.2.2.2.2.1 hin ty hty hnm hK hc
  obtain ⟨r, h1, cell, q1, q2, q3, q4⟩ := (hW.dat hy hF) 0 _ rfl
  have hr : r = (CN, TF, N) := Option.some.inj (h1.symm.trans hc)
  subst hr
  obtain ⟨hSl, hfc, kC, hkC, hkind⟩ := hK.1 ci _ hc
  obtain ⟨cf, kf, fi, f, hi, hsl⟩ := hSl a ha
  have hlay := E.2.2.2.2.2.1 _ (hin _ (u_in_lay ha))
  unfold u_lay at hlay
  rw [if_pos hfin] at hlay
  have hst := (u_facts hfc hkC (Or.inr hlay) hi).1
  have h6 := u_fits hfc hkC hkind (Or.inr hlay) hi (hty a ha) hn hfit
  have hcf : m.cls = cf := by
    obtain ⟨_, _, c', _, _, _, -, -, hf', -, -, -, hown2, -⟩ := Cond.laysFinal_spec hlay
    have e1 : c' = cf := by have := hi.symm.trans hf'; simp at this; exact this.1.symm
    rw [hdecl] at hown2
    rw [← e1]; exact Option.some.inj (E.2.2.2.2.1.symm.trans hown2)
  refine W.putFinK E.1 E.2.1 E.2.2.2.2.1 (E.2.2.2.2.2.1 _ hw) hi hst hcf hin2 (by rw [q2]; exact h6) q1 q3 (by rw [hsl]; exact k2_hasslot (q4 a ha)) rfl rfl d fun H1 e1 z oq => ?_
  rw [hsl] at e1 ⊢
  refine kk H1 _ ls hl (hW.upD z oq ?_ ho hn2) (hS.put z oq (by show X.1 ≤ X.1 + 182 + y; omega))
  show va_at X.2.1 vwCl (X.1 + 182 + y, zDe X D2 y) H1
  rw [hF2]
  exact ⟨_, hc, t_OB.to (V := updV (vp_V fs) a v) ⟨_, e1, q2, q3, t_set q4 hap ha v⟩ (fun j _ => vp_updV_set hlen v j)⟩
theorem zb_dgetN {C : zC} {own : String} {cc : ByteArray} {n : Nat} {ret : Option FieldType} {rm : Room} {cs : Nat × Nat} {pc : Nat} {lv : List (Nat × Value)} {st : List Value} {I : Nat → Nat → Int32} {J : Nat → Nat → Int64} {Rr : Nat → Nat → Option Nat} {D : zD} (E : zE C own cc n ret rm) (y : Nat) {ci N : Nat} {CN : String} {TF : u_T} {fs : List Value} (hy : y < D.1) (hF : zDe C.X D y = .inr (ci, fs)) (hc : vwCl[ci]? = some (CN, TF, N)) (hin : ∀ w ∈ u_ws CN TF N, w ∈ zT) (a : Nat) (ha : a < N) {index : Nat} {host : String} (hw : Cond.fieldLinkNest own index (TF a).1 (TF a).2.1 (TF a).2.2.1 host ∈ zN) {v : Value} (hv : fs[a]? = some v) (d : decode cc pc = .ok (.getfield index, 3)) (kk : zB C cs (pc + 3) lv (v :: st) (I, J, Rr, D)) : zB C cs pc lv (.ref (C.X.1 + 182 + y) :: st) (I, J, Rr, D) := by
  obtain ⟨p, l, e, R, s, m, args, below, meth, c, Q, X, nn⟩ := C
  intro H locs ls hl hW hS
  exact va_getN E.1 E.2.1 (Ts := zT) E.2.2.2.2.2.1 hin E.2.2.2.2.1 E.2.2.2.2.2.2.2.2.2.1 (hW.dat hy hF) 0 rfl hc a ha (va_Nw.use (by rfl) (E.2.2.2.2.2.2.2.2.2.2.1 _ hw)) (fun _ h => h) hv d (kk H locs ls hl hW hS)
theorem zb_dputN {C : zC} {own : String} {cc : ByteArray} {n : Nat} {ret : Option FieldType} {rm : Room} {cs : Nat × Nat} {pc : Nat} {lv : List (Nat × Value)} {st : List Value} {I : Nat → Nat → Int32} {J : Nat → Nat → Int64} {Rr : Nat → Nat → Option Nat} {D : zD} (E : zE C own cc n ret rm) (y : Nat) {ci N : Nat} {CN : String} {TF : u_T} {fs : List Value} (hy : y < D.1) (hF : zDe C.X D y = .inr (ci, fs)) (hc : vwCl[ci]? = some (CN, TF, N)) (hin : ∀ w ∈ u_ws CN TF N, w ∈ zT) (a : Nat) (ha : a < N) {index : Nat} {host : String} (hw : Cond.fieldLinkNest own index (TF a).1 (TF a).2.1 (TF a).2.2.1 host ∈ zN) (ty : Nat → FieldType) (hty : ∀ k, k < N → parseFieldDescriptor (TF k).2.2.1 = some (ty k)) (hnm : ∀ a, a < N → ∀ b, b < N → a ≠ b → (TF a).2.1 ≠ (TF b).2.1) (hfin : (TF a).2.2.2 = false) {v : Value} (hn : narrow (ty a) v = v) (hfit : fits (ty a) v = true) {D2 : zD} (hF2 : zDe C.X D2 y = .inr (ci, fs.set a v)) (hlen : a < fs.length) (ho : ∀ j, j ≠ y → zDe C.X D2 j = zDe C.X D j) (hn2 : D2.1 = D.1) (d : decode cc pc = .ok (.putfield index, 3)) (kk : zB C cs (pc + 3) lv st (I, J, Rr, D2)) : zB C cs pc lv (v :: .ref (C.X.1 + 182 + y) :: st) (I, J, Rr, D) := by
  obtain ⟨p, l, e, R, s, m, args, below, meth, c, Q, X, nn⟩ := C
  intro H locs ls hl hW hS
  have hK : va_K X.2.1 vwCl (zty X) s := E.2.2.2.2.2.2.2.2.2.1
  have hap := va_apart (own := own) (Ts := zT) E.2.2.2.2.2.1 hin ty hty hnm hK hc
  obtain ⟨r, h1, cell, q1, q2, q3, q4⟩ := (hW.dat hy hF) 0 _ rfl
  have hr : r = (CN, TF, N) := Option.some.inj (h1.symm.trans hc)
  subst hr
  obtain ⟨hSl, hfc, kC, hkC, hkind⟩ := hK.1 ci _ hc
  obtain ⟨cf, kf, fi, f, hi, hsl⟩ := hSl a ha
  have hlay := E.2.2.2.2.2.1 _ (hin _ (u_in_lay ha))
  unfold u_lay at hlay
  rw [if_neg (by rw [hfin]; decide)] at hlay
  have hst := (u_facts hfc hkC (Or.inl hlay) hi).1
  have h6 := u_store hfc hkC hkind hlay hi (hty a ha) hn hfit
  refine va_WputK E.1 E.2.1 E.2.2.2.2.1 (va_Nw.use (by rfl) (E.2.2.2.2.2.2.2.2.2.2.1 _ hw)) hi hst (by rw [q2]; exact h6) q1 q3 (by rw [hsl]; exact k2_hasslot (q4 a ha)) rfl rfl d fun H1 e1 z oq => ?_
  rw [hsl] at e1 ⊢
  refine kk H1 _ ls hl (hW.upD z oq ?_ ho hn2) (hS.put z oq (by show X.1 ≤ X.1 + 182 + y; omega))
  show va_at X.2.1 vwCl (X.1 + 182 + y, zDe X D2 y) H1
  rw [hF2]
  exact ⟨_, hc, t_OB.to (V := updV (vp_V fs) a v) ⟨_, e1, q2, q3, t_set q4 hap ha v⟩ (fun j _ => vp_updV_set hlen v j)⟩
theorem zb_dald {C : zC} {own : String} {cc : ByteArray} {n : Nat} {ret : Option FieldType} {rm : Room} {cs : Nat × Nat} {pc : Nat} {lv : List (Nat × Value)} {st : List Value} {I : Nat → Nat → Int32} {J : Nat → Nat → Int64} {Rr : Nat → Nat → Option Nat} {D : zD} (E : zE C own cc n ret rm) {y : Nat} {i v : Int32} (h : dAI D y i = some v) (d : decode cc pc = .ok (.iaload, 1)) (kk : zB C cs (pc + 1) lv (.int v :: st) (I, J, Rr, D)) : zB C cs pc lv (.int i :: .ref (C.X.1 + 182 + y) :: st) (I, J, Rr, D) := by
  obtain ⟨p, l, e, R, s, m, args, below, meth, c, Q, X, nn⟩ := C
  intro H locs ls hl hW hS
  obtain ⟨⟨hy, hk⟩, hb, hv⟩ := dAI_s h
  subst hv
  exact va_iald E.1 E.2.1 E.2.2.2.2.2.2.2.2.2.1 (hW.dat hy (zDe_3 hk)) 0 0 rfl rfl (ib_in hb) d (kk H locs ls hl hW hS)
theorem zb_drld {C : zC} {own : String} {cc : ByteArray} {n : Nat} {ret : Option FieldType} {rm : Room} {cs : Nat × Nat} {pc : Nat} {lv : List (Nat × Value)} {st : List Value} {I : Nat → Nat → Int32} {J : Nat → Nat → Int64} {Rr : Nat → Nat → Option Nat} {D : zD} (E : zE C own cc n ret rm) {y : Nat} {i : Int32} {v : Option Nat} (h : dAR D y i = some v) (d : decode cc pc = .ok (.aaload, 1)) (kk : zB C cs (pc + 1) lv (va_rf (zq C.X v) :: st) (I, J, Rr, D)) : zB C cs pc lv (.int i :: .ref (C.X.1 + 182 + y) :: st) (I, J, Rr, D) := by
  obtain ⟨p, l, e, R, s, m, args, below, meth, c, Q, X, nn⟩ := C
  intro H locs ls hl hW hS
  obtain ⟨⟨hy, hk⟩, hb, hv⟩ := dAR_s h
  subst hv
  exact va_aldq E.1 E.2.1 E.2.2.2.2.2.2.2.2.2.1 (hW.dat hy (zDe_2 hk)) 0 5 rfl rfl (ib_in hb) d (kk H locs ls hl hW hS)
theorem zb_dlenI {C : zC} {own : String} {cc : ByteArray} {n : Nat} {ret : Option FieldType} {rm : Room} {cs : Nat × Nat} {pc : Nat} {lv : List (Nat × Value)} {st : List Value} {I : Nat → Nat → Int32} {J : Nat → Nat → Int64} {Rr : Nat → Nat → Option Nat} {D : zD} (E : zE C own cc n ret rm) {y n2 : Nat} (h : dLen D y 3 = some n2) (d : decode cc pc = .ok (.arraylength, 1)) (kk : zB C cs (pc + 1) lv (.int (Int32.ofNat n2) :: st) (I, J, Rr, D)) : zB C cs pc lv (.ref (C.X.1 + 182 + y) :: st) (I, J, Rr, D) := by
  obtain ⟨p, l, e, R, s, m, args, below, meth, c, Q, X, nn⟩ := C
  intro H locs ls hl hW hS
  obtain ⟨⟨hy, hk⟩, hv⟩ := dLen_s h
  subst hv
  exact va_alen E.1 E.2.1 E.2.2.2.2.2.2.2.2.2.1 (hW.dat hy (zDe_3 hk)) 0 0 rfl rfl rfl d (kk H locs ls hl hW hS)
theorem zb_dlenR {C : zC} {own : String} {cc : ByteArray} {n : Nat} {ret : Option FieldType} {rm : Room} {cs : Nat × Nat} {pc : Nat} {lv : List (Nat × Value)} {st : List Value} {I : Nat → Nat → Int32} {J : Nat → Nat → Int64} {Rr : Nat → Nat → Option Nat} {D : zD} (E : zE C own cc n ret rm) {y n2 : Nat} (h : dLen D y 2 = some n2) (d : decode cc pc = .ok (.arraylength, 1)) (kk : zB C cs (pc + 1) lv (.int (Int32.ofNat n2) :: st) (I, J, Rr, D)) : zB C cs pc lv (.ref (C.X.1 + 182 + y) :: st) (I, J, Rr, D) := by
  obtain ⟨p, l, e, R, s, m, args, below, meth, c, Q, X, nn⟩ := C
  intro H locs ls hl hW hS
  obtain ⟨⟨hy, hk⟩, hv⟩ := dLen_s h
  subst hv
  exact va_alen E.1 E.2.1 E.2.2.2.2.2.2.2.2.2.1 (hW.dat hy (zDe_2 hk)) 0 5 rfl rfl rfl d (kk H locs ls hl hW hS)
theorem zb_raldS {C : zC} {own : String} {cc : ByteArray} {n : Nat} {ret : Option FieldType} {rm : Room} {cs : Nat × Nat} {pc : Nat} {lv : List (Nat × Value)} {st : List Value} {I : Nat → Nat → Int32} {J : Nat → Nat → Int64} {Rr : Nat → Nat → Option Nat} {D : zD} (E : zE C own cc n ret rm) (k : Nat) {N : Nat} (hk : k < 182) (hF : ∀ (X : zX) (i : Nat → Int32) (j : Nat → Int64) (r : Nat → Option Nat), zF X k i j r = .inl (X.2.2.1 5, N, .inr (.inr (.inr (.inr (fun q => zq X (r q))))))) {f : Nat → Option Nat} (hf : Rr k = f) {i : Int32} (hin : vp_in i N) (d : decode cc pc = .ok (.aaload, 1)) (kk : zB C cs (pc + 1) lv (va_rf (zq C.X (f i.toNatClampNeg)) :: st) (I, J, Rr, D)) : zB C cs pc lv (.int i :: .ref (C.X.1 + k) :: st) (I, J, Rr, D) := by
  obtain ⟨p, l, e, R, s, m, args, below, meth, c, Q, X, nn⟩ := C
  intro H locs ls hl hW hS
  subst hf
  exact va_aldq E.1 E.2.1 E.2.2.2.2.2.2.2.2.2.1 (hW.at_ hk (hF X _ _ _)) 0 5 rfl rfl hin d (kk H locs ls hl hW hS)
theorem zb_rastS {C : zC} {own : String} {cc : ByteArray} {n : Nat} {ret : Option FieldType} {rm : Room} {cs : Nat × Nat} {pc : Nat} {lv : List (Nat × Value)} {st : List Value} {I : Nat → Nat → Int32} {J : Nat → Nat → Int64} {Rr : Nat → Nat → Option Nat} {D : zD} (E : zE C own cc n ret rm) (k : Nat) {N : Nat} (hk : k < 182) (hF : ∀ (X : zX) (i : Nat → Int32) (j : Nat → Int64) (r : Nat → Option Nat), zF X k i j r = .inl (X.2.2.1 5, N, .inr (.inr (.inr (.inr (fun q => zq X (r q))))))) {f : Nat → Option Nat} (hf : Rr k = f) {i : Int32} {x : Option Nat} (hx : dRt D x 0 = true) (hin : vp_in i N) (d : decode cc pc = .ok (.aastore, 1)) {R2 : Nat → Nat → Option Nat} (hI : va_up Rr k (va_up f i.toNatClampNeg x) = R2) (kk : zB C cs (pc + 1) lv st (I, J, R2, D)) : zB C cs pc lv (va_rf (zq C.X x) :: .int i :: .ref (C.X.1 + k) :: st) (I, J, Rr, D) := by
  obtain ⟨p, l, e, R, s, m, args, below, meth, c, Q, X, nn⟩ := C
  intro H locs ls hl hW hS
  subst hf
  subst hI
  have hK : va_K X.2.1 vwCl (zty X) s := E.2.2.2.2.2.2.2.2.2.1
  have hlt : i.toNatClampNeg < N := Nat.not_le.mp fun q => hin (Or.inr q)
  have h0 : ¬ i < 0 := fun q => hin (Or.inl q)
  have hP := hW.at_ hk (hF X _ _ _)
  have hfin : ∀ H1 : Heap, H1[X.1 + k]? = some ((vp_cell (X.2.2.1 5) (N, .inr (.inr (.inr (.inr (fun q => zq X (Rr k q))))))).setSlot i.toNatClampNeg (va_rf (zq X x))) → va_at X.2.1 vwCl (X.1 + k, zF X k (I k) (J k) (va_up Rr k (va_up (Rr k) i.toNatClampNeg x) k)) H1 := by
    intro H1 e1
    rw [zup_s, hF]
    show H1[X.1 + k]? = some (vp_cell _ _)
    rw [e1, vp_cell_q, vp_cell_q, arrV_store]
    congr 2
    funext q
    by_cases hq : q = i.toNatClampNeg
    · subst hq
      rw [updV, if_pos rfl, zup_s]
    · rw [updV, if_neg hq, zup_n hq]
  cases x with
  | none =>
    refine va_WaastN (C := RX9) E.1 E.2.1 (hP 0 _ rfl) ((hK.2 5 _ rfl).1 N (fun j => va_rf (zq X (Rr k j)))) (fun h => by cases h) (by show ¬ (i < 0 ∨ (arrV _ _ _).slots.size ≤ _); rw [arrV_size]; exact hin) rfl rfl d fun H1 e1 z oq => ?_
    exact kk H1 _ ls hl (hW.up z oq (hfin H1 e1) (fun j h => ⟨rfl, rfl, zup_n h⟩) hk rfl) (hS.put z oq (Nat.le_add_right _ _))
  | some y =>
    obtain ⟨hy, hkd⟩ := dRt_s hx
    obtain ⟨r', hr', cellV, g1, g2, g3, -⟩ := (hW.dat hy (zDe_0 hkd)) 0 _ rfl
    have hc : vwCl[9]? = some r' := hr'
    have hcls := (hK.1 9 r' hc).2
    obtain ⟨kA, comp, k1, k2, k3, -⟩ := (hK.2 5 _ rfl).2
    have hn : r'.1 = RX9 := by
      have q := (Option.some.inj hc).symm
      rw [q]
    have hcomp : comp = X.2.1.1 9 := Option.some.inj (k3.symm.trans (by rw [← hn]; exact hcls.1))
    subst hcomp
    obtain ⟨kC, hkC, -⟩ := hcls.2
    refine W.aast E.1 E.2.1 (hP 0 _ rfl) (fun q h => by cases h) (fun h => by cases h) k1 k2 rfl hkC ⟨h0, by show _ < (arrV _ _ _).slots.size; rw [arrV_size]; exact hlt⟩ g1 (fun q h => by rw [g3] at h; cases h) (by rw [g2]; exact hkC) (by rw [g2]; exact va_assign hcls) rfl rfl d fun H1 e1 z oq => ?_
    exact kk H1 _ ls hl (hW.up z oq (hfin H1 e1) (fun j h => ⟨rfl, rfl, zup_n h⟩) hk rfl) (hS.put z oq (Nat.le_add_right _ _))
theorem zb_raldW {C : zC} {own : String} {cc : ByteArray} {n : Nat} {ret : Option FieldType} {rm : Room} {cs : Nat × Nat} {pc : Nat} {lv : List (Nat × Value)} {st : List Value} {I : Nat → Nat → Int32} {J : Nat → Nat → Int64} {Rr : Nat → Nat → Option Nat} {D : zD} (E : zE C own cc n ret rm) (k : Nat) {N : Nat} (hk : k < 182) (hF : ∀ (X : zX) (i : Nat → Int32) (j : Nat → Int64) (r : Nat → Option Nat), zF X k i j r = .inl (X.2.2.1 6, N, .inr (.inr (.inr (.inr (fun q => zq X (r q))))))) {f : Nat → Option Nat} (hf : Rr k = f) {i : Int32} (hin : vp_in i N) (d : decode cc pc = .ok (.aaload, 1)) (kk : zB C cs (pc + 1) lv (va_rf (zq C.X (f i.toNatClampNeg)) :: st) (I, J, Rr, D)) : zB C cs pc lv (.int i :: .ref (C.X.1 + k) :: st) (I, J, Rr, D) := by
  obtain ⟨p, l, e, R, s, m, args, below, meth, c, Q, X, nn⟩ := C
  intro H locs ls hl hW hS
  subst hf
  exact va_aldq E.1 E.2.1 E.2.2.2.2.2.2.2.2.2.1 (hW.at_ hk (hF X _ _ _)) 0 6 rfl rfl hin d (kk H locs ls hl hW hS)
theorem zb_rastW {C : zC} {own : String} {cc : ByteArray} {n : Nat} {ret : Option FieldType} {rm : Room} {cs : Nat × Nat} {pc : Nat} {lv : List (Nat × Value)} {st : List Value} {I : Nat → Nat → Int32} {J : Nat → Nat → Int64} {Rr : Nat → Nat → Option Nat} {D : zD} (E : zE C own cc n ret rm) (k : Nat) {N : Nat} (hk : k < 182) (hF : ∀ (X : zX) (i : Nat → Int32) (j : Nat → Int64) (r : Nat → Option Nat), zF X k i j r = .inl (X.2.2.1 6, N, .inr (.inr (.inr (.inr (fun q => zq X (r q))))))) {f : Nat → Option Nat} (hf : Rr k = f) {i : Int32} {x : Option Nat} (hx : dRt D x 1 = true) (hin : vp_in i N) (d : decode cc pc = .ok (.aastore, 1)) {R2 : Nat → Nat → Option Nat} (hI : va_up Rr k (va_up f i.toNatClampNeg x) = R2) (kk : zB C cs (pc + 1) lv st (I, J, R2, D)) : zB C cs pc lv (va_rf (zq C.X x) :: .int i :: .ref (C.X.1 + k) :: st) (I, J, Rr, D) := by
  obtain ⟨p, l, e, R, s, m, args, below, meth, c, Q, X, nn⟩ := C
  intro H locs ls hl hW hS
  subst hf
  subst hI
  have hK : va_K X.2.1 vwCl (zty X) s := E.2.2.2.2.2.2.2.2.2.1
  have hlt : i.toNatClampNeg < N := Nat.not_le.mp fun q => hin (Or.inr q)
  have h0 : ¬ i < 0 := fun q => hin (Or.inl q)
  have hP := hW.at_ hk (hF X _ _ _)
  have hfin : ∀ H1 : Heap, H1[X.1 + k]? = some ((vp_cell (X.2.2.1 6) (N, .inr (.inr (.inr (.inr (fun q => zq X (Rr k q))))))).setSlot i.toNatClampNeg (va_rf (zq X x))) → va_at X.2.1 vwCl (X.1 + k, zF X k (I k) (J k) (va_up Rr k (va_up (Rr k) i.toNatClampNeg x) k)) H1 := by
    intro H1 e1
    rw [zup_s, hF]
    show H1[X.1 + k]? = some (vp_cell _ _)
    rw [e1, vp_cell_q, vp_cell_q, arrV_store]
    congr 2
    funext q
    by_cases hq : q = i.toNatClampNeg
    · subst hq
      rw [updV, if_pos rfl, zup_s]
    · rw [updV, if_neg hq, zup_n hq]
  cases x with
  | none =>
    refine va_WaastN (C := RX10) E.1 E.2.1 (hP 0 _ rfl) ((hK.2 6 _ rfl).1 N (fun j => va_rf (zq X (Rr k j)))) (fun h => by cases h) (by show ¬ (i < 0 ∨ (arrV _ _ _).slots.size ≤ _); rw [arrV_size]; exact hin) rfl rfl d fun H1 e1 z oq => ?_
    exact kk H1 _ ls hl (hW.up z oq (hfin H1 e1) (fun j h => ⟨rfl, rfl, zup_n h⟩) hk rfl) (hS.put z oq (Nat.le_add_right _ _))
  | some y =>
    obtain ⟨hy, hkd⟩ := dRt_s hx
    obtain ⟨r', hr', cellV, g1, g2, g3, -⟩ := (hW.dat hy (zDe_1 hkd)) 0 _ rfl
    have hc : vwCl[10]? = some r' := hr'
    have hcls := (hK.1 10 r' hc).2
    obtain ⟨kA, comp, k1, k2, k3, -⟩ := (hK.2 6 _ rfl).2
    have hn : r'.1 = RX10 := by
      have q := (Option.some.inj hc).symm
      rw [q]
    have hcomp : comp = X.2.1.1 10 := Option.some.inj (k3.symm.trans (by rw [← hn]; exact hcls.1))
    subst hcomp
    obtain ⟨kC, hkC, -⟩ := hcls.2
    refine W.aast E.1 E.2.1 (hP 0 _ rfl) (fun q h => by cases h) (fun h => by cases h) k1 k2 rfl hkC ⟨h0, by show _ < (arrV _ _ _).slots.size; rw [arrV_size]; exact hlt⟩ g1 (fun q h => by rw [g3] at h; cases h) (by rw [g2]; exact hkC) (by rw [g2]; exact va_assign hcls) rfl rfl d fun H1 e1 z oq => ?_
    exact kk H1 _ ls hl (hW.up z oq (hfin H1 e1) (fun j h => ⟨rfl, rfl, zup_n h⟩) hk rfl) (hS.put z oq (Nat.le_add_right _ _))
