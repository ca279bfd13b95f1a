theorem zb_get {C : zC} {own : String} {cc : ByteArray} {n : Nat} {ret : Option FieldType} {rm : Room} {cs : Nat × Nat} {pc : Nat} {lv : List (Nat × Value)} {st : List Value} {I : Nat → Nat → Int32} {J : Nat → Nat → Int64} {Rr : Nat → Nat → Option Nat} {D : zD} (E : zE C own cc n ret rm) (k : Nat) {ci N : Nat} {CN : String} {TF : u_T} {fs : (Nat → Int32) → (Nat → Int64) → List Value} (hk : k < 182) (hF : ∀ (i : Nat → Int32) (j : Nat → Int64) (r : Nat → Option Nat), zF C.X k i j r = .inr (ci, fs i j)) (hc : vwCl[ci]? = some (CN, TF, N)) (hin : ∀ w ∈ u_ws CN TF N, w ∈ zT) (a : Nat) (ha : a < N) {index : Nat} (hw : Cond.fieldLink own index (TF a).1 (TF a).2.1 (TF a).2.2.1 ∈ zT) {v : Value} (hv : (fs (I k) (J k))[a]? = some v) (d : decode cc pc = .ok (.getfield index, 3)) (kk : zB C cs (pc + 3) lv (v :: st) (I, J, Rr, D)) : zB C cs pc lv (.ref (C.X.1 + k) :: st) (I, J, Rr, D) := by
  obtain ⟨p, l, e, R, s, m, args, below, meth, c, Q, X, nn⟩ := C
  intro H locs ls hl hW hS
  exact va_get E.1 E.2.1 (Ts := zT) E.2.2.2.2.2.1 hin E.2.2.2.2.1 E.2.2.2.2.2.2.2.2.2.1 (hW.at_ hk (hF _ _ _)) 0 rfl hc a ha (E.2.2.2.2.2.1 _ hw) (fun _ h => h) hv d (kk H locs ls hl hW hS)
theorem zb_put {C : zC} {own : String} {cc : ByteArray} {n : Nat} {ret : Option FieldType} {rm : Room} {cs : Nat × Nat} {pc : Nat} {lv : List (Nat × Value)} {st : List Value} {I : Nat → Nat → Int32} {J : Nat → Nat → Int64} {Rr : Nat → Nat → Option Nat} {D : zD} (E : zE C own cc n ret rm) (k : Nat) {ci N : Nat} {CN : String} {TF : u_T} {fs : (Nat → Int32) → (Nat → Int64) → List Value} (hk : k < 182) (hF : ∀ (i : Nat → Int32) (j : Nat → Int64) (r : Nat → Option Nat), zF C.X k i j r = .inr (ci, fs i j)) (hc : vwCl[ci]? = some (CN, TF, N)) (hin : ∀ w ∈ u_ws CN TF N, w ∈ zT) (a : Nat) (ha : a < N) {index : Nat} (hw : Cond.fieldLink own index (TF a).1 (TF a).2.1 (TF a).2.2.1 ∈ zT) (ty : Nat → FieldType) (hty : ∀ k, k < N → parseFieldDescriptor (TF k).2.2.1 = some (ty k)) (hnm : ∀ a, a < N → ∀ b, b < N → a ≠ b → (TF a).2.1 ≠ (TF b).2.1) (hfin : (TF a).2.2.2 = false) {v : Value} (hn : narrow (ty a) v = v) (hfit : fits (ty a) v = true) {I2 : Nat → Nat → Int32} {J2 : Nat → Nat → Int64} (hs : (fs (I k) (J k)).set a v = fs (I2 k) (J2 k)) (hlen : a < (fs (I k) (J k)).length) (hI : ∀ j, j ≠ k → I2 j = I j ∧ J2 j = J j) (d : decode cc pc = .ok (.putfield index, 3)) (kk : zB C cs (pc + 3) lv st (I2, J2, Rr, D)) : zB C cs pc lv (v :: .ref (C.X.1 + k) :: st) (I, J, Rr, D) := by
  obtain ⟨p, l, e, R, s, m, args, below, meth, c, Q, X, nn⟩ := C
  intro H locs ls hl hW hS
  have hK : va_K X.2.1 vwCl (zty X) s := E.2.2.2.2.2.2.2.2.2.1
  have hap := va_apart (own := own) (Ts := zT) E.2.2.2.2.2.1 hin ty hty hnm hK hc
  obtain ⟨r, h1, cell, q1, q2, q3, q4⟩ := (hW.at_ hk (hF _ _ _)) 0 _ rfl
  have hr : r = (CN, TF, N) := Option.some.inj (h1.symm.trans hc)
  subst hr
  obtain ⟨hSl, hfc, kC, hkC, hkind⟩ := hK.1 ci _ hc
  obtain ⟨cf, kf, fi, f, hi, hsl⟩ := hSl a ha
  have hlay := E.2.2.2.2.2.1 _ (hin _ (u_in_lay ha))
  unfold u_lay at hlay
  rw [if_neg (by rw [hfin]; decide)] at hlay
  have hst := (u_facts hfc hkC (Or.inl hlay) hi).1
  have h6 := u_store hfc hkC hkind hlay hi (hty a ha) hn hfit
  refine W.putK E.1 E.2.1 ⟨E.2.2.2.2.1, (E.2.2.2.2.2.1 _ hw), ⟨_, _, _, hi⟩, hst⟩ (by rw [q2]; exact h6) q1 q3 (by rw [hsl]; exact k2_hasslot (q4 a ha)) rfl rfl d fun H1 e1 z oq => ?_
  rw [hsl] at e1 ⊢
  refine kk H1 _ ls hl (hW.up z oq ?_ (fun j h => ⟨(hI j h).1, (hI j h).2, rfl⟩) hk rfl) (hS.put z oq (Nat.le_add_right _ _))
  show va_at X.2.1 vwCl (X.1 + k, zF X k (I2 k) (J2 k) (Rr k)) H1
  rw [hF, ← hs]
  exact ⟨_, hc, t_OB.to (V := updV (vp_V (fs (I k) (J k))) a v) ⟨_, e1, q2, q3, t_set q4 hap ha v⟩ (fun j _ => vp_updV_set hlen v j)⟩
theorem zb_getN {C : zC} {own : String} {cc : ByteArray} {n : Nat} {ret : Option FieldType} {rm : Room} {cs : Nat × Nat} {pc : Nat} {lv : List (Nat × Value)} {st : List Value} {I : Nat → Nat → Int32} {J : Nat → Nat → Int64} {Rr : Nat → Nat → Option Nat} {D : zD} (E : zE C own cc n ret rm) (k : Nat) {ci N : Nat} {CN : String} {TF : u_T} {fs : (Nat → Int32) → (Nat → Int64) → List Value} (hk : k < 182) (hF : ∀ (i : Nat → Int32) (j : Nat → Int64) (r : Nat → Option Nat), zF C.X k i j r = .inr (ci, fs i j)) (hc : vwCl[ci]? = some (CN, TF, N)) (hin : ∀ w ∈ u_ws CN TF N, w ∈ zT) (a : Nat) (ha : a < N) {index : Nat} {host : String} (hw : Cond.fieldLinkNest own index (TF a).1 (TF a).2.1 (TF a).2.2.1 host ∈ zN) {v : Value} (hv : (fs (I k) (J k))[a]? = some v) (d : decode cc pc = .ok (.getfield index, 3)) (kk : zB C cs (pc + 3) lv (v :: st) (I, J, Rr, D)) : zB C cs pc lv (.ref (C.X.1 + k) :: st) (I, J, Rr, D) := by
  obtain ⟨p, l, e, R, s, m, args, below, meth, c, Q, X, nn⟩ := C
  intro H locs ls hl hW hS
  exact va_getN E.1 E.2.1 (Ts := zT) E.2.2.2.2.2.1 hin E.2.2.2.2.1 E.2.2.2.2.2.2.2.2.2.1 (hW.at_ hk (hF _ _ _)) 0 rfl hc a ha (va_Nw.use (by rfl) (E.2.2.2.2.2.2.2.2.2.2.1 _ hw)) (fun _ h => h) hv d (kk H locs ls hl hW hS)
theorem zb_putN {C : zC} {own : String} {cc : ByteArray} {n : Nat} {ret : Option FieldType} {rm : Room} {cs : Nat × Nat} {pc : Nat} {lv : List (Nat × Value)} {st : List Value} {I : Nat → Nat → Int32} {J : Nat → Nat → Int64} {Rr : Nat → Nat → Option Nat} {D : zD} (E : zE C own cc n ret rm) (k : Nat) {ci N : Nat} {CN : String} {TF : u_T} {fs : (Nat → Int32) → (Nat → Int64) → List Value} (hk : k < 182) (hF : ∀ (i : Nat → Int32) (j : Nat → Int64) (r : Nat → Option Nat), zF C.X k i j r = .inr (ci, fs i j)) (hc : vwCl[ci]? = some (CN, TF, N)) (hin : ∀ w ∈ u_ws CN TF N, w ∈ zT) (a : Nat) (ha : a < N) {index : Nat} {host : String} (hw : Cond.fieldLinkNest own index (TF a).1 (TF a).2.1 (TF a).2.2.1 host ∈ zN) (ty : Nat → FieldType) (hty : ∀ k, k < N → parseFieldDescriptor (TF k).2.2.1 = some (ty k)) (hnm : ∀ a, a < N → ∀ b, b < N → a ≠ b → (TF a).2.1 ≠ (TF b).2.1) (hfin : (TF a).2.2.2 = false) {v : Value} (hn : narrow (ty a) v = v) (hfit : fits (ty a) v = true) {I2 : Nat → Nat → Int32} {J2 : Nat → Nat → Int64} (hs : (fs (I k) (J k)).set a v = fs (I2 k) (J2 k)) (hlen : a < (fs (I k) (J k)).length) (hI : ∀ j, j ≠ k → I2 j = I j ∧ J2 j = J j) (d : decode cc pc = .ok (.putfield index, 3)) (kk : zB C cs (pc + 3) lv st (I2, J2, Rr, D)) : zB C cs pc lv (v :: .ref (C.X.1 + k) :: st) (I, J, Rr, D) := by
  obtain ⟨p, l, e, R, s, m, args, below, meth, c, Q, X, nn⟩ := C
  intro H locs ls hl hW hS
  have hK : va_K X.2.1 vwCl (zty X) s := E.2.2.2.2.2.2.2.2.2.1
  have hap := va_apart (own := own) (Ts := zT) E.2.2.2.2.2.1 hin ty hty hnm hK hc
  obtain ⟨r, h1, cell, q1, q2, q3, q4⟩ := (hW.at_ hk (hF _ _ _)) 0 _ rfl
  have hr : r = (CN, TF, N) := Option.some.inj (h1.symm.trans hc)
  subst hr
  obtain ⟨hSl, hfc, kC, hkC, hkind⟩ := hK.1 ci _ hc
  obtain ⟨cf, kf, fi, f, hi, hsl⟩ := hSl a ha
  have hlay := E.2.2.2.2.2.1 _ (hin _ (u_in_lay ha))
  unfold u_lay at hlay
  rw [if_neg (by rw [hfin]; decide)] at hlay
  have hst := (u_facts hfc hkC (Or.inl hlay) hi).1
  have h6 := u_store hfc hkC hkind hlay hi (hty a ha) hn hfit
  refine va_WputK E.1 E.2.1 E.2.2.2.2.1 (va_Nw.use (by rfl) (E.2.2.2.2.2.2.2.2.2.2.1 _ hw)) hi hst (by rw [q2]; exact h6) q1 q3 (by rw [hsl]; exact k2_hasslot (q4 a ha)) rfl rfl d fun H1 e1 z oq => ?_
  rw [hsl] at e1 ⊢
  refine kk H1 _ ls hl (hW.up z oq ?_ (fun j h => ⟨(hI j h).1, (hI j h).2, rfl⟩) hk rfl) (hS.put z oq (Nat.le_add_right _ _))
  show va_at X.2.1 vwCl (X.1 + k, zF X k (I2 k) (J2 k) (Rr k)) H1
  rw [hF, ← hs]
  exact ⟨_, hc, t_OB.to (V := updV (vp_V (fs (I k) (J k))) a v) ⟨_, e1, q2, q3, t_set q4 hap ha v⟩ (fun j _ => vp_updV_set hlen v j)⟩
theorem zb_gets0 {C : zC} {own : String} {cc : ByteArray} {n : Nat} {ret : Option FieldType} {rm : Room} {cs : Nat × Nat} {pc : Nat} {lv : List (Nat × Value)} {st : List Value} {S : zS} (E : zE C own cc n ret rm) {index : Nat} (hw : Cond.fieldLink own index RX3 "WORTHS" "[I" ∈ zT) (d : decode cc pc = .ok (.getstatic index, 3)) (kk : zB C cs (pc + 3) lv (.ref (C.X.2.2.2.1 0) :: st) S) : zB C cs pc lv st S := by
  obtain ⟨p, l, e, R, s, m, args, below, meth, c, Q, X, nn⟩ := C
  intro H locs ls hl hW hS
  exact va_gets E.1 E.2.1 E.2.2.2.2.2.2.2.2.2.2.2.2.1.1.1 hS E.2.2.2.2.1 (E.2.2.2.2.2.1 _ hw) (fun _ h => h) d (kk H locs ls hl hW hS)
theorem zb_tald0 {C : zC} {own : String} {cc : ByteArray} {n : Nat} {ret : Option FieldType} {rm : Room} {cs : Nat × Nat} {pc : Nat} {lv : List (Nat × Value)} {st : List Value} {S : zS} (E : zE C own cc n ret rm) {i : Int32} (hin : vp_in i 13) (d : decode cc pc = .ok (.iaload, 1)) (kk : zB C cs (pc + 1) lv (.int (zc0.getD i.toNatClampNeg 0) :: st) S) : zB C cs pc lv (.int i :: .ref (C.X.2.2.2.1 0) :: st) S := by
  obtain ⟨p, l, e, R, s, m, args, below, meth, c, Q, X, nn⟩ := C
  intro H locs ls hl hW hS
  exact va_ti E.1 E.2.1 E.2.2.2.2.2.2.2.2.2.2.2.2.1.1.2 hS hin rfl d (kk H locs ls hl hW hS)
theorem zb_tlen0 {C : zC} {own : String} {cc : ByteArray} {n : Nat} {ret : Option FieldType} {rm : Room} {cs : Nat × Nat} {pc : Nat} {lv : List (Nat × Value)} {st : List Value} {S : zS} (E : zE C own cc n ret rm) (d : decode cc pc = .ok (.arraylength, 1)) (kk : zB C cs (pc + 1) lv (.int 13 :: st) S) : zB C cs pc lv (.ref (C.X.2.2.2.1 0) :: st) S := by
  obtain ⟨p, l, e, R, s, m, args, below, meth, c, Q, X, nn⟩ := C
  intro H locs ls hl hW hS
  exact va_tlen E.1 E.2.1 E.2.2.2.2.2.2.2.2.2.2.2.2.1.1.2 hS rfl d (kk H locs ls hl hW hS)
theorem zb_gets1 {C : zC} {own : String} {cc : ByteArray} {n : Nat} {ret : Option FieldType} {rm : Room} {cs : Nat × Nat} {pc : Nat} {lv : List (Nat × Value)} {st : List Value} {S : zS} (E : zE C own cc n ret rm) {index : Nat} (hw : Cond.fieldLink own index RX3 "RATIOS" "[I" ∈ zT) (d : decode cc pc = .ok (.getstatic index, 3)) (kk : zB C cs (pc + 3) lv (.ref (C.X.2.2.2.1 1) :: st) S) : zB C cs pc lv st S := by
  obtain ⟨p, l, e, R, s, m, args, below, meth, c, Q, X, nn⟩ := C
  intro H locs ls hl hW hS
  exact va_gets E.1 E.2.1 E.2.2.2.2.2.2.2.2.2.2.2.2.1.2.1.1 hS E.2.2.2.2.1 (E.2.2.2.2.2.1 _ hw) (fun _ h => h) d (kk H locs ls hl hW hS)
theorem zb_tald1 {C : zC} {own : String} {cc : ByteArray} {n : Nat} {ret : Option FieldType} {rm : Room} {cs : Nat × Nat} {pc : Nat} {lv : List (Nat × Value)} {st : List Value} {S : zS} (E : zE C own cc n ret rm) {i : Int32} (hin : vp_in i 12) (d : decode cc pc = .ok (.iaload, 1)) (kk : zB C cs (pc + 1) lv (.int (zc1.getD i.toNatClampNeg 0) :: st) S) : zB C cs pc lv (.int i :: .ref (C.X.2.2.2.1 1) :: st) S := by
  obtain ⟨p, l, e, R, s, m, args, below, meth, c, Q, X, nn⟩ := C
  intro H locs ls hl hW hS
  exact va_ti E.1 E.2.1 E.2.2.2.2.2.2.2.2.2.2.2.2.1.2.1.2 hS hin rfl d (kk H locs ls hl hW hS)
theorem zb_tlen1 {C : zC} {own : String} {cc : ByteArray} {n : Nat} {ret : Option FieldType} {rm : Room} {cs : Nat × Nat} {pc : Nat} {lv : List (Nat × Value)} {st : List Value} {S : zS} (E : zE C own cc n ret rm) (d : decode cc pc = .ok (.arraylength, 1)) (kk : zB C cs (pc + 1) lv (.int 12 :: st) S) : zB C cs pc lv (.ref (C.X.2.2.2.1 1) :: st) S := by
  obtain ⟨p, l, e, R, s, m, args, below, meth, c, Q, X, nn⟩ := C
  intro H locs ls hl hW hS
  exact va_tlen E.1 E.2.1 E.2.2.2.2.2.2.2.2.2.2.2.2.1.2.1.2 hS rfl d (kk H locs ls hl hW hS)
theorem zb_gets2 {C : zC} {own : String} {cc : ByteArray} {n : Nat} {ret : Option FieldType} {rm : Room} {cs : Nat × Nat} {pc : Nat} {lv : List (Nat × Value)} {st : List Value} {S : zS} (E : zE C own cc n ret rm) {index : Nat} (hw : Cond.fieldLink own index RX2 "WORTHS" "[I" ∈ zT) (d : decode cc pc = .ok (.getstatic index, 3)) (kk : zB C cs (pc + 3) lv (.ref (C.X.2.2.2.1 2) :: st) S) : zB C cs pc lv st S := by
  obtain ⟨p, l, e, R, s, m, args, below, meth, c, Q, X, nn⟩ := C
  intro H locs ls hl hW hS
  exact va_gets E.1 E.2.1 E.2.2.2.2.2.2.2.2.2.2.2.2.1.2.2.1.1 hS E.2.2.2.2.1 (E.2.2.2.2.2.1 _ hw) (fun _ h => h) d (kk H locs ls hl hW hS)
theorem zb_tald2 {C : zC} {own : String} {cc : ByteArray} {n : Nat} {ret : Option FieldType} {rm : Room} {cs : Nat × Nat} {pc : Nat} {lv : List (Nat × Value)} {st : List Value} {S : zS} (E : zE C own cc n ret rm) {i : Int32} (hin : vp_in i 6) (d : decode cc pc = .ok (.iaload, 1)) (kk : zB C cs (pc + 1) lv (.int (zc2.getD i.toNatClampNeg 0) :: st) S) : zB C cs pc lv (.int i :: .ref (C.X.2.2.2.1 2) :: st) S := by
  obtain ⟨p, l, e, R, s, m, args, below, meth, c, Q, X, nn⟩ := C
  intro H locs ls hl hW hS
  exact va_ti E.1 E.2.1 E.2.2.2.2.2.2.2.2.2.2.2.2.1.2.2.1.2 hS hin rfl d (kk H locs ls hl hW hS)
theorem zb_tlen2 {C : zC} {own : String} {cc : ByteArray} {n : Nat} {ret : Option FieldType} {rm : Room} {cs : Nat × Nat} {pc : Nat} {lv : List (Nat × Value)} {st : List Value} {S : zS} (E : zE C own cc n ret rm) (d : decode cc pc = .ok (.arraylength, 1)) (kk : zB C cs (pc + 1) lv (.int 6 :: st) S) : zB C cs pc lv (.ref (C.X.2.2.2.1 2) :: st) S := by
  obtain ⟨p, l, e, R, s, m, args, below, meth, c, Q, X, nn⟩ := C
  intro H locs ls hl hW hS
  exact va_tlen E.1 E.2.1 E.2.2.2.2.2.2.2.2.2.2.2.2.1.2.2.1.2 hS rfl d (kk H locs ls hl hW hS)
theorem zb_tableIn {C : zC} {own : String} {cc : ByteArray} {n : Nat} {ret : Option FieldType} {rm : Room} {cs : Nat × Nat} {pc : Nat} {lv : List (Nat × Value)} {st : List Value} {S : zS} (E : zE C own cc n ret rm) {dflt lo hi : Int} {offs : Array Int} {len : Nat} {x : Int32} {off : Int} {tgt : Nat} (d : decode cc pc = .ok (.tableswitch dflt lo hi offs, len)) (h1 : ¬ x.toInt < lo) (h2 : ¬ hi < x.toInt) (ho : offs[(x.toInt - lo).toNat]? = some off) (ht : (pc : Int) + off = (tgt : Int)) (kk : zB C cs tgt lv st S) : zB C cs pc lv (.int x :: st) S := by
  obtain ⟨p, l, e, R, s, m, args, below, meth, c, Q, X, nn⟩ := C
  intro H locs ls hl hW hS
  exact lv_tableIn E.1 E.2.1 d h1 h2 ho ht (kk H locs ls hl hW hS)
theorem zb_tableOut {C : zC} {own : String} {cc : ByteArray} {n : Nat} {ret : Option FieldType} {rm : Room} {cs : Nat × Nat} {pc : Nat} {lv : List (Nat × Value)} {st : List Value} {S : zS} (E : zE C own cc n ret rm) {dflt lo hi : Int} {offs : Array Int} {len : Nat} {x : Int32} {tgt : Nat} (d : decode cc pc = .ok (.tableswitch dflt lo hi offs, len)) (h : x.toInt < lo ∨ hi < x.toInt) (ht : (pc : Int) + dflt = (tgt : Int)) (kk : zB C cs tgt lv st S) : zB C cs pc lv (.int x :: st) S := by
  obtain ⟨p, l, e, R, s, m, args, below, meth, c, Q, X, nn⟩ := C
  intro H locs ls hl hW hS
  exact lv_tableOut E.1 E.2.1 d h ht (kk H locs ls hl hW hS)
theorem zO.moved {X : zX} {u U : State} {H : Heap} (hvm : u.vm.Alike U.vm) (h : zO X u H) : zO X U H := by
  obtain ⟨⟨a1, a2⟩, ⟨b1, b2⟩, ⟨c1, c2⟩, d, e, f⟩ := h
  exact ⟨⟨va_Z.moved hvm a1, va_T.moved hvm a2⟩, ⟨va_Z.moved hvm b1, va_T.moved hvm b2⟩, ⟨va_Z.moved hvm c1, va_T.moved hvm c2⟩, vk_S.moved hvm d, va_Z.moved hvm e, va_Zq.moved hvm f⟩
theorem zO.kept {X : zX} {U : State} {H H1 : Heap} (h : zO X U H) (hq : ∀ a : Nat, a < H.size → ¬ zA X a → H1[a]? = H[a]?) : zO X U H1 := by
  obtain ⟨⟨a1, a2⟩, ⟨b1, b2⟩, ⟨c1, c2⟩, d, e, f⟩ := h
  exact ⟨⟨a1.kept hq, a2.kept hq⟩, ⟨b1.kept hq, b2.kept hq⟩, ⟨c1.kept hq, c2.kept hq⟩, d.kept hq, e.kept hq, f.kept hq⟩
theorem zN_two : ∀ w ∈ zN, (∃ a i b n d h, w = Cond.fieldLinkNest a i b n d h) ∨ ∃ a i x h, w = Cond.methodLinkNest a i x h := by
  intro w hw
  simp only [zN, List.mem_cons, List.not_mem_nil, or_false] at hw
  rcases hw with rfl | rfl | rfl | rfl | rfl | rfl | rfl | rfl | rfl | rfl | rfl | rfl | rfl | rfl | rfl | rfl | rfl | rfl | rfl | rfl | rfl | rfl | rfl | rfl | rfl | rfl | rfl | rfl | rfl | rfl | rfl | rfl | rfl | rfl | rfl | rfl | rfl | rfl | rfl | rfl | rfl | rfl | rfl | rfl <;> first | exact Or.inl ⟨_, _, _, _, _, _, rfl⟩ | exact Or.inr ⟨_, _, _, _, rfl⟩
theorem zK.same {X : zX} {u U : State} (hv : u.vm = U.vm) (hh : u.heap = U.heap) (h : zK X u) : zK X U := by
  obtain ⟨h1, h2, h3, h4, h5, h6⟩ := h
  have hal : u.vm.Alike U.vm := hv ▸ Vm.Alike.refl _
  refine ⟨va_K.moved hal h1, fun w hw => ?_, fun q hq => vk_R.same hv.symm (h3 q hq), ?_, ?_, va_AO.moved hal h6⟩
  · rcases zN_two w hw with ⟨a, i, b, n, d, x, rfl⟩ | ⟨a, i, x, y, rfl⟩
    · exact va_Nw.same rfl hv (h2 _ hw)
    · exact va_Nw.same rfl hv (h2 _ hw)
  · rw [← hh]
    exact zO.moved hal h4
  · rw [← hh]
    exact h5
theorem zK_blind {X : zX} {S : zS} {av : List Value} : FrameBlind (va_Pc av (zM X S)) := fun a U g mk h => ⟨h.1, h.2.1, zK.same (u := U) (U := U.calling g mk a) rfl rfl h.2.2⟩
theorem zK.to {X : zX} {s U : State} {H : Heap} {locs : List Loc} (h : zK X s) (hS : va_S (zA X) s.heap H locs) (hU : U.heap = H) (hW : s.WarmedH U.vm) : zK X U := by
  obtain ⟨h1, h2, h3, h4, h5, h6⟩ := h
  refine ⟨va_K.moved hW.alike h1, fun w hw => ?_, fun q hq => vk_R.warm hW (h3 q hq), ?_, ?_, va_AO.moved hW.alike h6⟩
  · rcases zN_two w hw with ⟨a, i, b, n, d, x, rfl⟩ | ⟨a, i, x, y, rfl⟩
    · exact va_Nw.warmF hW (h2 _ hw)
    · exact va_Nw.warmM hW (h2 _ hw)
  · rw [hU]
    exact (zO.moved hW.alike h4).kept hS.2.1
  · rw [hU]
    exact Nat.le_trans h5 hS.1
def zMi (l : Launch) (y : MethodName) (cc : ByteArray) (n : Nat) (ret : Option FieldType) (rm : Room) (X : zX) (av : List Value) (S : zS) (r : Int32) (S2 : zS) : Prop := Met l y (Cond.code y cc n ret :: zT) rm (va_Pc av (zM X S)) (va_Qi (fun (r2 : Int32) (u : zS) => r2 = r ∧ u = S2) (zM X) (zA X)) rm.cells rm.slots (zA X)
def zQi (C : zC) (rm : Room) (r : Int32) (S2 : zS) : State → Prop := MQ C.below (va_Qi (fun (r2 : Int32) (u : zS) => r2 = r ∧ u = S2) (zM C.X) (zA C.X)) C.args C.s rm.cells rm.slots (zA C.X)
theorem zMi.of {l : Launch} {y : MethodName} {cc : ByteArray} {n : Nat} {ret : Option FieldType} {rm : Room} {X : zX} {av : List Value} {S : zS} {r : Int32} {S2 : zS} (hy : plainName y.cls = true) (hlen : (lg_sl av).length ≤ n) (body : ∀ C : zC, zE C y.cls cc n ret rm → C.l = l → C.X = X → C.Q = zQi C rm r S2 → zB C (0, 0) 0 (lv_args 0 av) [] S) : zMi l y cc n ret rm X av S r S2 := by
  refine Met.ofW (cc := cc) (maxL := n) (ret := ret) hy rfl ?_
  intro p e s m args below meth c s₁ B hml hP
  obtain ⟨rfl, hW, hK⟩ := hP
  have hl := lv_entry av (n := n) hlen
  rw [lg_entry_eq]
  refine body (p, l, e, rm, s, m, av.toArray, below, meth, c, MQ below (va_Qi (fun (r2 : Int32) (u : zS) => r2 = r ∧ u = S2) (zM X) (zA X)) av.toArray s rm.cells rm.slots (zA X), X, n) ⟨B.exec, B.bytes, hml, rfl, findClass_of_methodNamed B.named, fun w hw => atoms_spec (ws := Cond.code y cc n ret :: zT) B.pre w (List.mem_cons_of_mem _ hw), B.returns, B.notSynchronized, rfl, hK⟩ rfl rfl rfl s.heap [] _ hl hW va_S.rf
def zMl (l : Launch) (y : MethodName) (cc : ByteArray) (n : Nat) (ret : Option FieldType) (rm : Room) (X : zX) (av : List Value) (S : zS) (r : Int64) (S2 : zS) : Prop := Met l y (Cond.code y cc n ret :: zT) rm (va_Pc av (zM X S)) (va_Ql (fun (r2 : Int64) (u : zS) => r2 = r ∧ u = S2) (zM X) (zA X)) rm.cells rm.slots (zA X)
def zQl (C : zC) (rm : Room) (r : Int64) (S2 : zS) : State → Prop := MQ C.below (va_Ql (fun (r2 : Int64) (u : zS) => r2 = r ∧ u = S2) (zM C.X) (zA C.X)) C.args C.s rm.cells rm.slots (zA C.X)
theorem zMl.of {l : Launch} {y : MethodName} {cc : ByteArray} {n : Nat} {ret : Option FieldType} {rm : Room} {X : zX} {av : List Value} {S : zS} {r : Int64} {S2 : zS} (hy : plainName y.cls = true) (hlen : (lg_sl av).length ≤ n) (body : ∀ C : zC, zE C y.cls cc n ret rm → C.l = l → C.X = X → C.Q = zQl C rm r S2 → zB C (0, 0) 0 (lv_args 0 av) [] S) : zMl l y cc n ret rm X av S r S2 := by
  refine Met.ofW (cc := cc) (maxL := n) (ret := ret) hy rfl ?_
  intro p e s m args below meth c s₁ B hml hP
  obtain ⟨rfl, hW, hK⟩ := hP
  have hl := lv_entry av (n := n) hlen
  rw [lg_entry_eq]
  refine body (p, l, e, rm, s, m, av.toArray, below, meth, c, MQ below (va_Ql (fun (r2 : Int64) (u : zS) => r2 = r ∧ u = S2) (zM X) (zA X)) av.toArray s rm.cells rm.slots (zA X), X, n) ⟨B.exec, B.bytes, hml, rfl, findClass_of_methodNamed B.named, fun w hw => atoms_spec (ws := Cond.code y cc n ret :: zT) B.pre w (List.mem_cons_of_mem _ hw), B.returns, B.notSynchronized, rfl, hK⟩ rfl rfl rfl s.heap [] _ hl hW va_S.rf
def zMv (l : Launch) (y : MethodName) (cc : ByteArray) (n : Nat) (ret : Option FieldType) (rm : Room) (X : zX) (av : List Value) (S : zS) (S2 : zS) : Prop := Met l y (Cond.code y cc n ret :: zT) rm (va_Pc av (zM X S)) (va_Qv (fun (u : zS) => u = S2) (zM X) (zA X)) rm.cells rm.slots (zA X)
def zQv (C : zC) (rm : Room) (S2 : zS) : State → Prop := MQ C.below (va_Qv (fun (u : zS) => u = S2) (zM C.X) (zA C.X)) C.args C.s rm.cells rm.slots (zA C.X)
theorem zMv.of {l : Launch} {y : MethodName} {cc : ByteArray} {n : Nat} {ret : Option FieldType} {rm : Room} {X : zX} {av : List Value} {S : zS} {S2 : zS} (hy : plainName y.cls = true) (hlen : (lg_sl av).length ≤ n) (body : ∀ C : zC, zE C y.cls cc n ret rm → C.l = l → C.X = X → C.Q = zQv C rm S2 → zB C (0, 0) 0 (lv_args 0 av) [] S) : zMv l y cc n ret rm X av S S2 := by
  refine Met.ofW (cc := cc) (maxL := n) (ret := ret) hy rfl ?_
  intro p e s m args below meth c s₁ B hml hP
  obtain ⟨rfl, hW, hK⟩ := hP
  have hl := lv_entry av (n := n) hlen
  rw [lg_entry_eq]
  refine body (p, l, e, rm, s, m, av.toArray, below, meth, c, MQ below (va_Qv (fun (u : zS) => u = S2) (zM X) (zA X)) av.toArray s rm.cells rm.slots (zA X), X, n) ⟨B.exec, B.bytes, hml, rfl, findClass_of_methodNamed B.named, fun w hw => atoms_spec (ws := Cond.code y cc n ret :: zT) B.pre w (List.mem_cons_of_mem _ hw), B.returns, B.notSynchronized, rfl, hK⟩ rfl rfl rfl s.heap [] _ hl hW va_S.rf
def zMq (l : Launch) (y : MethodName) (cc : ByteArray) (n : Nat) (ret : Option FieldType) (rm : Room) (X : zX) (av : List Value) (S : zS) (r : Option Nat) (S2 : zS) : Prop := Met l y (Cond.code y cc n ret :: zT) rm (va_Pc av (zM X S)) (va_Qq (fun (r2 : Option Nat) (u : zS) => r2 = r ∧ u = S2) (zM X) (zA X)) rm.cells rm.slots (zA X)
def zQq (C : zC) (rm : Room) (r : Option Nat) (S2 : zS) : State → Prop := MQ C.below (va_Qq (fun (r2 : Option Nat) (u : zS) => r2 = r ∧ u = S2) (zM C.X) (zA C.X)) C.args C.s rm.cells rm.slots (zA C.X)
theorem zMq.of {l : Launch} {y : MethodName} {cc : ByteArray} {n : Nat} {ret : Option FieldType} {rm : Room} {X : zX} {av : List Value} {S : zS} {r : Option Nat} {S2 : zS} (hy : plainName y.cls = true) (hlen : (lg_sl av).length ≤ n) (body : ∀ C : zC, zE C y.cls cc n ret rm → C.l = l → C.X = X → C.Q = zQq C rm r S2 → zB C (0, 0) 0 (lv_args 0 av) [] S) : zMq l y cc n ret rm X av S r S2 := by
  refine Met.ofW (cc := cc) (maxL := n) (ret := ret) hy rfl ?_
  intro p e s m args below meth c s₁ B hml hP
  obtain ⟨rfl, hW, hK⟩ := hP
  have hl := lv_entry av (n := n) hlen
  rw [lg_entry_eq]
  refine body (p, l, e, rm, s, m, av.toArray, below, meth, c, MQ below (va_Qq (fun (r2 : Option Nat) (u : zS) => r2 = r ∧ u = S2) (zM X) (zA X)) av.toArray s rm.cells rm.slots (zA X), X, n) ⟨B.exec, B.bytes, hml, rfl, findClass_of_methodNamed B.named, fun w hw => atoms_spec (ws := Cond.code y cc n ret :: zT) B.pre w (List.mem_cons_of_mem _ hw), B.returns, B.notSynchronized, rfl, hK⟩ rfl rfl rfl s.heap [] _ hl hW va_S.rf
theorem zb_iret {C : zC} {own : String} {cc : ByteArray} {n : Nat} {ret : Option FieldType} {rm : Room} {cs : Nat × Nat} {pc : Nat} {lv : List (Nat × Value)} {S : zS} (E : zE C own cc n ret rm) {r : Int32} (hQ : C.Q = zQi C rm r S) (hr : ret = some .int) (hcs : cs.1 ≤ rm.cells ∧ cs.2 ≤ rm.slots) (d : decode cc pc = .ok (.ireturn, 1)) : zB C cs pc lv [.int r] S := by
  obtain ⟨p, l, e, R, s, m, args, below, meth, c, Q, X, nn⟩ := C
  intro H locs ls hl hW hS
  have hQ2 : Q = MQ below (va_Qi (fun (r2 : Int32) (u : zS) => r2 = r ∧ u = S) (zM X) (zA X)) args s rm.cells rm.slots (zA X) := hQ
  subst hQ2
  refine W.widen hcs.1 hcs.2 ?_
  refine W.iret E.1 E.2.1 (E.2.2.2.2.2.2.1.trans hr) (fun t ht hWm => ?_) hS.2.2 d E.2.2.2.2.2.2.2.1
  have hM : zM X S t := ⟨by rw [ht]; exact hW, zK.to E.2.2.2.2.2.2.2.2.2 hS ht hWm⟩
  exact ⟨⟨r, S, rfl, ⟨rfl, rfl⟩, hM⟩, hS.F ht⟩
theorem zb_zret {C : zC} {own : String} {cc : ByteArray} {n : Nat} {ret : Option FieldType} {rm : Room} {cs : Nat × Nat} {pc : Nat} {lv : List (Nat × Value)} {S : zS} (E : zE C own cc n ret rm) {r : Int32} (hQ : C.Q = zQi C rm r S) {ty : FieldType} (hr : ret = some ty) (hn : narrow ty (.int r) = .int r) (hcs : cs.1 ≤ rm.cells ∧ cs.2 ≤ rm.slots) (d : decode cc pc = .ok (.ireturn, 1)) : zB C cs pc lv [.int r] S := by
  obtain ⟨p, l, e, R, s, m, args, below, meth, c, Q, X, nn⟩ := C
  intro H locs ls hl hW hS
  have hQ2 : Q = MQ below (va_Qi (fun (r2 : Int32) (u : zS) => r2 = r ∧ u = S) (zM X) (zA X)) args s rm.cells rm.slots (zA X) := hQ
  subst hQ2
  refine W.widen hcs.1 hcs.2 ?_
  refine W.zret E.1 E.2.1 (E.2.2.2.2.2.2.1.trans hr) hn (fun t ht hWm => ?_) hS.2.2 d E.2.2.2.2.2.2.2.1
  have hM : zM X S t := ⟨by rw [ht]; exact hW, zK.to E.2.2.2.2.2.2.2.2.2 hS ht hWm⟩
  exact ⟨⟨r, S, rfl, ⟨rfl, rfl⟩, hM⟩, hS.F ht⟩
theorem zb_lret {C : zC} {own : String} {cc : ByteArray} {n : Nat} {ret : Option FieldType} {rm : Room} {cs : Nat × Nat} {pc : Nat} {lv : List (Nat × Value)} {S : zS} (E : zE C own cc n ret rm) {r : Int64} (hQ : C.Q = zQl C rm r S) (hr : ret = some .long) (hcs : cs.1 ≤ rm.cells ∧ cs.2 ≤ rm.slots) (d : decode cc pc = .ok (.lreturn, 1)) : zB C cs pc lv [.long r] S := by
  obtain ⟨p, l, e, R, s, m, args, below, meth, c, Q, X, nn⟩ := C
  intro H locs ls hl hW hS
  have hQ2 : Q = MQ below (va_Ql (fun (r2 : Int64) (u : zS) => r2 = r ∧ u = S) (zM X) (zA X)) args s rm.cells rm.slots (zA X) := hQ
  subst hQ2
  refine W.widen hcs.1 hcs.2 ?_
  refine W.lret E.1 E.2.1 (E.2.2.2.2.2.2.1.trans hr) (fun t ht hWm => ?_) hS.2.2 d E.2.2.2.2.2.2.2.1
  have hM : zM X S t := ⟨by rw [ht]; exact hW, zK.to E.2.2.2.2.2.2.2.2.2 hS ht hWm⟩
  exact ⟨⟨r, S, rfl, ⟨rfl, rfl⟩, hM⟩, hS.F ht⟩
theorem zb_vret {C : zC} {own : String} {cc : ByteArray} {n : Nat} {ret : Option FieldType} {rm : Room} {cs : Nat × Nat} {pc : Nat} {lv : List (Nat × Value)} {S : zS} (E : zE C own cc n ret rm)  (hQ : C.Q = zQv C rm S) (hr : ret = none) (hcs : cs.1 ≤ rm.cells ∧ cs.2 ≤ rm.slots) (d : decode cc pc = .ok (.return_, 1)) : zB C cs pc lv [] S := by
  obtain ⟨p, l, e, R, s, m, args, below, meth, c, Q, X, nn⟩ := C
  intro H locs ls hl hW hS
  have hQ2 : Q = MQ below (va_Qv (fun (u : zS) => u = S) (zM X) (zA X)) args s rm.cells rm.slots (zA X) := hQ
  subst hQ2
  refine W.widen hcs.1 hcs.2 ?_
  refine W.vret E.1 E.2.1 (E.2.2.2.2.2.2.1.trans hr) (fun t ht hWm => ?_) hS.2.2 d E.2.2.2.2.2.2.2.1
  have hM : zM X S t := ⟨by rw [ht]; exact hW, zK.to E.2.2.2.2.2.2.2.2.2 hS ht hWm⟩
  exact ⟨⟨S, rfl, rfl, hM⟩, hS.F ht⟩
theorem zb_qret {C : zC} {own : String} {cc : ByteArray} {n : Nat} {ret : Option FieldType} {rm : Room} {cs : Nat × Nat} {pc : Nat} {lv : List (Nat × Value)} {S : zS} (E : zE C own cc n ret rm) {r : Option Nat} (hQ : C.Q = zQq C rm r S) {ty : FieldType} (hr : ret = some ty) (hrt : (∃ n, ty = .object n) ∨ ∃ t, ty = .array t) (hcs : cs.1 ≤ rm.cells ∧ cs.2 ≤ rm.slots) (d : decode cc pc = .ok (.areturn, 1)) : zB C cs pc lv [va_rf r] S := by
  obtain ⟨p, l, e, R, s, m, args, below, meth, c, Q, X, nn⟩ := C
  intro H locs ls hl hW hS
  have hQ2 : Q = MQ below (va_Qq (fun (r2 : Option Nat) (u : zS) => r2 = r ∧ u = S) (zM X) (zA X)) args s rm.cells rm.slots (zA X) := hQ
  subst hQ2
  refine W.widen hcs.1 hcs.2 ?_
  refine W.aret E.1 E.2.1 (E.2.2.2.2.2.2.1.trans hr) hrt (va_rf_or r) (fun t ht hWm => ?_) hS.2.2 d E.2.2.2.2.2.2.2.1
  have hM : zM X S t := ⟨by rw [ht]; exact hW, zK.to E.2.2.2.2.2.2.2.2.2 hS ht hWm⟩
  exact ⟨⟨r, S, rfl, ⟨rfl, rfl⟩, hM⟩, hS.F ht⟩
def zYv (y : MethodName) (cc : ByteArray) (n : Nat) (ret : Option FieldType) (k : Nat) : Prop := Cond.instanceMethod y ∈ zT ∧ Cond.selects y.cls y y ∈ zT ∧ Cond.initialized y.cls ∈ zT ∧ Cond.code y cc n ret ∈ zT ∧ (y.cls ≠ "java/lang/invoke/MethodHandle" ∧ y.cls ≠ "java/lang/invoke/VarHandle" ∧ (parseMethodDescriptor y.desc).map (fun d => d.parameters.length) = some k)
def zYs (y : MethodName) (cc : ByteArray) (n : Nat) (ret : Option FieldType) (k : Nat) : Prop := Cond.static y ∈ zT ∧ Cond.initialized y.cls ∈ zT ∧ Cond.code y cc n ret ∈ zT ∧ (y.cls ≠ "java/lang/invoke/MethodHandle" ∧ y.cls ≠ "java/lang/invoke/VarHandle" ∧ (parseMethodDescriptor y.desc).map (fun d => d.parameters.length) = some k)
theorem zcb {s : State} {args : Array Value} {own : String} {index : Nat} {y : MethodName} {cc : ByteArray} {n k : Nat} {ret : Option FieldType} {R rm : Room} (ht : ∀ w ∈ zT, w.before args s = true) (hini : Cond.initialized y.cls ∈ zT) (hcode : Cond.code y cc n ret ∈ zT) (hd : y.cls ≠ "java/lang/invoke/MethodHandle" ∧ y.cls ≠ "java/lang/invoke/VarHandle" ∧ (parseMethodDescriptor y.desc).map (fun d => d.parameters.length) = some k) (hl : Cond.methodLink own index y ∈ zT) (hR : rm.frames + 1 ≤ R.frames ∧ 8 + (n + 11) + rm.locals ≤ R.locals) : CallB R s args own index y cc n ret (Cond.code y cc n ret :: zT) rm rm.cells rm.slots k := by
  refine callB_of (Ts := Cond.code y cc n ret :: zT) k (fun w hw => ?_) (zT_good hcode) rfl rfl rfl (ht _ hini) (ht _ hl) hd hR
  rcases List.mem_cons.mp hw with e | e
  · exact ht _ (e ▸ hcode)
  · exact ht _ e
theorem zcn {s : State} {args : Array Value} {own host : String} {index : Nat} {y : MethodName} {cc : ByteArray} {n k : Nat} {ret : Option FieldType} {R rm : Room} (ht : ∀ w ∈ zT, w.before args s = true) (hini : Cond.initialized y.cls ∈ zT) (hcode : Cond.code y cc n ret ∈ zT) (hd : y.cls ≠ "java/lang/invoke/MethodHandle" ∧ y.cls ≠ "java/lang/invoke/VarHandle" ∧ (parseMethodDescriptor y.desc).map (fun d => d.parameters.length) = some k) (hl : va_Nw (Cond.methodLinkNest own index y host) s) (hR : rm.frames + 1 ≤ R.frames ∧ 8 + (n + 11) + rm.locals ≤ R.locals) : va_CN R s args own index y host cc n ret (Cond.code y cc n ret :: zT) rm rm.cells rm.slots k := by
  refine va_cnB (Ts := Cond.code y cc n ret :: zT) k (fun w hw => ?_) (zT_good hcode) rfl rfl rfl hl (ht _ hini) hd hR
  rcases List.mem_cons.mp hw with e | e
  · exact ht _ (e ▸ hcode)
  · exact ht _ e
theorem zb_cVi {C : zC} {own : String} {cc : ByteArray} {n : Nat} {ret : Option FieldType} {rm : Room} {cs : Nat × Nat} {pc : Nat} {lv : List (Nat × Value)} {st : List Value} {S : zS} (E : zE C own cc n ret rm) {y : MethodName} {cy : ByteArray} {ny na : Nat} {ry : Option FieldType} {rm2 : Room} {S2 : zS} {r : Int32} (As : List Value) (k : Nat) {ci N : Nat} {TF : u_T} {fs : List Value} (hY : zYv y cy ny ry na) {index : Nat} (hl : Cond.methodLink own index y ∈ zT) (hk : k < 182) (hF : zF C.X k (S.1 k) (S.2.1 k) (S.2.2.1 k) = .inr (ci, fs)) (hc : vwCl[ci]? = some (y.cls, TF, N)) (hM : zMi C.l y cy ny ry rm2 C.X (.ref (C.X.1 + k) :: As) S r S2) (hR : rm2.frames + 1 ≤ rm.frames ∧ 8 + (ny + 11) + rm2.locals ≤ rm.locals ∧ cs.1 + rm2.cells ≤ rm.cells ∧ cs.2 + rm2.slots ≤ rm.slots) (hn : As.length = na) {stk : List Value} (hst : stk = As.reverse ++ .ref (C.X.1 + k) :: st) (hcat : (st.map fun v => v.category).sum ≤ 8) (d : decode cc pc = .ok (.invokevirtual index, 3)) {cs2 : Nat × Nat} (hcs2 : (cs.1 + rm2.cells, cs.2 + rm2.slots) = cs2) (kk : zB C cs2 (pc + 3) lv (.int r :: st) S2) : zB C cs pc lv stk S := by
  obtain ⟨p, l, e, R, s, m, args, below, meth, c, Q, X, nn⟩ := C
  intro H locs ls hl0 hW hS
  subst hst
  subst hcs2
  obtain ⟨y1, y2, y3, y4, y5⟩ := hY
  have hR2 : R = rm := E.2.2.2.2.2.2.2.2.1
  subst hR2
  have run := va_runV (ws := Cond.code y cy ny ry :: zT) (H := H) (locs := locs) (cells := cs.1) (slots := cs.2) (l := l) (e := e) (below := below) (meth := meth) (rest := st) (g := F0 m pc ls _) ⟨E.1, E.2.1, E.2.2.1, E.2.2.2.2.1, E.2.2.2.2.2.1⟩ hM ⟨zcb E.2.2.2.2.2.1 y3 y4 y5 hl ⟨hR.1, hR.2.1⟩, E.2.2.2.2.2.1 _ y1, E.2.2.2.2.2.1 _ y2⟩ ⟨zK_blind, ⟨va_recv (q0 := 0) E.2.2.2.2.2.2.2.2.2.1 (hW.at_ hk hF) hc rfl, fun U hU hWm => ⟨rfl, by rw [hU]; exact hW, zK.to E.2.2.2.2.2.2.2.2.2 hS hU hWm⟩⟩⟩ rfl hn (hl0.1.trans E.2.2.2.1) rfl (by show 2 * 0 + _ ≤ 8; omega) d ⟨hR.2.2.1, hR.2.2.2⟩
  refine va_calli run hS (fun q _ h => h) (fun q h => h) ?_
  intro r2 u t H1 locs1 ht hal hpo hB hz hfr hS1
  obtain ⟨rfl, rfl⟩ := hpo
  exact kk H1 locs1 ls hl0 (by rw [← ht]; exact hB.1) hS1
theorem zb_cSi {C : zC} {own : String} {cc : ByteArray} {n : Nat} {ret : Option FieldType} {rm : Room} {cs : Nat × Nat} {pc : Nat} {lv : List (Nat × Value)} {st : List Value} {S : zS} (E : zE C own cc n ret rm) {y : MethodName} {cy : ByteArray} {ny na : Nat} {ry : Option FieldType} {rm2 : Room} {S2 : zS} {r : Int32} (As : List Value) (hY : zYs y cy ny ry na) {index : Nat} (hl : Cond.methodLink own index y ∈ zT) (hM : zMi C.l y cy ny ry rm2 C.X As S r S2) (hR : rm2.frames + 1 ≤ rm.frames ∧ 8 + (ny + 11) + rm2.locals ≤ rm.locals ∧ cs.1 + rm2.cells ≤ rm.cells ∧ cs.2 + rm2.slots ≤ rm.slots) (hn : As.length = na) {stk : List Value} (hst : stk = As.reverse ++ st) (hcat : (st.map fun v => v.category).sum ≤ 8) (d : decode cc pc = .ok (.invokestatic index, 3)) {cs2 : Nat × Nat} (hcs2 : (cs.1 + rm2.cells, cs.2 + rm2.slots) = cs2) (kk : zB C cs2 (pc + 3) lv (.int r :: st) S2) : zB C cs pc lv stk S := by
  obtain ⟨p, l, e, R, s, m, args, below, meth, c, Q, X, nn⟩ := C
  intro H locs ls hl0 hW hS
  subst hst
  subst hcs2
  obtain ⟨y1, y3, y4, y5⟩ := hY
  have hR2 : R = rm := E.2.2.2.2.2.2.2.2.1
  subst hR2
  have run := va_runS (ws := Cond.code y cy ny ry :: zT) (H := H) (locs := locs) (cells := cs.1) (slots := cs.2) (l := l) (e := e) (below := below) (meth := meth) (rest := st) (g := F0 m pc ls _) ⟨E.1, E.2.1, E.2.2.1, E.2.2.2.2.1, E.2.2.2.2.2.1⟩ hM ⟨zcb E.2.2.2.2.2.1 y3 y4 y5 hl ⟨hR.1, hR.2.1⟩, E.2.2.2.2.2.1 _ y1⟩ ⟨zK_blind, fun U hU hWm => ⟨rfl, by rw [hU]; exact hW, zK.to E.2.2.2.2.2.2.2.2.2 hS hU hWm⟩⟩ rfl hn (hl0.1.trans E.2.2.2.1) rfl (by show 2 * 0 + _ ≤ 8; omega) d ⟨hR.2.2.1, hR.2.2.2⟩
  refine va_calli run hS (fun q _ h => h) (fun q h => h) ?_
  intro r2 u t H1 locs1 ht hal hpo hB hz hfr hS1
  obtain ⟨rfl, rfl⟩ := hpo
  exact kk H1 locs1 ls hl0 (by rw [← ht]; exact hB.1) hS1
theorem zb_cVNi {C : zC} {own : String} {cc : ByteArray} {n : Nat} {ret : Option FieldType} {rm : Room} {cs : Nat × Nat} {pc : Nat} {lv : List (Nat × Value)} {st : List Value} {S : zS} (E : zE C own cc n ret rm) {y : MethodName} {cy : ByteArray} {ny na : Nat} {ry : Option FieldType} {rm2 : Room} {S2 : zS} {r : Int32} (As : List Value) (k : Nat) {ci N : Nat} {TF : u_T} {fs : List Value} (hY : zYv y cy ny ry na) {index : Nat} {host : String} (hl : Cond.methodLinkNest own index y host ∈ zN) (hk : k < 182) (hF : zF C.X k (S.1 k) (S.2.1 k) (S.2.2.1 k) = .inr (ci, fs)) (hc : vwCl[ci]? = some (y.cls, TF, N)) (hM : zMi C.l y cy ny ry rm2 C.X (.ref (C.X.1 + k) :: As) S r S2) (hR : rm2.frames + 1 ≤ rm.frames ∧ 8 + (ny + 11) + rm2.locals ≤ rm.locals ∧ cs.1 + rm2.cells ≤ rm.cells ∧ cs.2 + rm2.slots ≤ rm.slots) (hn : As.length = na) {stk : List Value} (hst : stk = As.reverse ++ .ref (C.X.1 + k) :: st) (hcat : (st.map fun v => v.category).sum ≤ 8) (d : decode cc pc = .ok (.invokevirtual index, 3)) {cs2 : Nat × Nat} (hcs2 : (cs.1 + rm2.cells, cs.2 + rm2.slots) = cs2) (kk : zB C cs2 (pc + 3) lv (.int r :: st) S2) : zB C cs pc lv stk S := by
  obtain ⟨p, l, e, R, s, m, args, below, meth, c, Q, X, nn⟩ := C
  intro H locs ls hl0 hW hS
  subst hst
  subst hcs2
  obtain ⟨y1, y2, y3, y4, y5⟩ := hY
  have hR2 : R = rm := E.2.2.2.2.2.2.2.2.1
  subst hR2
  have run := va_runVN (ws := Cond.code y cy ny ry :: zT) (H := H) (locs := locs) (cells := cs.1) (slots := cs.2) (l := l) (e := e) (below := below) (meth := meth) (rest := st) (g := F0 m pc ls _) ⟨E.1, E.2.1, E.2.2.1, E.2.2.2.2.1, E.2.2.2.2.2.1⟩ hM ⟨zcn E.2.2.2.2.2.1 y3 y4 y5 (E.2.2.2.2.2.2.2.2.2.2.1 _ hl) ⟨hR.1, hR.2.1⟩, E.2.2.2.2.2.1 _ y1, E.2.2.2.2.2.1 _ y2⟩ ⟨zK_blind, ⟨va_recv (q0 := 0) E.2.2.2.2.2.2.2.2.2.1 (hW.at_ hk hF) hc rfl, fun U hU hWm => ⟨rfl, by rw [hU]; exact hW, zK.to E.2.2.2.2.2.2.2.2.2 hS hU hWm⟩⟩⟩ rfl hn (hl0.1.trans E.2.2.2.1) rfl (by show 2 * 0 + _ ≤ 8; omega) d ⟨hR.2.2.1, hR.2.2.2⟩
  refine va_calli run hS (fun q _ h => h) (fun q h => h) ?_
  intro r2 u t H1 locs1 ht hal hpo hB hz hfr hS1
  obtain ⟨rfl, rfl⟩ := hpo
  exact kk H1 locs1 ls hl0 (by rw [← ht]; exact hB.1) hS1
theorem zb_cSNi {C : zC} {own : String} {cc : ByteArray} {n : Nat} {ret : Option FieldType} {rm : Room} {cs : Nat × Nat} {pc : Nat} {lv : List (Nat × Value)} {st : List Value} {S : zS} (E : zE C own cc n ret rm) {y : MethodName} {cy : ByteArray} {ny na : Nat} {ry : Option FieldType} {rm2 : Room} {S2 : zS} {r : Int32} (As : List Value) (hY : zYs y cy ny ry na) {index : Nat} {host : String} (hl : Cond.methodLinkNest own index y host ∈ zN) (hM : zMi C.l y cy ny ry rm2 C.X As S r S2) (hR : rm2.frames + 1 ≤ rm.frames ∧ 8 + (ny + 11) + rm2.locals ≤ rm.locals ∧ cs.1 + rm2.cells ≤ rm.cells ∧ cs.2 + rm2.slots ≤ rm.slots) (hn : As.length = na) {stk : List Value} (hst : stk = As.reverse ++ st) (hcat : (st.map fun v => v.category).sum ≤ 8) (d : decode cc pc = .ok (.invokestatic index, 3)) {cs2 : Nat × Nat} (hcs2 : (cs.1 + rm2.cells, cs.2 + rm2.slots) = cs2) (kk : zB C cs2 (pc + 3) lv (.int r :: st) S2) : zB C cs pc lv stk S := by
  obtain ⟨p, l, e, R, s, m, args, below, meth, c, Q, X, nn⟩ := C
  intro H locs ls hl0 hW hS
  subst hst
  subst hcs2
  obtain ⟨y1, y3, y4, y5⟩ := hY
  have hR2 : R = rm := E.2.2.2.2.2.2.2.2.1
  subst hR2
  have run := va_runSN (ws := Cond.code y cy ny ry :: zT) (H := H) (locs := locs) (cells := cs.1) (slots := cs.2) (l := l) (e := e) (below := below) (meth := meth) (rest := st) (g := F0 m pc ls _) ⟨E.1, E.2.1, E.2.2.1, E.2.2.2.2.1, E.2.2.2.2.2.1⟩ hM ⟨zcn E.2.2.2.2.2.1 y3 y4 y5 (E.2.2.2.2.2.2.2.2.2.2.1 _ hl) ⟨hR.1, hR.2.1⟩, E.2.2.2.2.2.1 _ y1, trivial⟩ ⟨zK_blind, fun U hU hWm => ⟨rfl, by rw [hU]; exact hW, zK.to E.2.2.2.2.2.2.2.2.2 hS hU hWm⟩⟩ rfl hn (hl0.1.trans E.2.2.2.1) rfl (by show 2 * 0 + _ ≤ 8; omega) d ⟨hR.2.2.1, hR.2.2.2⟩
  refine va_calli run hS (fun q _ h => h) (fun q h => h) ?_
  intro r2 u t H1 locs1 ht hal hpo hB hz hfr hS1
  obtain ⟨rfl, rfl⟩ := hpo
  exact kk H1 locs1 ls hl0 (by rw [← ht]; exact hB.1) hS1
theorem zb_cVl {C : zC} {own : String} {cc : ByteArray} {n : Nat} {ret : Option FieldType} {rm : Room} {cs : Nat × Nat} {pc : Nat} {lv : List (Nat × Value)} {st : List Value} {S : zS} (E : zE C own cc n ret rm) {y : MethodName} {cy : ByteArray} {ny na : Nat} {ry : Option FieldType} {rm2 : Room} {S2 : zS} {r : Int64} (As : List Value) (k : Nat) {ci N : Nat} {TF : u_T} {fs : List Value} (hY : zYv y cy ny ry na) {index : Nat} (hl : Cond.methodLink own index y ∈ zT) (hk : k < 182) (hF : zF C.X k (S.1 k) (S.2.1 k) (S.2.2.1 k) = .inr (ci, fs)) (hc : vwCl[ci]? = some (y.cls, TF, N)) (hM : zMl C.l y cy ny ry rm2 C.X (.ref (C.X.1 + k) :: As) S r S2) (hR : rm2.frames + 1 ≤ rm.frames ∧ 8 + (ny + 11) + rm2.locals ≤ rm.locals ∧ cs.1 + rm2.cells ≤ rm.cells ∧ cs.2 + rm2.slots ≤ rm.slots) (hn : As.length = na) {stk : List Value} (hst : stk = As.reverse ++ .ref (C.X.1 + k) :: st) (hcat : (st.map fun v => v.category).sum ≤ 8) (d : decode cc pc = .ok (.invokevirtual index, 3)) {cs2 : Nat × Nat} (hcs2 : (cs.1 + rm2.cells, cs.2 + rm2.slots) = cs2) (kk : zB C cs2 (pc + 3) lv (.long r :: st) S2) : zB C cs pc lv stk S := by
  obtain ⟨p, l, e, R, s, m, args, below, meth, c, Q, X, nn⟩ := C
  intro H locs ls hl0 hW hS
  subst hst
  subst hcs2
  obtain ⟨y1, y2, y3, y4, y5⟩ := hY
  have hR2 : R = rm := E.2.2.2.2.2.2.2.2.1
  subst hR2
  have run := va_runV (ws := Cond.code y cy ny ry :: zT) (H := H) (locs := locs) (cells := cs.1) (slots := cs.2) (l := l) (e := e) (below := below) (meth := meth) (rest := st) (g := F0 m pc ls _) ⟨E.1, E.2.1, E.2.2.1, E.2.2.2.2.1, E.2.2.2.2.2.1⟩ hM ⟨zcb E.2.2.2.2.2.1 y3 y4 y5 hl ⟨hR.1, hR.2.1⟩, E.2.2.2.2.2.1 _ y1, E.2.2.2.2.2.1 _ y2⟩ ⟨zK_blind, ⟨va_recv (q0 := 0) E.2.2.2.2.2.2.2.2.2.1 (hW.at_ hk hF) hc rfl, fun U hU hWm => ⟨rfl, by rw [hU]; exact hW, zK.to E.2.2.2.2.2.2.2.2.2 hS hU hWm⟩⟩⟩ rfl hn (hl0.1.trans E.2.2.2.1) rfl (by show 2 * 0 + _ ≤ 8; omega) d ⟨hR.2.2.1, hR.2.2.2⟩
  refine va_calll run hS (fun q _ h => h) (fun q h => h) ?_
  intro r2 u t H1 locs1 ht hal hpo hB hz hfr hS1
  obtain ⟨rfl, rfl⟩ := hpo
  exact kk H1 locs1 ls hl0 (by rw [← ht]; exact hB.1) hS1
theorem zb_cSl {C : zC} {own : String} {cc : ByteArray} {n : Nat} {ret : Option FieldType} {rm : Room} {cs : Nat × Nat} {pc : Nat} {lv : List (Nat × Value)} {st : List Value} {S : zS} (E : zE C own cc n ret rm) {y : MethodName} {cy : ByteArray} {ny na : Nat} {ry : Option FieldType} {rm2 : Room} {S2 : zS} {r : Int64} (As : List Value) (hY : zYs y cy ny ry na) {index : Nat} (hl : Cond.methodLink own index y ∈ zT) (hM : zMl C.l y cy ny ry rm2 C.X As S r S2) (hR : rm2.frames + 1 ≤ rm.frames ∧ 8 + (ny + 11) + rm2.locals ≤ rm.locals ∧ cs.1 + rm2.cells ≤ rm.cells ∧ cs.2 + rm2.slots ≤ rm.slots) (hn : As.length = na) {stk : List Value} (hst : stk = As.reverse ++ st) (hcat : (st.map fun v => v.category).sum ≤ 8) (d : decode cc pc = .ok (.invokestatic index, 3)) {cs2 : Nat × Nat} (hcs2 : (cs.1 + rm2.cells, cs.2 + rm2.slots) = cs2) (kk : zB C cs2 (pc + 3) lv (.long r :: st) S2) : zB C cs pc lv stk S := by
  obtain ⟨p, l, e, R, s, m, args, below, meth, c, Q, X, nn⟩ := C
  intro H locs ls hl0 hW hS
  subst hst
  subst hcs2
  obtain ⟨y1, y3, y4, y5⟩ := hY
  have hR2 : R = rm := E.2.2.2.2.2.2.2.2.1
  subst hR2
  have run := va_runS (ws := Cond.code y cy ny ry :: zT) (H := H) (locs := locs) (cells := cs.1) (slots := cs.2) (l := l) (e := e) (below := below) (meth := meth) (rest := st) (g := F0 m pc ls _) ⟨E.1, E.2.1, E.2.2.1, E.2.2.2.2.1, E.2.2.2.2.2.1⟩ hM ⟨zcb E.2.2.2.2.2.1 y3 y4 y5 hl ⟨hR.1, hR.2.1⟩, E.2.2.2.2.2.1 _ y1⟩ ⟨zK_blind, fun U hU hWm => ⟨rfl, by rw [hU]; exact hW, zK.to E.2.2.2.2.2.2.2.2.2 hS hU hWm⟩⟩ rfl hn (hl0.1.trans E.2.2.2.1) rfl (by show 2 * 0 + _ ≤ 8; omega) d ⟨hR.2.2.1, hR.2.2.2⟩
  refine va_calll run hS (fun q _ h => h) (fun q h => h) ?_
  intro r2 u t H1 locs1 ht hal hpo hB hz hfr hS1
  obtain ⟨rfl, rfl⟩ := hpo
  exact kk H1 locs1 ls hl0 (by rw [← ht]; exact hB.1) hS1
theorem zb_cVNl {C : zC} {own : String} {cc : ByteArray} {n : Nat} {ret : Option FieldType} {rm : Room} {cs : Nat × Nat} {pc : Nat} {lv : List (Nat × Value)} {st : List Value} {S : zS} (E : zE C own cc n ret rm) {y : MethodName} {cy : ByteArray} {ny na : Nat} {ry : Option FieldType} {rm2 : Room} {S2 : zS} {r : Int64} (As : List Value) (k : Nat) {ci N : Nat} {TF : u_T} {fs : List Value} (hY : zYv y cy ny ry na) {index : Nat} {host : String} (hl : Cond.methodLinkNest own index y host ∈ zN) (hk : k < 182) (hF : zF C.X k (S.1 k) (S.2.1 k) (S.2.2.1 k) = .inr (ci, fs)) (hc : vwCl[ci]? = some (y.cls, TF, N)) (hM : zMl C.l y cy ny ry rm2 C.X (.ref (C.X.1 + k) :: As) S r S2) (hR : rm2.frames + 1 ≤ rm.frames ∧ 8 + (ny + 11) + rm2.locals ≤ rm.locals ∧ cs.1 + rm2.cells ≤ rm.cells ∧ cs.2 + rm2.slots ≤ rm.slots) (hn : As.length = na) {stk : List Value} (hst : stk = As.reverse ++ .ref (C.X.1 + k) :: st) (hcat : (st.map fun v => v.category).sum ≤ 8) (d : decode cc pc = .ok (.invokevirtual index, 3)) {cs2 : Nat × Nat} (hcs2 : (cs.1 + rm2.cells, cs.2 + rm2.slots) = cs2) (kk : zB C cs2 (pc + 3) lv (.long r :: st) S2) : zB C cs pc lv stk S := by
  obtain ⟨p, l, e, R, s, m, args, below, meth, c, Q, X, nn⟩ := C
  intro H locs ls hl0 hW hS
  subst hst
  subst hcs2
  obtain ⟨y1, y2, y3, y4, y5⟩ := hY
  have hR2 : R = rm := E.2.2.2.2.2.2.2.2.1
  subst hR2
  have run := va_runVN (ws := Cond.code y cy ny ry :: zT) (H := H) (locs := locs) (cells := cs.1) (slots := cs.2) (l := l) (e := e) (below := below) (meth := meth) (rest := st) (g := F0 m pc ls _) ⟨E.1, E.2.1, E.2.2.1, E.2.2.2.2.1, E.2.2.2.2.2.1⟩ hM ⟨zcn E.2.2.2.2.2.1 y3 y4 y5 (E.2.2.2.2.2.2.2.2.2.2.1 _ hl) ⟨hR.1, hR.2.1⟩, E.2.2.2.2.2.1 _ y1, E.2.2.2.2.2.1 _ y2⟩ ⟨zK_blind, ⟨va_recv (q0 := 0) E.2.2.2.2.2.2.2.2.2.1 (hW.at_ hk hF) hc rfl, fun U hU hWm => ⟨rfl, by rw [hU]; exact hW, zK.to E.2.2.2.2.2.2.2.2.2 hS hU hWm⟩⟩⟩ rfl hn (hl0.1.trans E.2.2.2.1) rfl (by show 2 * 0 + _ ≤ 8; omega) d ⟨hR.2.2.1, hR.2.2.2⟩
  refine va_calll run hS (fun q _ h => h) (fun q h => h) ?_
  intro r2 u t H1 locs1 ht hal hpo hB hz hfr hS1
  obtain ⟨rfl, rfl⟩ := hpo
  exact kk H1 locs1 ls hl0 (by rw [← ht]; exact hB.1) hS1
theorem zb_cSNl {C : zC} {own : String} {cc : ByteArray} {n : Nat} {ret : Option FieldType} {rm : Room} {cs : Nat × Nat} {pc : Nat} {lv : List (Nat × Value)} {st : List Value} {S : zS} (E : zE C own cc n ret rm) {y : MethodName} {cy : ByteArray} {ny na : Nat} {ry : Option FieldType} {rm2 : Room} {S2 : zS} {r : Int64} (As : List Value) (hY : zYs y cy ny ry na) {index : Nat} {host : String} (hl : Cond.methodLinkNest own index y host ∈ zN) (hM : zMl C.l y cy ny ry rm2 C.X As S r S2) (hR : rm2.frames + 1 ≤ rm.frames ∧ 8 + (ny + 11) + rm2.locals ≤ rm.locals ∧ cs.1 + rm2.cells ≤ rm.cells ∧ cs.2 + rm2.slots ≤ rm.slots) (hn : As.length = na) {stk : List Value} (hst : stk = As.reverse ++ st) (hcat : (st.map fun v => v.category).sum ≤ 8) (d : decode cc pc = .ok (.invokestatic index, 3)) {cs2 : Nat × Nat} (hcs2 : (cs.1 + rm2.cells, cs.2 + rm2.slots) = cs2) (kk : zB C cs2 (pc + 3) lv (.long r :: st) S2) : zB C cs pc lv stk S := by
  obtain ⟨p, l, e, R, s, m, args, below, meth, c, Q, X, nn⟩ := C
  intro H locs ls hl0 hW hS
  subst hst
  subst hcs2
  obtain ⟨y1, y3, y4, y5⟩ := hY
  have hR2 : R = rm := E.2.2.2.2.2.2.2.2.1
  subst hR2
  have run := va_runSN (ws := Cond.code y cy ny ry :: zT) (H := H) (locs := locs) (cells := cs.1) (slots := cs.2) (l := l) (e := e) (below := below) (meth := meth) (rest := st) (g := F0 m pc ls _) ⟨E.1, E.2.1, E.2.2.1, E.2.2.2.2.1, E.2.2.2.2.2.1⟩ hM ⟨zcn E.2.2.2.2.2.1 y3 y4 y5 (E.2.2.2.2.2.2.2.2.2.2.1 _ hl) ⟨hR.1, hR.2.1⟩, E.2.2.2.2.2.1 _ y1, trivial⟩ ⟨zK_blind, fun U hU hWm => ⟨rfl, by rw [hU]; exact hW, zK.to E.2.2.2.2.2.2.2.2.2 hS hU hWm⟩⟩ rfl hn (hl0.1.trans E.2.2.2.1) rfl (by show 2 * 0 + _ ≤ 8; omega) d ⟨hR.2.2.1, hR.2.2.2⟩
  refine va_calll run hS (fun q _ h => h) (fun q h => h) ?_
  intro r2 u t H1 locs1 ht hal hpo hB hz hfr hS1
  obtain ⟨rfl, rfl⟩ := hpo
  exact kk H1 locs1 ls hl0 (by rw [← ht]; exact hB.1) hS1
theorem zb_cVv {C : zC} {own : String} {cc : ByteArray} {n : Nat} {ret : Option FieldType} {rm : Room} {cs : Nat × Nat} {pc : Nat} {lv : List (Nat × Value)} {st : List Value} {S : zS} (E : zE C own cc n ret rm) {y : MethodName} {cy : ByteArray} {ny na : Nat} {ry : Option FieldType} {rm2 : Room} {S2 : zS} (As : List Value) (k : Nat) {ci N : Nat} {TF : u_T} {fs : List Value} (hY : zYv y cy ny ry na) {index : Nat} (hl : Cond.methodLink own index y ∈ zT) (hk : k < 182) (hF : zF C.X k (S.1 k) (S.2.1 k) (S.2.2.1 k) = .inr (ci, fs)) (hc : vwCl[ci]? = some (y.cls, TF, N)) (hM : zMv C.l y cy ny ry rm2 C.X (.ref (C.X.1 + k) :: As) S S2) (hR : rm2.frames + 1 ≤ rm.frames ∧ 8 + (ny + 11) + rm2.locals ≤ rm.locals ∧ cs.1 + rm2.cells ≤ rm.cells ∧ cs.2 + rm2.slots ≤ rm.slots) (hn : As.length = na) {stk : List Value} (hst : stk = As.reverse ++ .ref (C.X.1 + k) :: st) (hcat : (st.map fun v => v.category).sum ≤ 8) (d : decode cc pc = .ok (.invokevirtual index, 3)) {cs2 : Nat × Nat} (hcs2 : (cs.1 + rm2.cells, cs.2 + rm2.slots) = cs2) (kk : zB C cs2 (pc + 3) lv (st) S2) : zB C cs pc lv stk S := by
  obtain ⟨p, l, e, R, s, m, args, below, meth, c, Q, X, nn⟩ := C
  intro H locs ls hl0 hW hS
  subst hst
  subst hcs2
  obtain ⟨y1, y2, y3, y4, y5⟩ := hY
  have hR2 : R = rm := E.2.2.2.2.2.2.2.2.1
  subst hR2
  have run := va_runV (ws := Cond.code y cy ny ry :: zT) (H := H) (locs := locs) (cells := cs.1) (slots := cs.2) (l := l) (e := e) (below := below) (meth := meth) (rest := st) (g := F0 m pc ls _) ⟨E.1, E.2.1, E.2.2.1, E.2.2.2.2.1, E.2.2.2.2.2.1⟩ hM ⟨zcb E.2.2.2.2.2.1 y3 y4 y5 hl ⟨hR.1, hR.2.1⟩, E.2.2.2.2.2.1 _ y1, E.2.2.2.2.2.1 _ y2⟩ ⟨zK_blind, ⟨va_recv (q0 := 0) E.2.2.2.2.2.2.2.2.2.1 (hW.at_ hk hF) hc rfl, fun U hU hWm => ⟨rfl, by rw [hU]; exact hW, zK.to E.2.2.2.2.2.2.2.2.2 hS hU hWm⟩⟩⟩ rfl hn (hl0.1.trans E.2.2.2.1) rfl (by show 2 * 0 + _ ≤ 8; omega) d ⟨hR.2.2.1, hR.2.2.2⟩
  refine va_callv run hS (fun q _ h => h) (fun q h => h) ?_
  intro u t H1 locs1 ht hal hpo hB hz hfr hS1
  obtain rfl := hpo
  exact kk H1 locs1 ls hl0 (by rw [← ht]; exact hB.1) hS1
theorem zb_cSv {C : zC} {own : String} {cc : ByteArray} {n : Nat} {ret : Option FieldType} {rm : Room} {cs : Nat × Nat} {pc : Nat} {lv : List (Nat × Value)} {st : List Value} {S : zS} (E : zE C own cc n ret rm) {y : MethodName} {cy : ByteArray} {ny na : Nat} {ry : Option FieldType} {rm2 : Room} {S2 : zS} (As : List Value) (hY : zYs y cy ny ry na) {index : Nat} (hl : Cond.methodLink own index y ∈ zT) (hM : zMv C.l y cy ny ry rm2 C.X As S S2) (hR : rm2.frames + 1 ≤ rm.frames ∧ 8 + (ny + 11) + rm2.locals ≤ rm.locals ∧ cs.1 + rm2.cells ≤ rm.cells ∧ cs.2 + rm2.slots ≤ rm.slots) (hn : As.length = na) {stk : List Value} (hst : stk = As.reverse ++ st) (hcat : (st.map fun v => v.category).sum ≤ 8) (d : decode cc pc = .ok (.invokestatic index, 3)) {cs2 : Nat × Nat} (hcs2 : (cs.1 + rm2.cells, cs.2 + rm2.slots) = cs2) (kk : zB C cs2 (pc + 3) lv (st) S2) : zB C cs pc lv stk S := by
  obtain ⟨p, l, e, R, s, m, args, below, meth, c, Q, X, nn⟩ := C
  intro H locs ls hl0 hW hS
  subst hst
  subst hcs2
  obtain ⟨y1, y3, y4, y5⟩ := hY
  have hR2 : R = rm := E.2.2.2.2.2.2.2.2.1
  subst hR2
  have run := va_runS (ws := Cond.code y cy ny ry :: zT) (H := H) (locs := locs) (cells := cs.1) (slots := cs.2) (l := l) (e := e) (below := below) (meth := meth) (rest := st) (g := F0 m pc ls _) ⟨E.1, E.2.1, E.2.2.1, E.2.2.2.2.1, E.2.2.2.2.2.1⟩ hM ⟨zcb E.2.2.2.2.2.1 y3 y4 y5 hl ⟨hR.1, hR.2.1⟩, E.2.2.2.2.2.1 _ y1⟩ ⟨zK_blind, fun U hU hWm => ⟨rfl, by rw [hU]; exact hW, zK.to E.2.2.2.2.2.2.2.2.2 hS hU hWm⟩⟩ rfl hn (hl0.1.trans E.2.2.2.1) rfl (by show 2 * 0 + _ ≤ 8; omega) d ⟨hR.2.2.1, hR.2.2.2⟩
  refine va_callv run hS (fun q _ h => h) (fun q h => h) ?_
  intro u t H1 locs1 ht hal hpo hB hz hfr hS1
  obtain rfl := hpo
  exact kk H1 locs1 ls hl0 (by rw [← ht]; exact hB.1) hS1
theorem zb_cVNv {C : zC} {own : String} {cc : ByteArray} {n : Nat} {ret : Option FieldType} {rm : Room} {cs : Nat × Nat} {pc : Nat} {lv : List (Nat × Value)} {st : List Value} {S : zS} (E : zE C own cc n ret rm) {y : MethodName} {cy : ByteArray} {ny na : Nat} {ry : Option FieldType} {rm2 : Room} {S2 : zS} (As : List Value) (k : Nat) {ci N : Nat} {TF : u_T} {fs : List Value} (hY : zYv y cy ny ry na) {index : Nat} {host : String} (hl : Cond.methodLinkNest own index y host ∈ zN) (hk : k < 182) (hF : zF C.X k (S.1 k) (S.2.1 k) (S.2.2.1 k) = .inr (ci, fs)) (hc : vwCl[ci]? = some (y.cls, TF, N)) (hM : zMv C.l y cy ny ry rm2 C.X (.ref (C.X.1 + k) :: As) S S2) (hR : rm2.frames + 1 ≤ rm.frames ∧ 8 + (ny + 11) + rm2.locals ≤ rm.locals ∧ cs.1 + rm2.cells ≤ rm.cells ∧ cs.2 + rm2.slots ≤ rm.slots) (hn : As.length = na) {stk : List Value} (hst : stk = As.reverse ++ .ref (C.X.1 + k) :: st) (hcat : (st.map fun v => v.category).sum ≤ 8) (d : decode cc pc = .ok (.invokevirtual index, 3)) {cs2 : Nat × Nat} (hcs2 : (cs.1 + rm2.cells, cs.2 + rm2.slots) = cs2) (kk : zB C cs2 (pc + 3) lv (st) S2) : zB C cs pc lv stk S := by
  obtain ⟨p, l, e, R, s, m, args, below, meth, c, Q, X, nn⟩ := C
  intro H locs ls hl0 hW hS
  subst hst
  subst hcs2
  obtain ⟨y1, y2, y3, y4, y5⟩ := hY
  have hR2 : R = rm := E.2.2.2.2.2.2.2.2.1
  subst hR2
  have run := va_runVN (ws := Cond.code y cy ny ry :: zT) (H := H) (locs := locs) (cells := cs.1) (slots := cs.2) (l := l) (e := e) (below := below) (meth := meth) (rest := st) (g := F0 m pc ls _) ⟨E.1, E.2.1, E.2.2.1, E.2.2.2.2.1, E.2.2.2.2.2.1⟩ hM ⟨zcn E.2.2.2.2.2.1 y3 y4 y5 (E.2.2.2.2.2.2.2.2.2.2.1 _ hl) ⟨hR.1, hR.2.1⟩, E.2.2.2.2.2.1 _ y1, E.2.2.2.2.2.1 _ y2⟩ ⟨zK_blind, ⟨va_recv (q0 := 0) E.2.2.2.2.2.2.2.2.2.1 (hW.at_ hk hF) hc rfl, fun U hU hWm => ⟨rfl, by rw [hU]; exact hW, zK.to E.2.2.2.2.2.2.2.2.2 hS hU hWm⟩⟩⟩ rfl hn (hl0.1.trans E.2.2.2.1) rfl (by show 2 * 0 + _ ≤ 8; omega) d ⟨hR.2.2.1, hR.2.2.2⟩
  refine va_callv run hS (fun q _ h => h) (fun q h => h) ?_
  intro u t H1 locs1 ht hal hpo hB hz hfr hS1
  obtain rfl := hpo
  exact kk H1 locs1 ls hl0 (by rw [← ht]; exact hB.1) hS1
theorem zb_cSNv {C : zC} {own : String} {cc : ByteArray} {n : Nat} {ret : Option FieldType} {rm : Room} {cs : Nat × Nat} {pc : Nat} {lv : List (Nat × Value)} {st : List Value} {S : zS} (E : zE C own cc n ret rm) {y : MethodName} {cy : ByteArray} {ny na : Nat} {ry : Option FieldType} {rm2 : Room} {S2 : zS} (As : List Value) (hY : zYs y cy ny ry na) {index : Nat} {host : String} (hl : Cond.methodLinkNest own index y host ∈ zN) (hM : zMv C.l y cy ny ry rm2 C.X As S S2) (hR : rm2.frames + 1 ≤ rm.frames ∧ 8 + (ny + 11) + rm2.locals ≤ rm.locals ∧ cs.1 + rm2.cells ≤ rm.cells ∧ cs.2 + rm2.slots ≤ rm.slots) (hn : As.length = na) {stk : List Value} (hst : stk = As.reverse ++ st) (hcat : (st.map fun v => v.category).sum ≤ 8) (d : decode cc pc = .ok (.invokestatic index, 3)) {cs2 : Nat × Nat} (hcs2 : (cs.1 + rm2.cells, cs.2 + rm2.slots) = cs2) (kk : zB C cs2 (pc + 3) lv (st) S2) : zB C cs pc lv stk S := by
  obtain ⟨p, l, e, R, s, m, args, below, meth, c, Q, X, nn⟩ := C
  intro H locs ls hl0 hW hS
  subst hst
  subst hcs2
  obtain ⟨y1, y3, y4, y5⟩ := hY
  have hR2 : R = rm := E.2.2.2.2.2.2.2.2.1
  subst hR2
  have run := va_runSN (ws := Cond.code y cy ny ry :: zT) (H := H) (locs := locs) (cells := cs.1) (slots := cs.2) (l := l) (e := e) (below := below) (meth := meth) (rest := st) (g := F0 m pc ls _) ⟨E.1, E.2.1, E.2.2.1, E.2.2.2.2.1, E.2.2.2.2.2.1⟩ hM ⟨zcn E.2.2.2.2.2.1 y3 y4 y5 (E.2.2.2.2.2.2.2.2.2.2.1 _ hl) ⟨hR.1, hR.2.1⟩, E.2.2.2.2.2.1 _ y1, trivial⟩ ⟨zK_blind, fun U hU hWm => ⟨rfl, by rw [hU]; exact hW, zK.to E.2.2.2.2.2.2.2.2.2 hS hU hWm⟩⟩ rfl hn (hl0.1.trans E.2.2.2.1) rfl (by show 2 * 0 + _ ≤ 8; omega) d ⟨hR.2.2.1, hR.2.2.2⟩
  refine va_callv run hS (fun q _ h => h) (fun q h => h) ?_
  intro u t H1 locs1 ht hal hpo hB hz hfr hS1
  obtain rfl := hpo
  exact kk H1 locs1 ls hl0 (by rw [← ht]; exact hB.1) hS1
theorem zb_cVq {C : zC} {own : String} {cc : ByteArray} {n : Nat} {ret : Option FieldType} {rm : Room} {cs : Nat × Nat} {pc : Nat} {lv : List (Nat × Value)} {st : List Value} {S : zS} (E : zE C own cc n ret rm) {y : MethodName} {cy : ByteArray} {ny na : Nat} {ry : Option FieldType} {rm2 : Room} {S2 : zS} {r : Option Nat} (As : List Value) (k : Nat) {ci N : Nat} {TF : u_T} {fs : List Value} (hY : zYv y cy ny ry na) {index : Nat} (hl : Cond.methodLink own index y ∈ zT) (hk : k < 182) (hF : zF C.X k (S.1 k) (S.2.1 k) (S.2.2.1 k) = .inr (ci, fs)) (hc : vwCl[ci]? = some (y.cls, TF, N)) (hM : zMq C.l y cy ny ry rm2 C.X (.ref (C.X.1 + k) :: As) S r S2) (hR : rm2.frames + 1 ≤ rm.frames ∧ 8 + (ny + 11) + rm2.locals ≤ rm.locals ∧ cs.1 + rm2.cells ≤ rm.cells ∧ cs.2 + rm2.slots ≤ rm.slots) (hn : As.length = na) {stk : List Value} (hst : stk = As.reverse ++ .ref (C.X.1 + k) :: st) (hcat : (st.map fun v => v.category).sum ≤ 8) (d : decode cc pc = .ok (.invokevirtual index, 3)) {cs2 : Nat × Nat} (hcs2 : (cs.1 + rm2.cells, cs.2 + rm2.slots) = cs2) (kk : zB C cs2 (pc + 3) lv (va_rf r :: st) S2) : zB C cs pc lv stk S := by
  obtain ⟨p, l, e, R, s, m, args, below, meth, c, Q, X, nn⟩ := C
  intro H locs ls hl0 hW hS
  subst hst
  subst hcs2
  obtain ⟨y1, y2, y3, y4, y5⟩ := hY
  have hR2 : R = rm := E.2.2.2.2.2.2.2.2.1
  subst hR2
  have run := va_runV (ws := Cond.code y cy ny ry :: zT) (H := H) (locs := locs) (cells := cs.1) (slots := cs.2) (l := l) (e := e) (below := below) (meth := meth) (rest := st) (g := F0 m pc ls _) ⟨E.1, E.2.1, E.2.2.1, E.2.2.2.2.1, E.2.2.2.2.2.1⟩ hM ⟨zcb E.2.2.2.2.2.1 y3 y4 y5 hl ⟨hR.1, hR.2.1⟩, E.2.2.2.2.2.1 _ y1, E.2.2.2.2.2.1 _ y2⟩ ⟨zK_blind, ⟨va_recv (q0 := 0) E.2.2.2.2.2.2.2.2.2.1 (hW.at_ hk hF) hc rfl, fun U hU hWm => ⟨rfl, by rw [hU]; exact hW, zK.to E.2.2.2.2.2.2.2.2.2 hS hU hWm⟩⟩⟩ rfl hn (hl0.1.trans E.2.2.2.1) rfl (by show 2 * 0 + _ ≤ 8; omega) d ⟨hR.2.2.1, hR.2.2.2⟩
  refine va_callq run hS (fun q _ h => h) (fun q h => h) ?_
  intro r2 u t H1 locs1 ht hal hpo hB hz hfr hS1
  obtain ⟨rfl, rfl⟩ := hpo
  exact kk H1 locs1 ls hl0 (by rw [← ht]; exact hB.1) hS1
theorem zb_cSq {C : zC} {own : String} {cc : ByteArray} {n : Nat} {ret : Option FieldType} {rm : Room} {cs : Nat × Nat} {pc : Nat} {lv : List (Nat × Value)} {st : List Value} {S : zS} (E : zE C own cc n ret rm) {y : MethodName} {cy : ByteArray} {ny na : Nat} {ry : Option FieldType} {rm2 : Room} {S2 : zS} {r : Option Nat} (As : List Value) (hY : zYs y cy ny ry na) {index : Nat} (hl : Cond.methodLink own index y ∈ zT) (hM : zMq C.l y cy ny ry rm2 C.X As S r S2) (hR : rm2.frames + 1 ≤ rm.frames ∧ 8 + (ny + 11) + rm2.locals ≤ rm.locals ∧ cs.1 + rm2.cells ≤ rm.cells ∧ cs.2 + rm2.slots ≤ rm.slots) (hn : As.length = na) {stk : List Value} (hst : stk = As.reverse ++ st) (hcat : (st.map fun v => v.category).sum ≤ 8) (d : decode cc pc = .ok (.invokestatic index, 3)) {cs2 : Nat × Nat} (hcs2 : (cs.1 + rm2.cells, cs.2 + rm2.slots) = cs2) (kk : zB C cs2 (pc + 3) lv (va_rf r :: st) S2) : zB C cs pc lv stk S := by
  obtain ⟨p, l, e, R, s, m, args, below, meth, c, Q, X, nn⟩ := C
  intro H locs ls hl0 hW hS
  subst hst
  subst hcs2
  obtain ⟨y1, y3, y4, y5⟩ := hY
  have hR2 : R = rm := E.2.2.2.2.2.2.2.2.1
  subst hR2
  have run := va_runS (ws := Cond.code y cy ny ry :: zT) (H := H) (locs := locs) (cells := cs.1) (slots := cs.2) (l := l) (e := e) (below := below) (meth := meth) (rest := st) (g := F0 m pc ls _) ⟨E.1, E.2.1, E.2.2.1, E.2.2.2.2.1, E.2.2.2.2.2.1⟩ hM ⟨zcb E.2.2.2.2.2.1 y3 y4 y5 hl ⟨hR.1, hR.2.1⟩, E.2.2.2.2.2.1 _ y1⟩ ⟨zK_blind, fun U hU hWm => ⟨rfl, by rw [hU]; exact hW, zK.to E.2.2.2.2.2.2.2.2.2 hS hU hWm⟩⟩ rfl hn (hl0.1.trans E.2.2.2.1) rfl (by show 2 * 0 + _ ≤ 8; omega) d ⟨hR.2.2.1, hR.2.2.2⟩
  refine va_callq run hS (fun q _ h => h) (fun q h => h) ?_
  intro r2 u t H1 locs1 ht hal hpo hB hz hfr hS1
  obtain ⟨rfl, rfl⟩ := hpo
  exact kk H1 locs1 ls hl0 (by rw [← ht]; exact hB.1) hS1
theorem zb_cVNq {C : zC} {own : String} {cc : ByteArray} {n : Nat} {ret : Option FieldType} {rm : Room} {cs : Nat × Nat} {pc : Nat} {lv : List (Nat × Value)} {st : List Value} {S : zS} (E : zE C own cc n ret rm) {y : MethodName} {cy : ByteArray} {ny na : Nat} {ry : Option FieldType} {rm2 : Room} {S2 : zS} {r : Option Nat} (As : List Value) (k : Nat) {ci N : Nat} {TF : u_T} {fs : List Value} (hY : zYv y cy ny ry na) {index : Nat} {host : String} (hl : Cond.methodLinkNest own index y host ∈ zN) (hk : k < 182) (hF : zF C.X k (S.1 k) (S.2.1 k) (S.2.2.1 k) = .inr (ci, fs)) (hc : vwCl[ci]? = some (y.cls, TF, N)) (hM : zMq C.l y cy ny ry rm2 C.X (.ref (C.X.1 + k) :: As) S r S2) (hR : rm2.frames + 1 ≤ rm.frames ∧ 8 + (ny + 11) + rm2.locals ≤ rm.locals ∧ cs.1 + rm2.cells ≤ rm.cells ∧ cs.2 + rm2.slots ≤ rm.slots) (hn : As.length = na) {stk : List Value} (hst : stk = As.reverse ++ .ref (C.X.1 + k) :: st) (hcat : (st.map fun v => v.category).sum ≤ 8) (d : decode cc pc = .ok (.invokevirtual index, 3)) {cs2 : Nat × Nat} (hcs2 : (cs.1 + rm2.cells, cs.2 + rm2.slots) = cs2) (kk : zB C cs2 (pc + 3) lv (va_rf r :: st) S2) : zB C cs pc lv stk S := by
  obtain ⟨p, l, e, R, s, m, args, below, meth, c, Q, X, nn⟩ := C
  intro H locs ls hl0 hW hS
  subst hst
  subst hcs2
  obtain ⟨y1, y2, y3, y4, y5⟩ := hY
  have hR2 : R = rm := E.2.2.2.2.2.2.2.2.1
  subst hR2
  have run := va_runVN (ws := Cond.code y cy ny ry :: zT) (H := H) (locs := locs) (cells := cs.1) (slots := cs.2) (l := l) (e := e) (below := below) (meth := meth) (rest := st) (g := F0 m pc ls _) ⟨E.1, E.2.1, E.2.2.1, E.2.2.2.2.1, E.2.2.2.2.2.1⟩ hM ⟨zcn E.2.2.2.2.2.1 y3 y4 y5 (E.2.2.2.2.2.2.2.2.2.2.1 _ hl) ⟨hR.1, hR.2.1⟩, E.2.2.2.2.2.1 _ y1, E.2.2.2.2.2.1 _ y2⟩ ⟨zK_blind, ⟨va_recv (q0 := 0) E.2.2.2.2.2.2.2.2.2.1 (hW.at_ hk hF) hc rfl, fun U hU hWm => ⟨rfl, by rw [hU]; exact hW, zK.to E.2.2.2.2.2.2.2.2.2 hS hU hWm⟩⟩⟩ rfl hn (hl0.1.trans E.2.2.2.1) rfl (by show 2 * 0 + _ ≤ 8; omega) d ⟨hR.2.2.1, hR.2.2.2⟩
  refine va_callq run hS (fun q _ h => h) (fun q h => h) ?_
  intro r2 u t H1 locs1 ht hal hpo hB hz hfr hS1
  obtain ⟨rfl, rfl⟩ := hpo
  exact kk H1 locs1 ls hl0 (by rw [← ht]; exact hB.1) hS1
theorem zb_cSNq {C : zC} {own : String} {cc : ByteArray} {n : Nat} {ret : Option FieldType} {rm : Room} {cs : Nat × Nat} {pc : Nat} {lv : List (Nat × Value)} {st : List Value} {S : zS} (E : zE C own cc n ret rm) {y : MethodName} {cy : ByteArray} {ny na : Nat} {ry : Option FieldType} {rm2 : Room} {S2 : zS} {r : Option Nat} (As : List Value) (hY : zYs y cy ny ry na) {index : Nat} {host : String} (hl : Cond.methodLinkNest own index y host ∈ zN) (hM : zMq C.l y cy ny ry rm2 C.X As S r S2) (hR : rm2.frames + 1 ≤ rm.frames ∧ 8 + (ny + 11) + rm2.locals ≤ rm.locals ∧ cs.1 + rm2.cells ≤ rm.cells ∧ cs.2 + rm2.slots ≤ rm.slots) (hn : As.length = na) {stk : List Value} (hst : stk = As.reverse ++ st) (hcat : (st.map fun v => v.category).sum ≤ 8) (d : decode cc pc = .ok (.invokestatic index, 3)) {cs2 : Nat × Nat} (hcs2 : (cs.1 + rm2.cells, cs.2 + rm2.slots) = cs2) (kk : zB C cs2 (pc + 3) lv (va_rf r :: st) S2) : zB C cs pc lv stk S := by
  obtain ⟨p, l, e, R, s, m, args, below, meth, c, Q, X, nn⟩ := C
  intro H locs ls hl0 hW hS
  subst hst
  subst hcs2
  obtain ⟨y1, y3, y4, y5⟩ := hY
  have hR2 : R = rm := E.2.2.2.2.2.2.2.2.1
  subst hR2
  have run := va_runSN (ws := Cond.code y cy ny ry :: zT) (H := H) (locs := locs) (cells := cs.1) (slots := cs.2) (l := l) (e := e) (below := below) (meth := meth) (rest := st) (g := F0 m pc ls _) ⟨E.1, E.2.1, E.2.2.1, E.2.2.2.2.1, E.2.2.2.2.2.1⟩ hM ⟨zcn E.2.2.2.2.2.1 y3 y4 y5 (E.2.2.2.2.2.2.2.2.2.2.1 _ hl) ⟨hR.1, hR.2.1⟩, E.2.2.2.2.2.1 _ y1, trivial⟩ ⟨zK_blind, fun U hU hWm => ⟨rfl, by rw [hU]; exact hW, zK.to E.2.2.2.2.2.2.2.2.2 hS hU hWm⟩⟩ rfl hn (hl0.1.trans E.2.2.2.1) rfl (by show 2 * 0 + _ ≤ 8; omega) d ⟨hR.2.2.1, hR.2.2.2⟩
  refine va_callq run hS (fun q _ h => h) (fun q h => h) ?_
  intro r2 u t H1 locs1 ht hal hpo hB hz hfr hS1
  obtain ⟨rfl, rfl⟩ := hpo
  exact kk H1 locs1 ls hl0 (by rw [← ht]; exact hB.1) hS1
