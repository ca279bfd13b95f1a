set_option maxHeartbeats 400000
set_option maxRecDepth 100000
theorem ze_iast {C : zC} {own : String} {cc : ByteArray} {n : Nat} {ret : Option FieldType} {rm : Room} {cs : Nat × Nat} {pc : Nat} {lv : List (Nat × Value)} {st : List Value} {n0 : Nat} {e : Nat → va_E} (E : zEe C own cc n ret rm) (k : Nat) {N : Nat} (hk : k < n0) {f : Nat → Int32} (he : e k = .inl (C.X.2.2.1 0, N, .inl f)) {i x : Int32} (hin : vp_in i N) {j : Nat} (hj : i.toNatClampNeg = j) {x2 : Int32} (hx : x = x2) {e2 : Nat → va_E} (h2 : va_up e k (.inl (C.X.2.2.1 0, N, .inl (upd f j x2))) = e2) (d : decode cc pc = .ok (.iastore, 1)) (kk : zBe C cs (pc + 1) lv st (n0, e2)) : zBe C cs pc lv (.int x :: .int i :: .ref (C.X.1 + k) :: st) (n0, e) := by
  obtain ⟨p, l, eV, R, s, m, args, below, meth, c, Q, X, nn⟩ := C
  intro H locs ls hl hW hS
  subst hj
  subst hx
  subst h2
  have hc : H[X.1 + k]? = some (vp_cell (X.2.2.1 0) (N, .inl f)) := hW.at_ hk he 0 _ rfl
  refine W.iast E.1.1 E.1.2.1 hc ((E.1.2.2.2.2.2.2.2.2.2.1.2 0 _ rfl).1 N (fun j => .int (f j))) (fun q => by cases q) (by show ¬ (i < 0 ∨ (arrV _ _ _).slots.size ≤ _); rw [arrV_size]; exact hin) rfl rfl d fun H1 e1 z oq => ?_
  refine kk H1 _ ls hl (hW.up z oq ?_) (hS.put z oq (Nat.le_add_right _ _))
  show H1[X.1 + k]? = some _
  rw [e1]
  exact congrArg some (zst_i _ _ _ _ _)
theorem ze_cast {C : zC} {own : String} {cc : ByteArray} {n : Nat} {ret : Option FieldType} {rm : Room} {cs : Nat × Nat} {pc : Nat} {lv : List (Nat × Value)} {st : List Value} {n0 : Nat} {e : Nat → va_E} (E : zEe C own cc n ret rm) (k : Nat) {N : Nat} (hk : k < n0) {f : Nat → Int32} (he : e k = .inl (C.X.2.2.1 2, N, .inl f)) {i x : Int32} (hin : vp_in i N) {j : Nat} (hj : i.toNatClampNeg = j) {x2 : Int32} (hx : (vp_nar .char x) = x2) {e2 : Nat → va_E} (h2 : va_up e k (.inl (C.X.2.2.1 2, N, .inl (upd f j x2))) = e2) (d : decode cc pc = .ok (.castore, 1)) (kk : zBe C cs (pc + 1) lv st (n0, e2)) : zBe C cs pc lv (.int x :: .int i :: .ref (C.X.1 + k) :: st) (n0, e) := by
  obtain ⟨p, l, eV, R, s, m, args, below, meth, c, Q, X, nn⟩ := C
  intro H locs ls hl hW hS
  subst hj
  subst hx
  subst h2
  have hc : H[X.1 + k]? = some (vp_cell (X.2.2.1 2) (N, .inl f)) := hW.at_ hk he 0 _ rfl
  refine W.cast E.1.1 E.1.2.1 hc ((E.1.2.2.2.2.2.2.2.2.2.1.2 2 _ rfl).1 N (fun j => .int (f j))) (fun q => by cases q) (by show ¬ (i < 0 ∨ (arrV _ _ _).slots.size ≤ _); rw [arrV_size]; exact hin) rfl rfl d fun H1 e1 z oq => ?_
  refine kk H1 _ ls hl (hW.up z oq ?_) (hS.put z oq (Nat.le_add_right _ _))
  show H1[X.1 + k]? = some _
  rw [e1]
  refine Eq.trans ?_ (congrArg some (zst_i _ _ _ _ _))
  first | rfl | (simp [vp_nar]; done) | (simp [vp_nar]; rfl)
theorem ze_alenI {C : zC} {own : String} {cc : ByteArray} {n : Nat} {ret : Option FieldType} {rm : Room} {cs : Nat × Nat} {pc : Nat} {lv : List (Nat × Value)} {st : List Value} {n0 : Nat} {e : Nat → va_E} (E : zEe C own cc n ret rm) (k : Nat) {N : Nat} (hk : k < n0) {f : Nat → Int32} (he : e k = .inl (C.X.2.2.1 0, N, .inl f)) {v : Int32} (hv : Int32.ofNat N = v) (d : decode cc pc = .ok (.arraylength, 1)) (kk : zBe C cs (pc + 1) lv (.int v :: st) (n0, e)) : zBe C cs pc lv (.ref (C.X.1 + k) :: st) (n0, e) := by
  obtain ⟨p, l, eV, R, s, m, args, below, meth, c, Q, X, nn⟩ := C
  intro H locs ls hl hW hS
  exact va_alen E.1.1 E.1.2.1 E.1.2.2.2.2.2.2.2.2.2.1 (hW.at_ hk he) 0 0 rfl rfl hv d (kk H locs ls hl hW hS)
theorem ze_aastR {C : zC} {own : String} {cc : ByteArray} {n : Nat} {ret : Option FieldType} {rm : Room} {cs : Nat × Nat} {pc : Nat} {lv : List (Nat × Value)} {st : List Value} {n0 : Nat} {e : Nat → va_E} (E : zEe C own cc n ret rm) (k v : Nat) {N : Nat} (hk : k < n0) (hv : v < n0) {f : Nat → Option Nat} (he : e k = .inl (C.X.2.2.1 4, N, .inr (.inr (.inr (.inr f))))) {vs : List Value} (hev : e v = .inr (8, vs)) {i : Int32} (hin : vp_in i N) {j : Nat} (hj : i.toNatClampNeg = j) {e2 : Nat → va_E} (h2 : va_up e k (.inl (C.X.2.2.1 4, N, .inr (.inr (.inr (.inr (va_up f j (some (C.X.1 + v)))))))) = e2) (d : decode cc pc = .ok (.aastore, 1)) (kk : zBe C cs (pc + 1) lv st (n0, e2)) : zBe C cs pc lv (.ref (C.X.1 + v) :: .int i :: .ref (C.X.1 + k) :: st) (n0, e) := by
  obtain ⟨p, l, eV, R, s, m, args, below, meth, c, Q, X, nn⟩ := C
  intro H locs ls hl hW hS
  subst hj
  subst h2
  have hK : va_K X.2.1 vwCl (zty X) s := E.1.2.2.2.2.2.2.2.2.2.1
  have hlt : i.toNatClampNeg < N := Nat.not_le.mp fun q => hin (Or.inr q)
  have h0 : ¬ i < 0 := fun q => hin (Or.inl q)
  obtain ⟨r', hr', cellV, g1, g2, g3, -⟩ := (hW.at_ hv hev) 0 _ rfl
  have hc : vwCl[8]? = some r' := hr'
  have hcls := (hK.1 8 r' hc).2
  obtain ⟨kA, comp, k1, k2, k3, -⟩ := (hK.2 4 _ rfl).2
  have hn : r'.1 = RX8 := by
    have q := (Option.some.inj hc).symm
    rw [q]
  have hcomp : comp = X.2.1.1 8 := Option.some.inj (k3.symm.trans (by rw [← hn]; exact hcls.1))
  subst hcomp
  obtain ⟨kC, hkC, -⟩ := hcls.2
  refine W.aast E.1.1 E.1.2.1 (hW.at_ hk he 0 _ rfl) (fun q h => by cases h) (fun h => by cases h) k1 k2 rfl hkC ⟨h0, by show _ < (arrV _ _ _).slots.size; rw [arrV_size]; exact hlt⟩ g1 (fun q h => by rw [g3] at h; cases h) (by rw [g2]; exact hkC) (by rw [g2]; exact va_assign hcls) rfl rfl d fun H1 e1 z oq => ?_
  refine kk H1 _ ls hl (hW.up z oq ?_) (hS.put z oq (Nat.le_add_right _ _))
  show H1[X.1 + k]? = some (vp_cell _ _)
  rw [e1, vp_cell_q, vp_cell_q, arrV_store]
  congr 2
  funext q
  by_cases hq : q = i.toNatClampNeg
  · subst hq
    rw [updV, if_pos rfl, zup_s]
    rfl
  · rw [updV, if_neg hq, zup_n hq]

