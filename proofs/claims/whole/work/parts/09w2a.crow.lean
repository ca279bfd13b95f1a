set_option maxHeartbeats 400000
set_option maxRecDepth 100000
abbrev zeS : Type := Nat × (Nat → va_E)
def zWe (X : zX) (S : zeS) (H : Heap) : Prop := H.size = X.1 + S.1 ∧ ∀ k, k < S.1 → va_at X.2.1 vwCl (X.1 + k, S.2 k) H
def zAOe (U : State) : Prop := va_AO RX8 U ∧ va_AO RX10 U ∧ zAoA .long U
theorem zAOe.moved {u U : State} (hvm : u.vm.Alike U.vm) (h : zAOe u) : zAOe U := ⟨va_AO.moved hvm h.1, va_AO.moved hvm h.2.1, zAoA_moved hvm h.2.2⟩
def zKe (X : zX) (U : State) : Prop := zK X U ∧ zAOe U
theorem zKe.same {X : zX} {u U : State} (hv : u.vm = U.vm) (hh : u.heap = U.heap) (h : zKe X u) : zKe X U := ⟨zK.same hv hh h.1, zAOe.moved (hv ▸ Vm.Alike.refl _) h.2⟩
theorem zKe.to {X : zX} {s U : State} {H : Heap} {locs : List Loc} (h : zKe X s) (hS : va_S (zA X) s.heap H locs) (hU : U.heap = H) (hW : s.WarmedH U.vm) : zKe X U := ⟨zK.to h.1 hS hU hW, zAOe.moved hW.alike h.2⟩
def zEe (C : zC) (own : String) (cc : ByteArray) (n : Nat) (ret : Option FieldType) (rm : Room) : Prop := zE C own cc n ret rm ∧ zAOe C.s
def zMe (X : zX) (S : zeS) (U : State) : Prop := zWe X S U.heap ∧ zKe X U
def zBe (C : zC) (cs : Nat × Nat) (pc : Nat) (lv : List (Nat × Value)) (st : List Value) (S : zeS) : Prop := ∀ (H : Heap) (locs : List Loc) (ls : Array Slot), lv_has ls C.2.2.2.2.2.2.2.2.2.2.2.2 lv → zWe C.X S H → va_S (zA C.X) C.s.heap H locs → W C.1 C.2.1 C.2.2.1 C.2.2.2.1 C.2.2.2.2.1 C.2.2.2.2.2.1 C.2.2.2.2.2.2.1 C.2.2.2.2.2.2.2.1 C.2.2.2.2.2.2.2.2.1 C.2.2.2.2.2.2.2.2.2.1 H locs cs.1 cs.2 C.2.2.2.2.2.2.2.2.2.2.1 (F0 C.2.2.2.2.2.1 pc ls st)
theorem ze_S {C : zC} {cs : Nat × Nat} {pc : Nat} {lv : List (Nat × Value)} {st : List Value} {n : Nat} {e e2 : Nat → va_E} (h : e = e2) (kk : zBe C cs pc lv st (n, e2)) : zBe C cs pc lv st (n, e) := by
  subst h
  exact kk
theorem zWe.at_ {X : zX} {n : Nat} {e : Nat → va_E} {H : Heap} (h : zWe X (n, e) H) {k : Nat} (hk : k < n) {x : va_E} (he : e k = x) : va_P X.2.1 vwCl [(X.1 + k, x)] H := by
  intro i q hq
  have hi : i < 1 := (List.getElem?_eq_some_iff.mp hq).1
  rw [show i = 0 by omega] at hq
  cases hq
  rw [← he]
  exact h.2 k hk
theorem zWe.up {X : zX} {n : Nat} {e : Nat → va_E} {H H1 : Heap} (h : zWe X (n, e) H) {k : Nat} {x : va_E} (z : H1.size = H.size) (oq : ∀ q : Nat, q ≠ X.1 + k → H1[q]? = H[q]?) (hat : va_at X.2.1 vwCl (X.1 + k, x) H1) : zWe X (n, va_up e k x) H1 := by
  refine ⟨z.trans h.1, fun j hj => ?_⟩
  by_cases c : j = k
  · subst c
    show va_at X.2.1 vwCl (X.1 + j, va_up e j x j) H1
    rw [zup_s]
    exact hat
  · show va_at X.2.1 vwCl (X.1 + j, va_up e k x j) H1
    rw [zup_n c]
    exact (h.2 j hj).kept (oq _ (fun z => c (by have z2 : X.1 + j = X.1 + k := z; omega)))
theorem zWe.gr {X : zX} {n : Nat} {e : Nat → va_E} {H H1 : Heap} (h : zWe X (n, e) H) {x : va_E} (z : H1.size = H.size + 1) (oq : ∀ q : Nat, q < H.size → H1[q]? = H[q]?) (hat : va_at X.2.1 vwCl (X.1 + n, x) H1) : zWe X (n + 1, va_up e n x) H1 := by
  have hs : H.size = X.1 + n := h.1
  refine ⟨by show H1.size = X.1 + (n + 1); omega, fun j hj => ?_⟩
  have hj2 : j < n + 1 := hj
  show va_at X.2.1 vwCl (X.1 + j, va_up e n x j) H1
  by_cases c : j = n
  · subst c
    rw [zup_s]
    exact hat
  · rw [zup_n c]
    exact (h.2 j (show j < n by omega)).kept (oq _ (by show X.1 + j < H.size; omega))
theorem zKe_blind {X : zX} {S : zeS} {av : List Value} : FrameBlind (va_Pc av (zMe X S)) := fun a U g mk h => ⟨h.1, h.2.1, zKe.same (u := U) (U := U.calling g mk a) rfl rfl h.2.2⟩
def zMve (l : Launch) (y : MethodName) (cc : ByteArray) (n : Nat) (ret : Option FieldType) (rm : Room) (X : zX) (av : List Value) (S : zeS) (S2 : zeS) : Prop := Met l y (Cond.code y cc n ret :: zT) rm (va_Pc av (zMe X S)) (va_Qv (fun (u : zeS) => u = S2) (zMe X) (zA X)) rm.cells rm.slots (zA X)
def zQve (C : zC) (rm : Room) (S2 : zeS) : State → Prop := MQ C.below (va_Qv (fun (u : zeS) => u = S2) (zMe C.X) (zA C.X)) C.args C.s rm.cells rm.slots (zA C.X)
