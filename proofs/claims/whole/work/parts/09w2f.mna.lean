set_option maxHeartbeats 400000
set_option maxRecDepth 100000
/-! new long[N][K] -/
theorem zmn_outer (c : ClassId) (N h0 : Nat) : ∀ i : Nat, Jvm.Free.Multi.outerC c N h0 i = arrV c N (fun j => va_rf (if j < i then some (h0 + 1 + j) else none))
  | 0 => by
    show ({ cls := c, slots := Array.replicate N .null, vm := .none } : Cell) = _
    rw [arrV_new]
    refine congrArg (arrV c N) (funext fun j => ?_)
    simp [va_rf]
  | i + 1 => by
    show (Jvm.Free.Multi.outerC c N h0 i).setSlot i (.ref (h0 + 1 + i)) = _
    rw [zmn_outer c N h0 i, arrV_store]
    refine congrArg (arrV c N) (funext fun j => ?_)
    by_cases e : j = i
    · subst e
      simp [updV, va_rf]
    · by_cases h : j < i
      · simp [updV, e, h, Nat.lt_succ_of_lt h]
      · simp [updV, e, h, show ¬ j < i + 1 by omega]
theorem zmn_inner (c : ClassId) (K : Nat) : Jvm.Free.Multi.innerC c K (defaultValue .long) = vp_cell c (K, .inr (.inl (fun _ => 0))) := by
  rw [vp_cell_l]
  show ({ cls := c, slots := Array.replicate K (.long 0), vm := .none } : Cell) = _
  first | rw [arrV_new] | exact arrV_new | (unfold arrV; simp)
def zmnE (X : zX) (n0 N K : Nat) (e : Nat → va_E) (q : Nat) : va_E := if q = n0 then .inl (X.2.2.1 7, N, .inr (.inr (.inr (.inr (fun i => if i < N then some (X.1 + (n0 + 1 + i)) else none))))) else if n0 < q ∧ q < n0 + 1 + N then .inl (X.2.2.1 1, K, .inr (.inl (fun _ => 0))) else e q
theorem ze_mna {C : zC} {own : String} {cc : ByteArray} {n : Nat} {ret : Option FieldType} {rm : Room} {cs : Nat × Nat} {pc : Nat} {lv : List (Nat × Value)} {st : List Value} {n0 : Nat} {e : Nat → va_E} (E : zEe C own cc n ret rm) {index : Nat} (hcl : Cond.classLink own index ("[" ++ (FieldType.array FieldType.long).toString) ∈ zT) (hw : Cond.arrayClass .long ∈ zT) {k1 k2 : Int32} {N K : Nat} (hn : ¬ k1 < 0) (hk : ¬ k2 < 0) (hN : k1.toNatClampNeg = N) (hK2 : k2.toNatClampNeg = K) (hb1 : N * 4 ≤ 536870912) (hb2 : K * 8 ≤ 536870912) (hcs : cs.1 + (1 + N) ≤ rm.cells ∧ cs.2 + (N + N * K) ≤ rm.slots) {c2 : Nat × Nat} (hc2 : (cs.1 + 1 + N, cs.2 + N + N * K) = c2) {n2 : Nat} (hn2 : n0 + 1 + N = n2) (d : decode cc pc = .ok (.multianewarray index 2, 4)) (kk : zBe C c2 (pc + 4) lv (.ref (C.X.1 + n0) :: st) (n2, zmnE C.X n0 N K e)) : zBe C cs pc lv (.int k2 :: .int k1 :: st) (n0, e) := by
  obtain ⟨p, l, eV, R, s, m, args, below, meth, c, Q, X, nn⟩ := C
  intro H locs ls hl hW hS
  subst hc2
  subst hn2
  subst hN
  subst hK2
  have hR2 : R = rm := E.1.2.2.2.2.2.2.2.2.1
  subst hR2
  have hK : va_K X.2.1 vwCl (zty X) s := E.1.2.2.2.2.2.2.2.2.2.1
  have hs : H.size = X.1 + n0 := hW.1
  intro T hT Xs
  obtain ⟨vm₁, cA, comp, -, fA, fC, -, -, X', step⟩ := Xs.multianewarray2F E.1.1 E.1.2.2.2.2.1 (E.1.2.2.2.2.2.1 _ hcl) (zAoA_use E.2.2.2) (E.1.2.2.2.2.2.1 _ hw) (g := F0 m pc ls (.int k2 :: .int k1 :: st)) rfl (by rw [E.1.2.1]; exact d) rfl hn hk hb1 hb2 (by omega) rfl rfl hcs.1 hcs.2
  have r7 : s.vm.findClass ("[" ++ (FieldType.array .long).toString) = some (X.2.2.1 7) := (hK.2 7 _ rfl).2
  have r1 : s.vm.findClass (FieldType.array .long).toString = some (X.2.2.1 1) := (hK.2 1 _ rfl).2
  have eA : X.2.2.1 7 = cA := Option.some.inj (r7.symm.trans fA)
  have eC : X.2.2.1 1 = comp := Option.some.inj (r1.symm.trans fC)
  subst eA
  subst eC
  generalize hF : Jvm.Free.Multi.fill (T.setVm vm₁) (X.2.2.1 7) (X.2.2.1 1) k1.toNatClampNeg k2.toNatClampNeg (defaultValue .long) k1.toNatClampNeg = F at X' step
  have hTh : (T.setVm vm₁).heap = H := hT
  obtain ⟨f1, f2, -, -⟩ := Jvm.Free.Multi.fill_facts (T.setVm vm₁) (X.2.2.1 7) (X.2.2.1 1) k1.toNatClampNeg k2.toNatClampNeg (defaultValue .long) k1.toNatClampNeg
  rw [hF, hTh] at f1 f2
  have hold : ∀ x : Nat, x < H.size → F.heap[x]? = H[x]? := fun x hx => by
    have := Jvm.Free.Multi.fill_old (T.setVm vm₁) (X.2.2.1 7) (X.2.2.1 1) k1.toNatClampNeg k2.toNatClampNeg (defaultValue .long) (a := x) (by rw [hTh]; exact hx) k1.toNatClampNeg
    rw [hF, hTh] at this
    exact this
  have hrow : ∀ j : Nat, j < k1.toNatClampNeg → F.heap[H.size + 1 + j]? = some (vp_cell (X.2.2.1 1) (k2.toNatClampNeg, .inr (.inl (fun _ => 0)))) := fun j hj => by
    have := Jvm.Free.Multi.fill_inner (T.setVm vm₁) (X.2.2.1 7) (X.2.2.1 1) k1.toNatClampNeg k2.toNatClampNeg (defaultValue .long) k1.toNatClampNeg j hj
    rw [hF, hTh, zmn_inner] at this
    exact this
  rw [zmn_outer] at f2
  have hW1 : zWe X (n0 + 1 + k1.toNatClampNeg, zmnE X n0 k1.toNatClampNeg k2.toNatClampNeg e) F.heap := by
    refine ⟨by show F.heap.size = X.1 + (n0 + 1 + k1.toNatClampNeg); omega, fun j hj => ?_⟩
    have hj2 : j < n0 + 1 + k1.toNatClampNeg := hj
    show va_at X.2.1 vwCl (X.1 + j, zmnE X n0 k1.toNatClampNeg k2.toNatClampNeg e j) F.heap
    unfold zmnE
    by_cases h1 : j = n0
    · subst h1
      rw [if_pos rfl]
      show F.heap[X.1 + j]? = some (vp_cell _ _)
      rw [← hs, f2, vp_cell_q]
      refine congrArg some (congrArg (arrV _ _) (funext fun q => ?_))
      rw [show H.size + 1 + q = X.1 + (j + 1 + q) by omega]
    · rw [if_neg h1]
      by_cases h2 : n0 < j
      · rw [if_pos ⟨h2, hj2⟩]
        show F.heap[X.1 + j]? = some (vp_cell _ _)
        have := hrow (j - n0 - 1) (by omega)
        rw [show X.1 + j = H.size + 1 + (j - n0 - 1) by omega]
        exact this
      · rw [if_neg (fun z => h2 z.1)]
        exact (hW.2 j (show j < n0 by omega)).kept (hold _ (by show X.1 + j < H.size; omega))
  have hS1 : va_S (zA X) s.heap F.heap locs := ⟨Nat.le_trans hS.1 (by omega), fun q h1 h2 => (hold q (Nat.lt_of_lt_of_le h1 hS.1)).trans (hS.2.1 q h1 h2), hS.2.2⟩
  obtain ⟨t, a1, b1⟩ := kk F.heap locs ls hl hW1 hS1 F rfl X'
  refine ⟨t, step t ?_, b1⟩
  rw [show T.heap.size = X.1 + n0 by rw [hT]; exact hs]
  exact a1
