set_option maxHeartbeats 400000
set_option maxRecDepth 100000
/-! static calls, Arrays.fill, while the world is made -/
theorem ze_sub {C : zC} {cs : Nat × Nat} {pc : Nat} {lv lv2 : List (Nat × Value)} {st : List Value} {S : zeS} (ks : List Nat) (h : lv_pick lv ks = lv2) (kk : zBe C cs pc lv2 st S) : zBe C cs pc lv st S := fun H locs ls hl hW hS => kk H locs ls (lv_sub hl ks h) hW hS
theorem zMve.of {l : Launch} {y : MethodName} {cc : ByteArray} {n : Nat} {ret : Option FieldType} {rm : Room} {X : zX} {av : List Value} {S : zeS} {S2 : zeS} (hy : plainName y.cls = true) (hlen : (lg_sl av).length ≤ n) (body : ∀ C : zC, zEe C y.cls cc n ret rm → C.l = l → C.X = X → C.Q = zQve C rm S2 → zBe C (0, 0) 0 (lv_args 0 av) [] S) : zMve l y cc n ret rm X av S S2 := zMve.ofI hy hlen (fun C h1 h2 h3 h4 _ => body C h1 h2 h3 h4)
theorem ze_cSv {C : zC} {own : String} {cc : ByteArray} {n : Nat} {ret : Option FieldType} {rm : Room} {cs : Nat × Nat} {pc : Nat} {lv : List (Nat × Value)} {st : List Value} {S : zeS} (E : zEe C own cc n ret rm) {y : MethodName} {cy : ByteArray} {ny na : Nat} {ry : Option FieldType} {rm2 : Room} {S2 : zeS} (As : List Value) (hY : zYs y cy ny ry na) {index : Nat} (hl : Cond.methodLink own index y ∈ zT) (hM : zMve C.l y cy ny ry rm2 C.X As S S2) (hR : rm2.frames + 1 ≤ rm.frames ∧ 8 + (ny + 11) + rm2.locals ≤ rm.locals ∧ cs.1 + rm2.cells ≤ rm.cells ∧ cs.2 + rm2.slots ≤ rm.slots) (hn : As.length = na) {stk : List Value} (hst : stk = As.reverse ++ st) (hcat : (st.map fun v => v.category).sum ≤ 8) (d : decode cc pc = .ok (.invokestatic index, 3)) {cs2 : Nat × Nat} (hcs2 : (cs.1 + rm2.cells, cs.2 + rm2.slots) = cs2) (kk : zBe C cs2 (pc + 3) lv (st) S2) : zBe C cs pc lv stk S := by
  obtain ⟨p, l, e, R, s, m, args, below, meth, c, Q, X, nn⟩ := C
  intro H locs ls hl0 hW hS
  subst hst
  subst hcs2
  obtain ⟨y1, y3, y4, y5⟩ := hY
  have hR2 : R = rm := E.1.2.2.2.2.2.2.2.2.1
  subst hR2
  have run := va_runS (ws := Cond.code y cy ny ry :: zT) (H := H) (locs := locs) (cells := cs.1) (slots := cs.2) (l := l) (e := e) (below := below) (meth := meth) (rest := st) (g := F0 m pc ls _) ⟨E.1.1, E.1.2.1, E.1.2.2.1, E.1.2.2.2.2.1, E.1.2.2.2.2.2.1⟩ hM ⟨zcb E.1.2.2.2.2.2.1 y3 y4 y5 hl ⟨hR.1, hR.2.1⟩, E.1.2.2.2.2.2.1 _ y1⟩ ⟨zKe_blind, fun U hU hWm => ⟨rfl, by rw [hU]; exact hW, zKe.to ⟨E.1.2.2.2.2.2.2.2.2.2, E.2⟩ hS hU hWm⟩⟩ rfl hn (hl0.1.trans E.1.2.2.2.1) rfl (by show 2 * 0 + _ ≤ 8; omega) d ⟨hR.2.2.1, hR.2.2.2⟩
  refine va_callv run hS (fun q _ h => h) (fun q h => h) ?_
  intro u t H1 locs1 ht hal hpo hB hz hfr hS1
  obtain rfl := hpo
  exact kk H1 locs1 ls hl0 (by rw [← ht]; exact hB.1) hS1
theorem zWe.ex {X : zX} {n k : Nat} {e : Nat → va_E} {x y : va_E} {H : Heap} (hxy : ∀ H : Heap, va_at X.2.1 vwCl (X.1 + k, x) H → va_at X.2.1 vwCl (X.1 + k, y) H) (h : zWe X (n, va_up e k x) H) : zWe X (n, va_up e k y) H := by
  refine ⟨h.1, fun j hj => ?_⟩
  have h1 := h.2 j hj
  by_cases c : j = k
  · subst c
    show va_at X.2.1 vwCl (X.1 + j, va_up e j y j) H
    have h2 : va_at X.2.1 vwCl (X.1 + j, va_up e j x j) H := h1
    rw [zup_s] at h2 ⊢
    exact hxy H h2
  · show va_at X.2.1 vwCl (X.1 + j, va_up e k y j) H
    have h2 : va_at X.2.1 vwCl (X.1 + j, va_up e k x j) H := h1
    rw [zup_n c] at h2 ⊢
    exact h2
theorem ce_fill_l {C : zC} (k n0 : Nat) {N : Nat} {e : Nat → va_E} (hk : k < n0) (hN : N < 1000000) {v : Int32} (E : zEe C RJ7 cJ7_fill_53178 4 none ({ frames := 0, cells := 0, slots := 0, locals := 0 } : Room)) (hQ : C.Q = zQve C ({ frames := 0, cells := 0, slots := 0, locals := 0 } : Room) (n0, va_up e k (.inl (C.X.2.2.1 0, N, .inl (fun _ => v))))) : ∀ (m i : Nat) (g : Nat → Int32), i + m = N → (∀ j, j < i → g j = v) → zBe C (0, 0) 5 [(2, .int (nI i)), (3, .int (nI N)), (0, .ref (C.X.1 + k)), (1, .int v)] [] (n0, va_up e k (.inl (C.X.2.2.1 0, N, .inl g))) := by
  intro m
  induction m with
  | zero =>
    intro i g him hg
    refine ze_iload_n E dJ7_fill_53178_5 0 rfl rfl ?_
    refine ze_iload_n E dJ7_fill_53178_6 1 rfl rfl ?_
    refine ze_icmp_ge E dJ7_fill_53178_7 (tgt := 20) rfl (fun hc => ?_) (fun hc => absurd (nI_le (by omega) (by omega)) hc)
    have hx : ∀ (H : Heap), zWe C.X (n0, va_up e k (.inl (C.X.2.2.1 0, N, .inl g))) H → zWe C.X (n0, va_up e k (.inl (C.X.2.2.1 0, N, .inl (fun _ => v)))) H := fun H hW => zWe.ex (x := .inl (C.X.2.2.1 0, N, .inl g)) (y := .inl (C.X.2.2.1 0, N, .inl (fun _ => v))) (fun H2 h2 => by
      have h3 : H2[C.X.1 + k]? = some (vp_cell (C.X.2.2.1 0) (N, .inl g)) := h2
      show H2[C.X.1 + k]? = some (vp_cell (C.X.2.2.1 0) (N, .inl (fun _ => v)))
      rw [h3, zcell_i (g := g) (f := fun _ => v) (fun j hj => hg j (by omega))]) hW
    exact fun H locs ls hl hW hS => (ze_vret (e := va_up e k (.inl (C.X.2.2.1 0, N, .inl (fun _ => v)))) (cs := (0, 0)) E hQ rfl (by decide) dJ7_fill_53178_20) H locs ls hl (hx H hW) hS
  | succ m ih =>
    intro i g him hg
    refine ze_iload_n E dJ7_fill_53178_5 0 rfl rfl ?_
    refine ze_iload_n E dJ7_fill_53178_6 1 rfl rfl ?_
    refine ze_icmp_ge E dJ7_fill_53178_7 (tgt := 20) rfl (fun hc => absurd hc (nI_ge (by omega) (by omega))) (fun hc => ?_)
    refine ze_aload_n E dJ7_fill_53178_10 2 rfl rfl ?_
    refine ze_iload_n E dJ7_fill_53178_11 0 rfl rfl ?_
    refine ze_iload_n E dJ7_fill_53178_12 3 rfl rfl ?_
    refine ze_iast E k hk (f := g) zup_s (vp_in_nI (by omega) (by omega)) rfl rfl (e2 := va_up e k (.inl (C.X.2.2.1 0, N, .inl (upd g (nI i).toNatClampNeg v)))) (by funext q; by_cases c : q = k <;> simp [va_up, c]) dJ7_fill_53178_13 ?_
    refine ze_iinc E dJ7_fill_53178_14 0 rfl (v := nI (i + 1)) (nI_succ i).symm (by decide) (lv2 := [(2, .int (nI (i + 1))), (3, .int (nI N)), (0, .ref (C.X.1 + k)), (1, .int v)]) rfl ?_
    refine ze_goto E dJ7_fill_53178_17 (tgt := 5) rfl ?_
    rw [nI_clamp (by omega)]
    refine ih (i + 1) _ (by omega) (fun j hj => ?_)
    by_cases e : j = i
    · subst e
      simp [upd]
    · simp only [upd, if_neg e]
      exact hg j (by omega)
theorem ce_fill {l : Launch} {X : zX} {e : Nat → va_E} (k n0 : Nat) {N : Nat} {f : Nat → Int32} (hk : k < n0) (he : e k = .inl (X.2.2.1 0, N, .inl f)) (hN : N < 1000000) {v : Int32} : zMve l yJ7_fill_53178 cJ7_fill_53178 4 none ({ frames := 0, cells := 0, slots := 0, locals := 0 } : Room) X [.ref (X.1 + k), .int v] (n0, e) (n0, va_up e k (.inl (X.2.2.1 0, N, .inl (fun _ => v)))) := by
  refine zMve.of (by decide) (Nat.le_of_ble_eq_true rfl) (fun C E hl hX hQ => ?_)
  subst hl
  subst hX
  refine ze_iconst E dJ7_fill_53178_0 (v := 0) rfl ?_
  refine ze_istore_n E dJ7_fill_53178_1 rfl (by decide) (lv2 := [(2, .int 0), (0, .ref (C.X.1 + k)), (1, .int v)]) rfl ?_
  refine ze_aload_n E dJ7_fill_53178_2 1 rfl rfl ?_
  refine ze_alenI E k hk he (v := nI N) rfl dJ7_fill_53178_3 ?_
  refine ze_istore_n E dJ7_fill_53178_4 rfl (by decide) (lv2 := [(3, .int (nI N)), (2, .int 0), (0, .ref (C.X.1 + k)), (1, .int v)]) rfl ?_
  refine ze_sub [1, 0, 2, 3] rfl ?_
  refine ze_S (e2 := va_up e k (.inl (C.X.2.2.1 0, N, .inl f))) (by rw [← he]; exact zup_id.symm) ?_
  exact ce_fill_l k n0 hk hN E hQ N 0 f (by omega) (fun j hj => absurd hj (Nat.not_lt_zero j))
