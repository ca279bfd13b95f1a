set_option maxHeartbeats 1000000
set_option maxRecDepth 100000
/-! the world at the law's entry -/
theorem tb_of1 {w : Cond} (i : Nat) (h0 : tables_1_1[i]? = some w) : w ∈ lw_tbl := List.mem_append_right _ (show w ∈ tables_1 from List.mem_append_left _ (List.mem_of_getElem? h0))
theorem tb_of2 {w : Cond} (i : Nat) (h0 : tables_1_2[i]? = some w) : w ∈ lw_tbl := List.mem_append_right _ (show w ∈ tables_1 from List.mem_append_right _ (List.mem_append_left _ (List.mem_of_getElem? h0)))
theorem tb_of3 {w : Cond} (i : Nat) (h0 : tables_1_3[i]? = some w) : w ∈ lw_tbl := List.mem_append_right _ (show w ∈ tables_1 from List.mem_append_right _ (List.mem_append_right _ (List.mem_append_left _ (List.mem_of_getElem? h0))))
theorem tb_of4 {w : Cond} (i : Nat) (h0 : tables_1_4[i]? = some w) : w ∈ lw_tbl := List.mem_append_right _ (show w ∈ tables_1 from List.mem_append_right _ (List.mem_append_right _ (List.mem_append_right _ (List.mem_append_left _ (List.mem_of_getElem? h0)))))
theorem tb_of5 {w : Cond} (i : Nat) (h0 : tables_1_5[i]? = some w) : w ∈ lw_tbl := List.mem_append_right _ (show w ∈ tables_1 from List.mem_append_right _ (List.mem_append_right _ (List.mem_append_right _ (List.mem_append_right _ (List.mem_append_left _ (List.mem_of_getElem? h0))))))
theorem tb_of6 {w : Cond} (i : Nat) (h0 : tables_1_6[i]? = some w) : w ∈ lw_tbl := List.mem_append_right _ (show w ∈ tables_1 from List.mem_append_right _ (List.mem_append_right _ (List.mem_append_right _ (List.mem_append_right _ (List.mem_append_right _ (List.mem_append_left _ (List.mem_of_getElem? h0)))))))
theorem tb_of7 {w : Cond} (i : Nat) (h0 : tables_1_7[i]? = some w) : w ∈ lw_tbl := List.mem_append_right _ (show w ∈ tables_1 from List.mem_append_right _ (List.mem_append_right _ (List.mem_append_right _ (List.mem_append_right _ (List.mem_append_right _ (List.mem_append_right _ (List.mem_append_left _ (List.mem_of_getElem? h0))))))))
theorem tb_of8 {w : Cond} (i : Nat) (h0 : tables_1_8[i]? = some w) : w ∈ lw_tbl := List.mem_append_right _ (show w ∈ tables_1 from List.mem_append_right _ (List.mem_append_right _ (List.mem_append_right _ (List.mem_append_right _ (List.mem_append_right _ (List.mem_append_right _ (List.mem_append_right _ ((List.mem_of_getElem? h0)))))))))
def nwF : List Cond := flatC (Jvm.Cond.and given_1 narrow_1)
theorem nw_use {args : Array Value} {s : State} (h : (Jvm.Cond.and given_1 narrow_1).before args s = true) {w : Cond} (i : Nat) (hi : nwF[i]? = some w) : w.before args s = true := flat_of_before _ h w (List.mem_of_getElem? hi)
theorem zN_tbl : ∀ w ∈ zN, w ∈ lw_tbl := by
  intro w hw
  simp only [zN, List.mem_cons, List.not_mem_nil, or_false] at hw
  rcases hw with rfl | rfl | rfl | rfl | rfl | rfl | rfl | rfl | rfl | rfl | rfl | rfl | rfl | rfl | rfl | rfl | rfl | rfl | rfl | rfl | rfl | rfl | rfl | rfl | rfl | rfl | rfl | rfl | rfl | rfl | rfl | rfl | rfl | rfl | rfl | rfl | rfl | rfl
  · exact tb_of1 31 rfl
  · exact tb_of1 54 rfl
  · exact tb_of1 132 rfl
  · exact tb_of1 178 rfl
  · exact tb_of1 185 rfl
  · exact tb_of1 186 rfl
  · exact tb_of1 187 rfl
  · exact tb_of1 189 rfl
  · exact tb_of1 190 rfl
  · exact tb_of1 192 rfl
  · exact tb_of1 193 rfl
  · exact tb_of1 195 rfl
  · exact tb_of1 196 rfl
  · exact tb_of1 199 rfl
  · exact tb_of1 229 rfl
  · exact tb_of3 62 rfl
  · exact tb_of3 99 rfl
  · exact tb_of3 169 rfl
  · exact tb_of3 173 rfl
  · exact tb_of3 174 rfl
  · exact tb_of3 175 rfl
  · exact tb_of3 176 rfl
  · exact tb_of3 177 rfl
  · exact tb_of3 178 rfl
  · exact tb_of3 179 rfl
  · exact tb_of3 180 rfl
  · exact tb_of3 181 rfl
  · exact tb_of3 182 rfl
  · exact tb_of3 183 rfl
  · exact tb_of3 184 rfl
  · exact tb_of3 185 rfl
  · exact tb_of3 186 rfl
  · exact tb_of4 126 rfl
  · exact tb_of4 127 rfl
  · exact tb_of4 129 rfl
  · exact tb_of4 201 rfl
  · exact tb_of5 23 rfl
  · exact tb_of5 105 rfl
def nwK : List Nat := [99, 188, 190, 192, 173, 178, 180, 182, 184, 186, 108, 113, 115, 124, 129, 83, 147, 158, 160, 145, 134]
def nwT (i : Nat) : Term := .string RX7 (nwK.getD i 0)
def nwE : List Nat := [88, 96, 107, 122, 134, 145, 157, 171, 186, 202, 219, 241, 261, 283, 302, 325, 347, 370, 394, 421, 447]
def nwC : List Nat := [89, 97, 108, 123, 135, 146, 158, 172, 187, 203, 220, 242, 262, 284, 303, 326, 348, 371, 395, 422, 448]
def nwA : List Nat := [90, 98, 109, 124, 136, 147, 159, 173, 188, 204, 221, 243, 263, 285, 304, 327, 349, 372, 396, 423, 449]
def nwL : List Nat := [91, 99, 110, 125, 137, 148, 160, 174, 189, 205, 222, 244, 264, 286, 305, 328, 350, 373, 397, 424, 450]
def nwB : List Nat := [92, 100, 111, 126, 138, 149, 161, 175, 190, 206, 223, 245, 265, 287, 306, 329, 351, 374, 398, 425, 451]
def nwN : List Nat := [0, 106, 120, 131, 141, 152, 165, 179, 194, 210, 231, 250, 271, 289, 311, 332, 354, 377, 403, 428, 453]
theorem nw_ex : ∀ i, i < 21 → nwF[nwE.getD i 0]? = some (Cond.exactly (nwT i) "java/lang/String") := by decide +kernel
theorem nw_co : ∀ i, i < 21 → nwF[nwC.getD i 0]? = some (Cond.eq (.field (nwT i) "java/lang/String" "coder" "B") (.int 0)) := by decide +kernel
theorem nw_ar : ∀ i, i < 21 → nwF[nwA.getD i 0]? = some (Cond.arrayOf (.field (nwT i) "java/lang/String" "value" "[B") .byte) := by decide +kernel
theorem nw_le : ∀ i, i < 21 → nwF[nwL.getD i 0]? = some (Cond.eq (.length (.field (nwT i) "java/lang/String" "value" "[B")) (.int (Int32.ofNat (zlen.getD i 0)))) := by decide +kernel
theorem nw_el : ∀ i, i < 21 → ∀ j, j < zlen.getD i 0 → nwF[nwB.getD i 0 + j]? = some (Cond.eq (.elem (.field (nwT i) "java/lang/String" "value" "[B") (.int (Int32.ofNat j))) (.int ((zbyt.getD i []).getD j 0))) := by decide +kernel
theorem nw_ne : ∀ j, j < 21 → ∀ i, i < j → nwF[nwN.getD j 0 + i]? = some (Cond.not (Cond.eq (nwT i) (nwT j))) := by decide +kernel
theorem nw_len : ∀ i, i < 21 → zlen.getD i 0 < 2 ^ 31 := by decide
theorem nw_zc0 : ∀ j, j < 13 → nwF[7 + j]? = some (Cond.eq (.elem (.static RX3 "WORTHS" "[I") (.int (Int32.ofNat j))) (.int (zc0.getD j 0))) := by decide +kernel
theorem st_zc0 {args : Array Value} {s : State} {A : Nat → Prop} (hts : ∀ w ∈ lw_tbl, w.before args s = true) (h : (Jvm.Cond.and given_1 narrow_1).before args s = true) (hA : ∀ a : Nat, a < s.heap.size → ¬ A a) : ∃ t : Nat, va_Z RX3 "WORTHS" "[I" (.ref t) A s s.heap ∧ va_T .int t 13 (fun j => .int (zc0.getD j 0)) A s s.heap := by
  obtain ⟨t, ht, hT⟩ := va_Tof (tm := .static RX3 "WORTHS" "[I") (ty := .int) (N := 13) (f := fun j => .int (zc0.getD j 0)) (A := A) (by decide) (nw_use h 5 (by decide +kernel)) (va_eqt (nw_use h 6 (by decide +kernel))) (fun j hj => va_eqt (nw_use h _ (nw_zc0 j hj))) hA
  exact ⟨t, va_Zref (hts _ (tb_of2 180 rfl)) (hts _ (tb_of1 2 rfl)) ht hA, hT⟩
theorem nw_zc1 : ∀ j, j < 12 → nwF[23 + j]? = some (Cond.eq (.elem (.static RX3 "RATIOS" "[I") (.int (Int32.ofNat j))) (.int (zc1.getD j 0))) := by decide +kernel
theorem st_zc1 {args : Array Value} {s : State} {A : Nat → Prop} (hts : ∀ w ∈ lw_tbl, w.before args s = true) (h : (Jvm.Cond.and given_1 narrow_1).before args s = true) (hA : ∀ a : Nat, a < s.heap.size → ¬ A a) : ∃ t : Nat, va_Z RX3 "RATIOS" "[I" (.ref t) A s s.heap ∧ va_T .int t 12 (fun j => .int (zc1.getD j 0)) A s s.heap := by
  obtain ⟨t, ht, hT⟩ := va_Tof (tm := .static RX3 "RATIOS" "[I") (ty := .int) (N := 12) (f := fun j => .int (zc1.getD j 0)) (A := A) (by decide) (nw_use h 21 (by decide +kernel)) (va_eqt (nw_use h 22 (by decide +kernel))) (fun j hj => va_eqt (nw_use h _ (nw_zc1 j hj))) hA
  exact ⟨t, va_Zref (hts _ (tb_of2 207 rfl)) (hts _ (tb_of1 2 rfl)) ht hA, hT⟩
theorem nw_zc2 : ∀ j, j < 6 → nwF[38 + j]? = some (Cond.eq (.elem (.static RX2 "WORTHS" "[I") (.int (Int32.ofNat j))) (.int (zc2.getD j 0))) := by decide +kernel
theorem st_zc2 {args : Array Value} {s : State} {A : Nat → Prop} (hts : ∀ w ∈ lw_tbl, w.before args s = true) (h : (Jvm.Cond.and given_1 narrow_1).before args s = true) (hA : ∀ a : Nat, a < s.heap.size → ¬ A a) : ∃ t : Nat, va_Z RX2 "WORTHS" "[I" (.ref t) A s s.heap ∧ va_T .int t 6 (fun j => .int (zc2.getD j 0)) A s s.heap := by
  obtain ⟨t, ht, hT⟩ := va_Tof (tm := .static RX2 "WORTHS" "[I") (ty := .int) (N := 6) (f := fun j => .int (zc2.getD j 0)) (A := A) (by decide) (nw_use h 36 (by decide +kernel)) (va_eqt (nw_use h 37 (by decide +kernel))) (fun j hj => va_eqt (nw_use h _ (nw_zc2 j hj))) hA
  exact ⟨t, va_Zref (hts _ (tb_of3 21 rfl)) (hts _ (tb_of1 3 rfl)) ht hA, hT⟩
theorem nw_sr : ∀ q ∈ zJ, Cond.stringRef RX7 q.1 q.2.1 ∈ lw_tbl := by
  intro q hq
  simp only [zJ, List.mem_cons, List.not_mem_nil, or_false] at hq
  rcases hq with rfl | rfl | rfl | rfl | rfl | rfl | rfl | rfl | rfl | rfl | rfl | rfl | rfl | rfl | rfl | rfl | rfl | rfl | rfl | rfl | rfl
  · exact tb_of3 206 rfl
  · exact tb_of4 44 rfl
  · exact tb_of4 45 rfl
  · exact tb_of4 46 rfl
  · exact tb_of4 67 rfl
  · exact tb_of4 72 rfl
  · exact tb_of4 73 rfl
  · exact tb_of4 74 rfl
  · exact tb_of4 75 rfl
  · exact tb_of4 76 rfl
  · exact tb_of4 77 rfl
  · exact tb_of4 78 rfl
  · exact tb_of4 79 rfl
  · exact tb_of4 80 rfl
  · exact tb_of4 85 rfl
  · exact tb_of4 86 rfl
  · exact tb_of4 99 rfl
  · exact tb_of4 100 rfl
  · exact tb_of4 101 rfl
  · exact tb_of4 102 rfl
  · exact tb_of4 103 rfl
theorem nw_zJ : ∀ q ∈ zJ, q.2.2 < 21 ∧ nwT q.2.2 = .string RX7 q.1 := by decide
theorem st_str {args : Array Value} {s : State} {A : Nat → Prop} (hts : ∀ w ∈ lw_tbl, w.before args s = true) (h : (Jvm.Cond.and given_1 narrow_1).before args s = true) (hA : ∀ a : Nat, a < s.heap.size → ¬ A a) : ∃ adK adV : Nat → Nat, vk_S 21 zlen zbyt adK adV A s s.heap ∧ ∀ q ∈ zJ, vk_R RX7 q.1 q.2.1 (adK q.2.2) s := by
  obtain ⟨adK, adV, h1, h2⟩ := vk_Sof (tm := nwT) (len := zlen) (byt := zbyt) (N := 21) (A := A) nw_len (fun i hi => nw_use h _ (nw_ex i hi)) (fun i hi => nw_use h _ (nw_co i hi)) (fun i hi => nw_use h _ (nw_ar i hi)) (fun i hi => nw_use h _ (nw_le i hi)) (fun i hi j hj => nw_use h _ (nw_el i hi j hj)) (fun i j hi hj hij => by
    rcases Nat.lt_or_gt_of_ne hij with z | z
    · exact Or.inl (nw_use h _ (nw_ne j hj i z))
    · exact Or.inr (nw_use h _ (nw_ne i hi j z))) hA
  refine ⟨adK, adV, h1, fun q hq => ?_⟩
  obtain ⟨z1, z2⟩ := nw_zJ q hq
  exact vk_R.of (A := args) (hts _ (nw_sr q hq)) (by
    have h3 := h2 q.2.2 z1
    rw [z2] at h3
    exact h3)
theorem st_a_int {args : Array Value} {s : State} (hts : ∀ w ∈ lw_tbl, w.before args s = true) : ∃ cA : ClassId, ArrOfT s cA .int ∧ va_RA s cA .int := by
  obtain ⟨cA, kA, comp, h1, h2, h3⟩ := Cond.arrayClass_spec (hts _ (tb_of1 45 rfl))
  exact ⟨cA, fun n z => ⟨fun k h => (by cases h), kA, h2, comp, h3⟩, h1⟩
theorem st_a_long {args : Array Value} {s : State} (hts : ∀ w ∈ lw_tbl, w.before args s = true) : ∃ cA : ClassId, ArrOfT s cA .long ∧ va_RA s cA .long := by
  obtain ⟨cA, kA, comp, h1, h2, h3⟩ := Cond.arrayClass_spec (hts _ (tb_of1 85 rfl))
  exact ⟨cA, fun n z => ⟨fun k h => (by cases h), kA, h2, comp, h3⟩, h1⟩
theorem st_a_char {args : Array Value} {s : State} (hts : ∀ w ∈ lw_tbl, w.before args s = true) : ∃ cA : ClassId, ArrOfT s cA .char ∧ va_RA s cA .char := by
  obtain ⟨cA, kA, comp, h1, h2, h3⟩ := Cond.arrayClass_spec (hts _ (tb_of1 175 rfl))
  exact ⟨cA, fun n z => ⟨fun k h => (by cases h), kA, h2, comp, h3⟩, h1⟩
theorem st_a_boolean {args : Array Value} {s : State} (hts : ∀ w ∈ lw_tbl, w.before args s = true) : ∃ cA : ClassId, ArrOfT s cA .boolean ∧ va_RA s cA .boolean := by
  obtain ⟨cA, kA, comp, h1, h2, h3⟩ := Cond.arrayClass_spec (hts _ (tb_of1 86 rfl))
  exact ⟨cA, fun n z => ⟨fun k h => (by cases h), kA, h2, comp, h3⟩, h1⟩
theorem st_a_obj {s : State} {C : String} (h : va_AO C s) : ∃ cA : ClassId, ArrOfT s cA (.object C) ∧ va_RA s cA (.object C) := by
  obtain ⟨comp, c, k, h1, h2, h3, h4, h5⟩ := Cond.arrayOver_spec h
  exact ⟨c, fun n z => ⟨fun k h => (by cases h), k, h3, comp, h4⟩, k, comp, h3, h4, h1, h5⟩
theorem st_a_arr {s : State} (h : zAoA .long s) : ∃ cA : ClassId, ArrOfT s cA (.array .long) ∧ va_RA s cA (.array .long) := by
  obtain ⟨comp, c, k, h1, h2, h3, h4, h5⟩ := aoa_sp h
  exact ⟨c, fun n z => ⟨fun k h => (by cases h), k, h3, comp, h4⟩, h5⟩
theorem st_cls {args : Array Value} {s : State} (hts : ∀ w ∈ lw_tbl, w.before args s = true) : ∃ D : va_G, ∀ (c : Nat) (q : vw_C), vwCl[c]? = some q → u_Kn s q.1 q.2.1 q.2.2 (D.1 c) (D.2 c) := by
  have hts2 : ∀ w ∈ zT, w.before args s = true := fun w hw => hts w ((List.mem_filter.mp hw).1)
  obtain ⟨c0, i0, h0⟩ := u_known (C := RX0) (T := TX0) (N := 8) (n := 8) hts2 zin0 (hts _ (tb_of1 177 rfl))
  obtain ⟨c1, i1, h1⟩ := u_known (C := RX1) (T := TX1) (N := 10) (n := 10) hts2 zin1 (hts _ (tb_of1 220 rfl))
  obtain ⟨c2, i2, h2⟩ := u_known (C := RX2) (T := TX2) (N := 13) (n := 13) hts2 zin2 (hts _ (tb_of1 47 rfl))
  obtain ⟨c3, i3, h3⟩ := u_known (C := RX3) (T := TX3) (N := 3) (n := 3) hts2 zin3 (hts _ (tb_of1 30 rfl))
  obtain ⟨c4, i4, h4⟩ := u_known (C := RX4) (T := TX4) (N := 5) (n := 5) hts2 zin4 (hts _ (tb_of1 228 rfl))
  obtain ⟨c5, i5, h5⟩ := u_known (C := RX5) (T := TX5) (N := 5) (n := 5) hts2 zin5 (hts _ (tb_of2 10 rfl))
  obtain ⟨c6, i6, h6⟩ := u_known (C := RX6) (T := TX6) (N := 8) (n := 8) hts2 zin6 (hts _ (tb_of1 53 rfl))
  obtain ⟨c7, i7, h7⟩ := u_known (C := RX7) (T := TX7) (N := 12) (n := 12) hts2 zin7 (hts _ (tb_of1 131 rfl))
  obtain ⟨c8, i8, h8⟩ := u_known (C := RX8) (T := TX8) (N := 15) (n := 15) hts2 zin8 (hts _ (tb_of2 31 rfl))
  obtain ⟨c9, i9, h9⟩ := u_known (C := RX9) (T := TX9) (N := 7) (n := 7) hts2 zin9 (hts _ (tb_of3 168 rfl))
  obtain ⟨c10, i10, h10⟩ := u_known (C := RX10) (T := TX10) (N := 2) (n := 2) hts2 zin10 (hts _ (tb_of4 106 rfl))
  obtain ⟨c11, i11, h11⟩ := u_known (C := RX11) (T := TX11) (N := 6) (n := 6) hts2 zin11 (hts _ (tb_of1 22 rfl))
  obtain ⟨c12, i12, h12⟩ := u_known (C := RX12) (T := TX12) (N := 85) (n := 85) hts2 zin12 (hts _ (tb_of5 201 rfl))
  refine ⟨((fun k => match k with | 0 => c0 | 1 => c1 | 2 => c2 | 3 => c3 | 4 => c4 | 5 => c5 | 6 => c6 | 7 => c7 | 8 => c8 | 9 => c9 | 10 => c10 | 11 => c11 | _ => c12), (fun k => match k with | 0 => i0 | 1 => i1 | 2 => i2 | 3 => i3 | 4 => i4 | 5 => i5 | 6 => i6 | 7 => i7 | 8 => i8 | 9 => i9 | 10 => i10 | 11 => i11 | _ => i12)), fun k q hq => ?_⟩
  match k, hq with
  | 0, hq => cases hq; exact h0
  | 1, hq => cases hq; exact h1
  | 2, hq => cases hq; exact h2
  | 3, hq => cases hq; exact h3
  | 4, hq => cases hq; exact h4
  | 5, hq => cases hq; exact h5
  | 6, hq => cases hq; exact h6
  | 7, hq => cases hq; exact h7
  | 8, hq => cases hq; exact h8
  | 9, hq => cases hq; exact h9
  | 10, hq => cases hq; exact h10
  | 11, hq => cases hq; exact h11
  | 12, hq => cases hq; exact h12
  | k + 13, hq => simp [vwCl] at hq
theorem st_all {args : Array Value} {s : State} (hts : ∀ w ∈ lw_tbl, w.before args s = true) (h : (Jvm.Cond.and given_1 narrow_1).before args s = true) : ∃ X : zX, X.1 = s.heap.size ∧ zKe X s := by
  have hA : ∀ a : Nat, a < s.heap.size → ¬ (fun q : Nat => s.heap.size ≤ q) a := fun a h1 h2 => Nat.not_lt.mpr h2 h1
  have a8 : va_AO RX8 s := va_AO.of (hts _ (tb_of1 226 rfl))
  have a9 : va_AO RX9 s := va_AO.of (hts _ (tb_of1 137 rfl))
  have a10 : va_AO RX10 s := va_AO.of (hts _ (tb_of1 183 rfl))
  have aa : zAoA .long s := zAoA_of (hts _ (tb_of1 59 rfl))
  obtain ⟨D, hD⟩ := st_cls hts
  obtain ⟨t0, z0, y0⟩ := st_zc0 hts h hA
  obtain ⟨t1, z1, y1⟩ := st_zc1 hts h hA
  obtain ⟨t2, z2, y2⟩ := st_zc2 hts h hA
  obtain ⟨adK, adV, hs1, hs2⟩ := st_str hts h hA
  obtain ⟨d0, e0⟩ := st_a_int hts
  obtain ⟨d1, e1⟩ := st_a_long hts
  obtain ⟨d2, e2⟩ := st_a_char hts
  obtain ⟨d3, e3⟩ := st_a_boolean hts
  obtain ⟨d4, e4⟩ := st_a_obj a8
  obtain ⟨d5, e5⟩ := st_a_obj a9
  obtain ⟨d6, e6⟩ := st_a_obj a10
  obtain ⟨d7, e7⟩ := st_a_arr aa
  refine ⟨(s.heap.size, D, (fun k => match k with | 0 => d0 | 1 => d1 | 2 => d2 | 3 => d3 | 4 => d4 | 5 => d5 | 6 => d6 | _ => d7), (fun k => match k with | 0 => t0 | 1 => t1 | _ => t2), adK, adV), rfl, ⟨⟨hD, fun k q hq => ?_⟩, fun w hw => ?_, hs2, ⟨⟨z0, y0⟩, ⟨z1, y1⟩, ⟨z2, y2⟩, hs1, va_Zof (hts _ (tb_of3 220 rfl)) (hts _ (tb_of1 16 rfl)) (va_eqi (nw_use h 44 (by decide +kernel))) hA, va_Zqof (hts _ (tb_of3 236 rfl)) (hts _ (tb_of1 18 rfl)) (nw_use h 45 (by decide +kernel)) hA⟩, Nat.le_refl _, a9⟩, a8, a10, aa⟩
  · match k, hq with
    | 0, hq => cases hq; exact e0
    | 1, hq => cases hq; exact e1
    | 2, hq => cases hq; exact e2
    | 3, hq => cases hq; exact e3
    | 4, hq => cases hq; exact e4
    | 5, hq => cases hq; exact e5
    | 6, hq => cases hq; exact e6
    | 7, hq => cases hq; exact e7
    | k + 8, hq => simp [zty] at hq
  · have hw2 := hts w (zN_tbl w hw)
    rcases zN_two w hw with ⟨a, i, b, n, d, x, rfl⟩ | ⟨a, i, x, y, rfl⟩
    · exact va_Nw.of rfl hw2
    · exact va_Nw.of rfl hw2
