theorem zFr (X : zX) {i0 kn : Nat} (hi : i0 < 10) (hkn : (i0 < 8 ∧ kn = 48) ∨ (8 ≤ i0 ∧ kn = 53)) : ∀ (i : Nat → Int32) (j : Nat → Int64) (r : Nat → Option Nat), zF X (58 + 7 * i0) i j r = .inr (8, zf8 X (58 + 7 * i0) kn i j) := by
  intro i j r
  rcases hkn with ⟨h, rfl⟩ | ⟨h, rfl⟩
  ·
    obtain rfl | rfl | rfl | rfl | rfl | rfl | rfl | rfl : i0 = 0 ∨ i0 = 1 ∨ i0 = 2 ∨ i0 = 3 ∨ i0 = 4 ∨ i0 = 5 ∨ i0 = 6 ∨ i0 = 7 := by omega
    · exact zF_58 X i j r
    · exact zF_65 X i j r
    · exact zF_72 X i j r
    · exact zF_79 X i j r
    · exact zF_86 X i j r
    · exact zF_93 X i j r
    · exact zF_100 X i j r
    · exact zF_107 X i j r
  ·
    obtain rfl | rfl : i0 = 8 ∨ i0 = 9 := by omega
    · exact zF_114 X i j r
    · exact zF_121 X i j r
theorem zFrA_1 {i0 : Nat} (hi : i0 < 10) : ∀ (X : zX) (i : Nat → Int32) (j : Nat → Int64) (r : Nat → Option Nat), zF X (58 + 7 * i0 + 1) i j r = .inl (X.2.2.1 1, 40, .inr (.inl j)) := by
  intro X i j r
  obtain rfl | rfl | rfl | rfl | rfl | rfl | rfl | rfl | rfl | rfl : i0 = 0 ∨ i0 = 1 ∨ i0 = 2 ∨ i0 = 3 ∨ i0 = 4 ∨ i0 = 5 ∨ i0 = 6 ∨ i0 = 7 ∨ i0 = 8 ∨ i0 = 9 := by omega
  · exact zF_59 X i j r
  · exact zF_66 X i j r
  · exact zF_73 X i j r
  · exact zF_80 X i j r
  · exact zF_87 X i j r
  · exact zF_94 X i j r
  · exact zF_101 X i j r
  · exact zF_108 X i j r
  · exact zF_115 X i j r
  · exact zF_122 X i j r
theorem zFrA_2 {i0 : Nat} (hi : i0 < 10) : ∀ (X : zX) (i : Nat → Int32) (j : Nat → Int64) (r : Nat → Option Nat), zF X (58 + 7 * i0 + 2) i j r = .inl (X.2.2.1 1, 40, .inr (.inl j)) := by
  intro X i j r
  obtain rfl | rfl | rfl | rfl | rfl | rfl | rfl | rfl | rfl | rfl : i0 = 0 ∨ i0 = 1 ∨ i0 = 2 ∨ i0 = 3 ∨ i0 = 4 ∨ i0 = 5 ∨ i0 = 6 ∨ i0 = 7 ∨ i0 = 8 ∨ i0 = 9 := by omega
  · exact zF_60 X i j r
  · exact zF_67 X i j r
  · exact zF_74 X i j r
  · exact zF_81 X i j r
  · exact zF_88 X i j r
  · exact zF_95 X i j r
  · exact zF_102 X i j r
  · exact zF_109 X i j r
  · exact zF_116 X i j r
  · exact zF_123 X i j r
theorem zFrA_3 {i0 : Nat} (hi : i0 < 10) : ∀ (X : zX) (i : Nat → Int32) (j : Nat → Int64) (r : Nat → Option Nat), zF X (58 + 7 * i0 + 3) i j r = .inl (X.2.2.1 1, 40, .inr (.inl j)) := by
  intro X i j r
  obtain rfl | rfl | rfl | rfl | rfl | rfl | rfl | rfl | rfl | rfl : i0 = 0 ∨ i0 = 1 ∨ i0 = 2 ∨ i0 = 3 ∨ i0 = 4 ∨ i0 = 5 ∨ i0 = 6 ∨ i0 = 7 ∨ i0 = 8 ∨ i0 = 9 := by omega
  · exact zF_61 X i j r
  · exact zF_68 X i j r
  · exact zF_75 X i j r
  · exact zF_82 X i j r
  · exact zF_89 X i j r
  · exact zF_96 X i j r
  · exact zF_103 X i j r
  · exact zF_110 X i j r
  · exact zF_117 X i j r
  · exact zF_124 X i j r
theorem zFrA_4 {i0 : Nat} (hi : i0 < 10) : ∀ (X : zX) (i : Nat → Int32) (j : Nat → Int64) (r : Nat → Option Nat), zF X (58 + 7 * i0 + 4) i j r = .inl (X.2.2.1 1, 40, .inr (.inl j)) := by
  intro X i j r
  obtain rfl | rfl | rfl | rfl | rfl | rfl | rfl | rfl | rfl | rfl : i0 = 0 ∨ i0 = 1 ∨ i0 = 2 ∨ i0 = 3 ∨ i0 = 4 ∨ i0 = 5 ∨ i0 = 6 ∨ i0 = 7 ∨ i0 = 8 ∨ i0 = 9 := by omega
  · exact zF_62 X i j r
  · exact zF_69 X i j r
  · exact zF_76 X i j r
  · exact zF_83 X i j r
  · exact zF_90 X i j r
  · exact zF_97 X i j r
  · exact zF_104 X i j r
  · exact zF_111 X i j r
  · exact zF_118 X i j r
  · exact zF_125 X i j r
theorem zFrA_5 {i0 : Nat} (hi : i0 < 10) : ∀ (X : zX) (i : Nat → Int32) (j : Nat → Int64) (r : Nat → Option Nat), zF X (58 + 7 * i0 + 5) i j r = .inl (X.2.2.1 1, 40, .inr (.inl j)) := by
  intro X i j r
  obtain rfl | rfl | rfl | rfl | rfl | rfl | rfl | rfl | rfl | rfl : i0 = 0 ∨ i0 = 1 ∨ i0 = 2 ∨ i0 = 3 ∨ i0 = 4 ∨ i0 = 5 ∨ i0 = 6 ∨ i0 = 7 ∨ i0 = 8 ∨ i0 = 9 := by omega
  · exact zF_63 X i j r
  · exact zF_70 X i j r
  · exact zF_77 X i j r
  · exact zF_84 X i j r
  · exact zF_91 X i j r
  · exact zF_98 X i j r
  · exact zF_105 X i j r
  · exact zF_112 X i j r
  · exact zF_119 X i j r
  · exact zF_126 X i j r
theorem zFrA_6 {i0 : Nat} (hi : i0 < 10) : ∀ (X : zX) (i : Nat → Int32) (j : Nat → Int64) (r : Nat → Option Nat), zF X (58 + 7 * i0 + 6) i j r = .inl (X.2.2.1 1, 760, .inr (.inl j)) := by
  intro X i j r
  obtain rfl | rfl | rfl | rfl | rfl | rfl | rfl | rfl | rfl | rfl : i0 = 0 ∨ i0 = 1 ∨ i0 = 2 ∨ i0 = 3 ∨ i0 = 4 ∨ i0 = 5 ∨ i0 = 6 ∨ i0 = 7 ∨ i0 = 8 ∨ i0 = 9 := by omega
  · exact zF_64 X i j r
  · exact zF_71 X i j r
  · exact zF_78 X i j r
  · exact zF_85 X i j r
  · exact zF_92 X i j r
  · exact zF_99 X i j r
  · exact zF_106 X i j r
  · exact zF_113 X i j r
  · exact zF_120 X i j r
  · exact zF_127 X i j r
theorem zFk (X : zX) {kk : Nat} (h : kk = 48 ∨ kk = 53) : ∀ (i : Nat → Int32) (j : Nat → Int64) (r : Nat → Option Nat), zF X kk i j r = .inr (5, zf5 X kk i j) := by
  intro i j r
  rcases h with rfl | rfl
  · exact zF_48 X i j r
  · exact zF_53 X i j r
theorem zFkA_1 {kk : Nat} (h : kk = 48 ∨ kk = 53) : ∀ (X : zX) (i : Nat → Int32) (j : Nat → Int64) (r : Nat → Option Nat), zF X (kk + 1) i j r = .inl (X.2.2.1 0, 40, .inl i) := by
  intro X i j r
  rcases h with rfl | rfl
  · exact zF_49 X i j r
  · exact zF_54 X i j r
theorem zFkA_2 {kk : Nat} (h : kk = 48 ∨ kk = 53) : ∀ (X : zX) (i : Nat → Int32) (j : Nat → Int64) (r : Nat → Option Nat), zF X (kk + 2) i j r = .inl (X.2.2.1 0, 40, .inl i) := by
  intro X i j r
  rcases h with rfl | rfl
  · exact zF_50 X i j r
  · exact zF_55 X i j r
theorem zFkA_3 {kk : Nat} (h : kk = 48 ∨ kk = 53) : ∀ (X : zX) (i : Nat → Int32) (j : Nat → Int64) (r : Nat → Option Nat), zF X (kk + 3) i j r = .inl (X.2.2.1 0, 40, .inl i) := by
  intro X i j r
  rcases h with rfl | rfl
  · exact zF_51 X i j r
  · exact zF_56 X i j r
theorem zFkA_4 {kk : Nat} (h : kk = 48 ∨ kk = 53) : ∀ (X : zX) (i : Nat → Int32) (j : Nat → Int64) (r : Nat → Option Nat), zF X (kk + 4) i j r = .inl (X.2.2.1 0, 201, .inl i) := by
  intro X i j r
  rcases h with rfl | rfl
  · exact zF_52 X i j r
  · exact zF_57 X i j r
theorem zb_getX {C : zC} {own : String} {cc : ByteArray} {n : Nat} {ret : Option FieldType} {rm : Room} {cs : Nat × Nat} {pc : Nat} {lv : List (Nat × Value)} {st : List Value} {I : Nat → Nat → Int32} {J : Nat → Nat → Int64} {Rr : Nat → Nat → Option Nat} {D : zD} (E : zE C own cc n ret rm) (k : Nat) {ci N : Nat} {CN : String} {TF : u_T} {fs : (Nat → Int32) → (Nat → Int64) → List Value} (hk : k < 182) (hF : ∀ (i : Nat → Int32) (j : Nat → Int64) (r : Nat → Option Nat), zF C.X k i j r = .inr (ci, fs i j)) (hc : vwCl[ci]? = some (CN, TF, N)) (hin : ∀ w ∈ u_ws CN TF N, w ∈ zT) (a : Nat) (ha : a < N) {index : Nat} (hw : Cond.fieldLink own index (TF a).1 (TF a).2.1 (TF a).2.2.1 ∈ zT) {i : Nat → Int32} {j : Nat → Int64} (hI : I k = i) (hJ : J k = j) {v : Value} (hv : (fs i j)[a]? = some v) (d : decode cc pc = .ok (.getfield index, 3)) (kk : zB C cs (pc + 3) lv (v :: st) (I, J, Rr, D)) : zB C cs pc lv (.ref (C.X.1 + k) :: st) (I, J, Rr, D) := by
  subst hI
  subst hJ
  exact zb_get E k hk hF hc hin a ha hw hv d kk
theorem zb_putXI {C : zC} {own : String} {cc : ByteArray} {n : Nat} {ret : Option FieldType} {rm : Room} {cs : Nat × Nat} {pc : Nat} {lv : List (Nat × Value)} {st : List Value} {I : Nat → Nat → Int32} {J : Nat → Nat → Int64} {Rr : Nat → Nat → Option Nat} {D : zD} (E : zE C own cc n ret rm) (k : Nat) {ci N : Nat} {CN : String} {TF : u_T} {fs : (Nat → Int32) → (Nat → Int64) → List Value} (hk : k < 182) (hF : ∀ (i : Nat → Int32) (j : Nat → Int64) (r : Nat → Option Nat), zF C.X k i j r = .inr (ci, fs i j)) (hc : vwCl[ci]? = some (CN, TF, N)) (hin : ∀ w ∈ u_ws CN TF N, w ∈ zT) (a : Nat) (ha : a < N) {index : Nat} (hw : Cond.fieldLink own index (TF a).1 (TF a).2.1 (TF a).2.2.1 ∈ zT) (ty : Nat → FieldType) (hty : ∀ k, k < N → parseFieldDescriptor (TF k).2.2.1 = some (ty k)) (hnm : ∀ a, a < N → ∀ b, b < N → a ≠ b → (TF a).2.1 ≠ (TF b).2.1) (hfin : (TF a).2.2.2 = false) {v : Value} (hn : narrow (ty a) v = v) (hfit : fits (ty a) v = true) {i : Nat → Int32} {j : Nat → Int64} (hI : I k = i) (hJ : J k = j) {r2 : Nat → Int32} (hs : (fs i j).set a v = fs r2 j) (hlen : a < (fs i j).length) {I2 : Nat → Nat → Int32} (h2 : va_up I k r2 = I2) (d : decode cc pc = .ok (.putfield index, 3)) (kk : zB C cs (pc + 3) lv st (I2, J, Rr, D)) : zB C cs pc lv (v :: .ref (C.X.1 + k) :: st) (I, J, Rr, D) := by
  subst hI
  subst hJ
  subst h2
  exact zb_put E k hk hF hc hin a ha hw ty hty hnm hfin hn hfit (by rw [zup_s]; exact hs) hlen (fun j hj => ⟨zup_n hj, rfl⟩) d kk
theorem zb_putXJ {C : zC} {own : String} {cc : ByteArray} {n : Nat} {ret : Option FieldType} {rm : Room} {cs : Nat × Nat} {pc : Nat} {lv : List (Nat × Value)} {st : List Value} {I : Nat → Nat → Int32} {J : Nat → Nat → Int64} {Rr : Nat → Nat → Option Nat} {D : zD} (E : zE C own cc n ret rm) (k : Nat) {ci N : Nat} {CN : String} {TF : u_T} {fs : (Nat → Int32) → (Nat → Int64) → List Value} (hk : k < 182) (hF : ∀ (i : Nat → Int32) (j : Nat → Int64) (r : Nat → Option Nat), zF C.X k i j r = .inr (ci, fs i j)) (hc : vwCl[ci]? = some (CN, TF, N)) (hin : ∀ w ∈ u_ws CN TF N, w ∈ zT) (a : Nat) (ha : a < N) {index : Nat} (hw : Cond.fieldLink own index (TF a).1 (TF a).2.1 (TF a).2.2.1 ∈ zT) (ty : Nat → FieldType) (hty : ∀ k, k < N → parseFieldDescriptor (TF k).2.2.1 = some (ty k)) (hnm : ∀ a, a < N → ∀ b, b < N → a ≠ b → (TF a).2.1 ≠ (TF b).2.1) (hfin : (TF a).2.2.2 = false) {v : Value} (hn : narrow (ty a) v = v) (hfit : fits (ty a) v = true) {i : Nat → Int32} {j : Nat → Int64} (hI : I k = i) (hJ : J k = j) {r2 : Nat → Int64} (hs : (fs i j).set a v = fs i r2) (hlen : a < (fs i j).length) {J2 : Nat → Nat → Int64} (h2 : va_up J k r2 = J2) (d : decode cc pc = .ok (.putfield index, 3)) (kk : zB C cs (pc + 3) lv st (I, J2, Rr, D)) : zB C cs pc lv (v :: .ref (C.X.1 + k) :: st) (I, J, Rr, D) := by
  subst hI
  subst hJ
  subst h2
  exact zb_put E k hk hF hc hin a ha hw ty hty hnm hfin hn hfit (by rw [zup_s]; exact hs) hlen (fun j hj => ⟨rfl, zup_n hj⟩) d kk
theorem zb_getNX {C : zC} {own : String} {cc : ByteArray} {n : Nat} {ret : Option FieldType} {rm : Room} {cs : Nat × Nat} {pc : Nat} {lv : List (Nat × Value)} {st : List Value} {I : Nat → Nat → Int32} {J : Nat → Nat → Int64} {Rr : Nat → Nat → Option Nat} {D : zD} (E : zE C own cc n ret rm) (k : Nat) {ci N : Nat} {CN : String} {TF : u_T} {fs : (Nat → Int32) → (Nat → Int64) → List Value} (hk : k < 182) (hF : ∀ (i : Nat → Int32) (j : Nat → Int64) (r : Nat → Option Nat), zF C.X k i j r = .inr (ci, fs i j)) (hc : vwCl[ci]? = some (CN, TF, N)) (hin : ∀ w ∈ u_ws CN TF N, w ∈ zT) (a : Nat) (ha : a < N) {index : Nat} {host : String} (hw : Cond.fieldLinkNest own index (TF a).1 (TF a).2.1 (TF a).2.2.1 host ∈ zN) {i : Nat → Int32} {j : Nat → Int64} (hI : I k = i) (hJ : J k = j) {v : Value} (hv : (fs i j)[a]? = some v) (d : decode cc pc = .ok (.getfield index, 3)) (kk : zB C cs (pc + 3) lv (v :: st) (I, J, Rr, D)) : zB C cs pc lv (.ref (C.X.1 + k) :: st) (I, J, Rr, D) := by
  subst hI
  subst hJ
  exact zb_getN E k hk hF hc hin a ha hw hv d kk
theorem zb_putNXI {C : zC} {own : String} {cc : ByteArray} {n : Nat} {ret : Option FieldType} {rm : Room} {cs : Nat × Nat} {pc : Nat} {lv : List (Nat × Value)} {st : List Value} {I : Nat → Nat → Int32} {J : Nat → Nat → Int64} {Rr : Nat → Nat → Option Nat} {D : zD} (E : zE C own cc n ret rm) (k : Nat) {ci N : Nat} {CN : String} {TF : u_T} {fs : (Nat → Int32) → (Nat → Int64) → List Value} (hk : k < 182) (hF : ∀ (i : Nat → Int32) (j : Nat → Int64) (r : Nat → Option Nat), zF C.X k i j r = .inr (ci, fs i j)) (hc : vwCl[ci]? = some (CN, TF, N)) (hin : ∀ w ∈ u_ws CN TF N, w ∈ zT) (a : Nat) (ha : a < N) {index : Nat} {host : String} (hw : Cond.fieldLinkNest own index (TF a).1 (TF a).2.1 (TF a).2.2.1 host ∈ zN) (ty : Nat → FieldType) (hty : ∀ k, k < N → parseFieldDescriptor (TF k).2.2.1 = some (ty k)) (hnm : ∀ a, a < N → ∀ b, b < N → a ≠ b → (TF a).2.1 ≠ (TF b).2.1) (hfin : (TF a).2.2.2 = false) {v : Value} (hn : narrow (ty a) v = v) (hfit : fits (ty a) v = true) {i : Nat → Int32} {j : Nat → Int64} (hI : I k = i) (hJ : J k = j) {r2 : Nat → Int32} (hs : (fs i j).set a v = fs r2 j) (hlen : a < (fs i j).length) {I2 : Nat → Nat → Int32} (h2 : va_up I k r2 = I2) (d : decode cc pc = .ok (.putfield index, 3)) (kk : zB C cs (pc + 3) lv st (I2, J, Rr, D)) : zB C cs pc lv (v :: .ref (C.X.1 + k) :: st) (I, J, Rr, D) := by
  subst hI
  subst hJ
  subst h2
  exact zb_putN E k hk hF hc hin a ha hw ty hty hnm hfin hn hfit (by rw [zup_s]; exact hs) hlen (fun j hj => ⟨zup_n hj, rfl⟩) d kk
theorem zb_putNXJ {C : zC} {own : String} {cc : ByteArray} {n : Nat} {ret : Option FieldType} {rm : Room} {cs : Nat × Nat} {pc : Nat} {lv : List (Nat × Value)} {st : List Value} {I : Nat → Nat → Int32} {J : Nat → Nat → Int64} {Rr : Nat → Nat → Option Nat} {D : zD} (E : zE C own cc n ret rm) (k : Nat) {ci N : Nat} {CN : String} {TF : u_T} {fs : (Nat → Int32) → (Nat → Int64) → List Value} (hk : k < 182) (hF : ∀ (i : Nat → Int32) (j : Nat → Int64) (r : Nat → Option Nat), zF C.X k i j r = .inr (ci, fs i j)) (hc : vwCl[ci]? = some (CN, TF, N)) (hin : ∀ w ∈ u_ws CN TF N, w ∈ zT) (a : Nat) (ha : a < N) {index : Nat} {host : String} (hw : Cond.fieldLinkNest own index (TF a).1 (TF a).2.1 (TF a).2.2.1 host ∈ zN) (ty : Nat → FieldType) (hty : ∀ k, k < N → parseFieldDescriptor (TF k).2.2.1 = some (ty k)) (hnm : ∀ a, a < N → ∀ b, b < N → a ≠ b → (TF a).2.1 ≠ (TF b).2.1) (hfin : (TF a).2.2.2 = false) {v : Value} (hn : narrow (ty a) v = v) (hfit : fits (ty a) v = true) {i : Nat → Int32} {j : Nat → Int64} (hI : I k = i) (hJ : J k = j) {r2 : Nat → Int64} (hs : (fs i j).set a v = fs i r2) (hlen : a < (fs i j).length) {J2 : Nat → Nat → Int64} (h2 : va_up J k r2 = J2) (d : decode cc pc = .ok (.putfield index, 3)) (kk : zB C cs (pc + 3) lv st (I, J2, Rr, D)) : zB C cs pc lv (v :: .ref (C.X.1 + k) :: st) (I, J, Rr, D) := by
  subst hI
  subst hJ
  subst h2
  exact zb_putN E k hk hF hc hin a ha hw ty hty hnm hfin hn hfit (by rw [zup_s]; exact hs) hlen (fun j hj => ⟨rfl, zup_n hj⟩) d kk
theorem upF_s {α : Type} {f : Nat → α} {i : Nat} {x : α} : upF f i x i = x := zup_s
theorem upF_n {α : Type} {f : Nat → α} {i q : Nat} {x : α} (h : q ≠ i) : upF f i x q = f q := zup_n h
def zR {α : Type} (c : Nat) (f : Nat → α) (h : Nat → α → α) : Nat → α := fun k => if 58 ≤ k ∧ k < 114 ∧ (k - 58) % 7 = c then h ((k - 58) / 7) (f k) else f k
theorem zR_s {α : Type} {c : Nat} {f : Nat → α} {h : Nat → α → α} {i : Nat} (hi : i < 8) (hc : c < 7) : zR c f h (58 + 7 * i + c) = h i (f (58 + 7 * i + c)) := by
  show (if 58 ≤ 58 + 7 * i + c ∧ 58 + 7 * i + c < 114 ∧ (58 + 7 * i + c - 58) % 7 = c then h ((58 + 7 * i + c - 58) / 7) (f (58 + 7 * i + c)) else f (58 + 7 * i + c)) = _
  rw [if_pos ⟨by omega, by omega, by omega⟩, show (58 + 7 * i + c - 58) / 7 = i by omega]
theorem zR_n {α : Type} {c k : Nat} {f : Nat → α} {h : Nat → α → α} (hk : ¬ (58 ≤ k ∧ k < 114 ∧ (k - 58) % 7 = c)) : zR c f h k = f k := if_neg hk
theorem zR_id {α : Type} {c : Nat} {f : Nat → α} {h : Nat → α → α} (hc : c < 7) (he : ∀ i, i < 8 → h i (f (58 + 7 * i + c)) = f (58 + 7 * i + c)) : zR c f h = f := by
  funext k
  by_cases hk : 58 ≤ k ∧ k < 114 ∧ (k - 58) % 7 = c
  · have e : k = 58 + 7 * ((k - 58) / 7) + c := by omega
    have hi : (k - 58) / 7 < 8 := by omega
    rw [e, zR_s hi hc]
    exact he _ hi
  · exact zR_n hk
theorem zR_up {α : Type} {c i : Nat} {f : Nat → α} {h h2 : Nat → α → α} {r : α} (hi : i < 8) (hc : c < 7) (hr : r = h2 i (f (58 + 7 * i + c))) (ho : ∀ q a, q ≠ i → h2 q a = h q a) : va_up (zR c f h) (58 + 7 * i + c) r = zR c f h2 := by
  funext k
  by_cases e : k = 58 + 7 * i + c
  · subst e
    rw [zup_s, zR_s hi hc]
    exact hr
  · rw [zup_n e]
    by_cases hk : 58 ≤ k ∧ k < 114 ∧ (k - 58) % 7 = c
    · have e2 : k = 58 + 7 * ((k - 58) / 7) + c := by omega
      have hq : (k - 58) / 7 < 8 := by omega
      have hne : (k - 58) / 7 ≠ i := fun z => e (by omega)
      rw [e2, zR_s hq hc, zR_s hq hc, ho _ _ hne]
    · rw [zR_n hk, zR_n hk]
theorem zR_c {α : Type} {c k : Nat} {f : Nat → α} {h : Nat → α → α} {x : α} (hk : ¬ (58 ≤ k ∧ k < 114 ∧ (k - 58) % 7 = c)) : va_up (zR c f h) k x = zR c (va_up f k x) h := by
  funext j
  by_cases e : j = k
  · subst e
    rw [zup_s, zR_n hk, zup_s]
  · rw [zup_n e]
    by_cases hj : 58 ≤ j ∧ j < 114 ∧ (j - 58) % 7 = c
    · show _ = (if 58 ≤ j ∧ j < 114 ∧ (j - 58) % 7 = c then h ((j - 58) / 7) (va_up f k x j) else va_up f k x j)
      rw [if_pos hj, zup_n e]
      exact if_pos hj
    · rw [zR_n hj, zR_n hj, zup_n e]
theorem zR_d {α : Type} {c d : Nat} {f : Nat → α} {h g : Nat → α → α} (hcd : c ≠ d) : zR c (zR d f g) h = zR d (zR c f h) g := by
  funext j
  by_cases h1 : 58 ≤ j ∧ j < 114 ∧ (j - 58) % 7 = c
  · have h2 : ¬ (58 ≤ j ∧ j < 114 ∧ (j - 58) % 7 = d) := by omega
    rw [zR_n h2]
    show (if _ then _ else _) = (if _ then _ else _)
    rw [if_pos h1, if_pos h1, zR_n h2]
  · rw [zR_n h1]
    by_cases h2 : 58 ≤ j ∧ j < 114 ∧ (j - 58) % 7 = d
    · show (if _ then _ else _) = (if _ then _ else _)
      rw [if_pos h2, if_pos h2, zR_n h1]
    · rw [zR_n h2, zR_n h2, zR_n h1]
theorem zR_cg {α : Type} {c : Nat} {f g : Nat → α} {h : Nat → α → α} (e : f = g) : zR c f h = zR c g h := by rw [e]
theorem zR_zR {α : Type} {c : Nat} {f : Nat → α} {h g k2 : Nat → α → α} (e : ∀ q a, h q (g q a) = k2 q a) : zR c (zR c f g) h = zR c f k2 := by
  funext j
  by_cases h1 : 58 ≤ j ∧ j < 114 ∧ (j - 58) % 7 = c
  · show (if _ then h _ (if _ then _ else _) else _) = (if _ then _ else _)
    rw [if_pos h1, if_pos h1, if_pos h1]
    exact e _ _
  · rw [zR_n h1, zR_n h1, zR_n h1]
theorem zR_s0 {α : Type} {f : Nat → α} {h : Nat → α → α} {i : Nat} (hi : i < 8) (_ : True) : zR 0 f h (58 + 7 * i) = h i (f (58 + 7 * i)) := zR_s (c := 0) hi (by decide)
theorem zR_up0 {α : Type} {i : Nat} {f : Nat → α} {h h2 : Nat → α → α} {r : α} (hi : i < 8) (_ : True) (hr : r = h2 i (f (58 + 7 * i))) (ho : ∀ q a, q ≠ i → h2 q a = h q a) : va_up (zR 0 f h) (58 + 7 * i) r = zR 0 f h2 := zR_up (c := 0) hi (by decide) hr ho
theorem zg_n {J v : Nat → Nat → Int64} {k : Nat} (h : k < 15 ∨ 26 ≤ k) : zg J v k = J k := if_neg (by omega)
theorem zgR {J v : Nat → Nat → Int64} {c : Nat} {h : Nat → (Nat → Int64) → (Nat → Int64)} (_ : True) : zg (zR c J h) v = zR c (zg J v) h := by
  funext a
  by_cases e : 15 ≤ a ∧ a < 26
  · have n1 : ¬ (58 ≤ a ∧ a < 114 ∧ (a - 58) % 7 = c) := by omega
    rw [zR_n n1]
    show (if 15 ≤ a ∧ a < 26 then v (a - 15) else zR c J h a) = (if 15 ≤ a ∧ a < 26 then v (a - 15) else J a)
    rw [if_pos e, if_pos e]
  · have e1 : zg (zR c J h) v a = zR c J h a := if_neg e
    rw [e1]
    by_cases n1 : 58 ≤ a ∧ a < 114 ∧ (a - 58) % 7 = c
    · show (if _ then h ((a - 58) / 7) (J a) else _) = (if _ then h ((a - 58) / 7) (zg J v a) else _)
      rw [if_pos n1, if_pos n1]
      have e2 : zg J v a = J a := if_neg e
      rw [e2]
    · rw [zR_n n1, zR_n n1]
      exact (if_neg e).symm
theorem zneF {i c z : Nat} (h : i < 8) (hc : c < 7) (hz : z < 58 ∨ 114 ≤ z) : 58 + 7 * i + c ≠ z := by omega
theorem zneF0 {i z : Nat} (h : i < 8) (hz : z < 58 ∨ 114 ≤ z) : 58 + 7 * i ≠ z := by omega
theorem zneL {i c z : Nat} (hz : z < 58) : 58 + 7 * i + c ≠ z := by omega
theorem zneL0 {i z : Nat} (hz : z < 58) : 58 + 7 * i ≠ z := by omega
theorem zb_fald {C : zC} {own : String} {cc : ByteArray} {n : Nat} {ret : Option FieldType} {rm : Room} {cs : Nat × Nat} {pc : Nat} {lv : List (Nat × Value)} {st : List Value} {S : zS} (E : zE C own cc n ret rm) {i : Int32} (hin : vp_in i 8) (d : decode cc pc = .ok (.aaload, 1)) (kk : zB C cs (pc + 1) lv (.ref (C.X.1 + (58 + 7 * ix i)) :: st) S) : zB C cs pc lv (.int i :: .ref (C.X.1 + 45) :: st) S := by
  obtain ⟨p, l, e, R, s, m, args, below, meth, c, Q, X, nn⟩ := C
  intro H locs ls hl hW hS
  have hK : va_K X.2.1 vwCl (zty X) s := E.2.2.2.2.2.2.2.2.2.1
  have hlt : i.toNatClampNeg < 8 := Nat.not_le.mp fun q => hin (Or.inr q)
  have hv : va_rf ((fun q => if q < 8 then some (X.1 + (58 + 7 * q)) else none) i.toNatClampNeg) = .ref (X.1 + (58 + 7 * ix i)) := by
    show va_rf (if i.toNatClampNeg < 8 then some (X.1 + (58 + 7 * i.toNatClampNeg)) else none) = _
    rw [if_pos hlt]
    rfl
  have hc : H[X.1 + 45]? = some (vp_cell (X.2.2.1 4) (8, .inr (.inr (.inr (.inr (fun q => if q < 8 then some (X.1 + (58 + 7 * q)) else none)))))) := hW.at_ (k := 45) (by decide) (zF_45 X _ _ _) 0 _ rfl
  exact W.aald (v := .ref (X.1 + (58 + 7 * ix i))) (ty := .object RX8) E.1 E.2.1 hc ((hK.2 4 _ rfl).1 8 (fun j => va_rf ((fun q => if q < 8 then some (X.1 + (58 + 7 * q)) else none) j))) rfl (fun q => by cases q) (by show ¬ (i < 0 ∨ (arrV _ _ _).slots.size ≤ _); rw [arrV_size]; exact hin) (by show (arrV _ _ _).slots[_]? = _; rw [arrV_read _ _ hlt]; exact congrArg some hv) rfl rfl d (kk H locs ls hl hW hS)
theorem zkn {i0 kn : Nat} (h : (i0 < 8 ∧ kn = 48) ∨ (8 ≤ i0 ∧ kn = 53)) : kn = 48 ∨ kn = 53 := by omega
theorem zcf {α : Type} {f g : Nat → α} {a : Nat} {v : α} (h : f = g) (e : g a = v) : f a = v := by rw [h]; exact e
theorem zS_eq3 {I I2 : Nat → Nat → Int32} {J J2 : Nat → Nat → Int64} {R R2 : Nat → Nat → Option Nat} {D : zD} (hI : I = I2) (hJ : J = J2) (hR : R = R2) : ((I, J, R, D) : zS) = (I2, J2, R2, D) := by rw [hI, hJ, hR]
def zknf (j : Nat) : Nat := if j < 8 then 48 else 53
theorem zkj (j : Nat) : (j < 8 ∧ zknf j = 48) ∨ (8 ≤ j ∧ zknf j = 53) := by
  by_cases h : j < 8
  · exact Or.inl ⟨h, if_pos h⟩
  · exact Or.inr ⟨by omega, if_neg h⟩
