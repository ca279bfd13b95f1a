set_option maxHeartbeats 4000000
set_option maxRecDepth 100000
theorem split_at {α : Type} : ∀ (V : List α) (j : Nat), j < V.length → ∃ A w B, V = A ++ w :: B ∧ A.length = j
  | [], j, h => absurd h (Nat.not_lt_zero j)
  | x :: V, 0, _ => ⟨[], x, V, rfl, rfl⟩
  | x :: V, j + 1, h => by
    obtain ⟨A, w, B, e, l⟩ := split_at V j (Nat.lt_of_succ_lt_succ h)
    exact ⟨x :: A, w, B, by rw [e]; rfl, by show A.length + 1 = j + 1; rw [l]⟩
theorem KStm.rt {D E : DynI} {stm : Nat → Option Nat} {V : List St} (h : KStm D stm V) (k : DExt D E) {j : Nat} (hj : j < V.length) : jRt E (stm j) 0 = true := by
  obtain ⟨A, w, B, e, l⟩ := split_at V j hj
  obtain ⟨y, a, b⟩ := h A w B e
  rw [l] at a
  rw [a]
  exact decide_eq_true (b.ext k).1
theorem kw_make {N n : Nat} {T : Nat → Int} {D : DynI} {a fa fp s st : Int} {v : Nat → Int} {stm : Nat → Option Nat} {V : List St} {Q : R_iReader_read → Prop} (hV : V.length ≤ 24) (h1 : KStm D stm V) (h2 : cdk v s (trl (cat V))) (hs : s < 600) (hQ : ∀ E : DynI, DExt D E → E.1 = D.1 + 3 → KWr E D.1 V → Q (some D.1, E, a, V.length, fa, fp, 0, 0, 0, s, st, v, stm)) : wp (iReader_read_b79 N T 1 D a V.length fa fp 0 n 0 s st v stm) Q := by
  have hs2 := h2.1
  unfold iReader_read_b79
  rw [if_neg (by decide), if_pos rfl]
  unfold iReader_read_b100 iReader_wipe
  rw [wp_bd1, wp_some, if_neg (by decide), wp_bd1, wp_some, wp_bd1]
  unfold iWrit_init
  have ec : (V.length : Int).toNat = V.length := rfl
  have es : s.toNat = (trl (cat V)).length := by omega
  rw [wp_gd, wp_bd1, wp_some, wp_bd1, ec, es]
  refine ⟨jb_iff.mpr (by omega), ?_⟩
  -- the row of statements
  have o1 : jOk (jNewA (jNew D 1) 2 V.length) D.1 1 := ⟨by show D.1 < D.1 + 1 + 1; omega, by
    show va_up (va_up D.2.1 D.1 1) (D.1 + 1) 2 D.1 = 1
    rw [va_up_ne _ _ (by omega), va_up_self]⟩
  have e1 : jPR (jNewA (jNew D 1) 2 V.length) D.1 1 0 (some (jNew D 1).1) = some ((D.1 + 1 + 1, va_up (va_up D.2.1 D.1 1) (D.1 + 1) 2, va_up D.2.2.1 (D.1 + 1) V.length, va_up (va_up D.2.2.2.1 D.1 (fun _ => 0)) (D.1 + 1) (fun _ => 0), va_up (va_up (va_up D.2.2.2.2 D.1 (fun _ => none)) (D.1 + 1) (fun _ => none)) D.1 (va_up ((va_up (va_up D.2.2.2.2 D.1 (fun _ => none)) (D.1 + 1) (fun _ => none)) D.1) 0 (some (D.1 + 1)))) : DynI) := by
    unfold jPR
    rw [if_pos o1]
    rfl
  rw [e1, wp_some]
  generalize hE3 : ((D.1 + 1 + 1, va_up (va_up D.2.1 D.1 1) (D.1 + 1) 2, va_up D.2.2.1 (D.1 + 1) V.length, va_up (va_up D.2.2.2.1 D.1 (fun _ => 0)) (D.1 + 1) (fun _ => 0), va_up (va_up (va_up D.2.2.2.2 D.1 (fun _ => none)) (D.1 + 1) (fun _ => none)) D.1 (va_up ((va_up (va_up D.2.2.2.2 D.1 (fun _ => none)) (D.1 + 1) (fun _ => none)) D.1) 0 (some (D.1 + 1)))) : DynI) = E3
  have n3 : E3.1 = D.1 + 2 := by rw [← hE3]
  have k3 : E3.2.1 = va_up (va_up D.2.1 D.1 1) (D.1 + 1) 2 := by rw [← hE3]
  have l3 : E3.2.2.1 = va_up D.2.2.1 (D.1 + 1) V.length := by rw [← hE3]
  have i3 : E3.2.2.2.1 = va_up (va_up D.2.2.2.1 D.1 (fun _ => 0)) (D.1 + 1) (fun _ => 0) := by rw [← hE3]
  have r3 : E3.2.2.2.2 = va_up (va_up (va_up D.2.2.2.2 D.1 (fun _ => none)) (D.1 + 1) (fun _ => none)) D.1 (va_up ((va_up (va_up D.2.2.2.2 D.1 (fun _ => none)) (D.1 + 1) (fun _ => none)) D.1) 0 (some (D.1 + 1))) := by rw [← hE3]
  have ok3 : jOk E3 D.1 1 := ⟨by rw [n3]; omega, by rw [k3, va_up_ne _ _ (by omega), va_up_self]⟩
  have ok3a : jOk E3 (D.1 + 1) 2 := ⟨by rw [n3]; omega, by rw [k3, va_up_self]⟩
  have x3 : DExt D E3 := ⟨by rw [n3]; omega, fun y hy => ⟨by rw [k3, va_up_ne _ _ (by omega), va_up_ne _ _ (by omega)], by rw [l3, va_up_ne _ _ (by omega)], by rw [i3, va_up_ne _ _ (by omega), va_up_ne _ _ (by omega)], by rw [r3, va_up_ne _ _ (by omega), va_up_ne _ _ (by omega), va_up_ne _ _ (by omega)]⟩⟩
  have rr3 : E3.2.2.2.2 D.1 0 = some (D.1 + 1) := by rw [r3, va_up_self, va_up_self]
  have e2 : jGR E3 D.1 1 0 = some (some (D.1 + 1)) := by
    unfold jGR
    rw [if_pos ok3, rr3]
  rw [wp_bd1, e2, wp_some, wp_bd1, wp_some, wp_bd1]
  have z0 : (0 : Int).toNat = 0 := rfl
  have e3 : jCopy E3 (D.1 + 1) stm 24 0 0 V.length = some (E3.1, E3.2.1, E3.2.2.1, E3.2.2.2.1, va_up E3.2.2.2.2 (D.1 + 1) (va_cpy stm (E3.2.2.2.2 (D.1 + 1)) 0 0 V.length)) := by
    unfold jCopy
    have c1 : jcp 0 24 0 (E3.2.2.1 (D.1 + 1)) V.length = true := by
      rw [l3, va_up_self]
      exact decide_eq_true (by omega)
    have c2 : (List.range (V.length : Int).toNat).all (fun i => jRt E3 (stm ((0 : Int).toNat + i)) 0) = true := by
      rw [List.all_eq_true]
      intro i hi
      rw [z0, Nat.zero_add]
      rw [List.mem_range, ec] at hi
      exact h1.rt x3 hi
    rw [if_pos ⟨ok3a, c1, c2⟩]
    rfl
  rw [e3, wp_some, wp_gd, wp_bd1, wp_some, wp_bd1]
  refine ⟨jb_iff.mpr (by omega), ?_⟩
  generalize hE4 : ((E3.1, E3.2.1, E3.2.2.1, E3.2.2.2.1, va_up E3.2.2.2.2 (D.1 + 1) (va_cpy stm (E3.2.2.2.2 (D.1 + 1)) 0 0 V.length)) : DynI) = E4
  have n4 : E4.1 = D.1 + 2 := by rw [← hE4, ← n3]
  have k4 : E4.2.1 = E3.2.1 := by rw [← hE4]
  have l4 : E4.2.2.1 = E3.2.2.1 := by rw [← hE4]
  have i4 : E4.2.2.2.1 = E3.2.2.2.1 := by rw [← hE4]
  have r4' : E4.2.2.2.2 = va_up E3.2.2.2.2 (D.1 + 1) (va_cpy stm (E3.2.2.2.2 (D.1 + 1)) 0 0 V.length) := by rw [← hE4]
  have ok5 : jOk (jNewI E4 (trl (cat V)).length v) D.1 1 := ⟨by show D.1 < E4.1 + 1; omega, by
    show va_up E4.2.1 E4.1 3 D.1 = 1
    rw [n4, va_up_ne _ _ (by omega), k4]
    exact ok3.2⟩
  have e5 : jPR (jNewI E4 (trl (cat V)).length v) D.1 1 1 (some E4.1) = some ((E4.1 + 1, va_up E4.2.1 E4.1 3, va_up E4.2.2.1 E4.1 (trl (cat V)).length, va_up E4.2.2.2.1 E4.1 (va_cpy v (fun _ => 0) 0 0 (trl (cat V)).length), va_up (va_up E4.2.2.2.2 E4.1 (fun _ => none)) D.1 (va_up ((va_up E4.2.2.2.2 E4.1 (fun _ => none)) D.1) 1 (some E4.1))) : DynI) := by
    unfold jPR
    rw [if_pos ok5]
    rfl
  rw [e5, wp_some, wp_some, wp_some]
  generalize hE6 : ((E4.1 + 1, va_up E4.2.1 E4.1 3, va_up E4.2.2.1 E4.1 (trl (cat V)).length, va_up E4.2.2.2.1 E4.1 (va_cpy v (fun _ => 0) 0 0 (trl (cat V)).length), va_up (va_up E4.2.2.2.2 E4.1 (fun _ => none)) D.1 (va_up ((va_up E4.2.2.2.2 E4.1 (fun _ => none)) D.1) 1 (some E4.1))) : DynI) = E6
  have n6 : E6.1 = D.1 + 3 := by rw [← hE6, n4]
  have k6 : E6.2.1 = va_up E4.2.1 (D.1 + 2) 3 := by rw [← hE6, n4]
  have l6 : E6.2.2.1 = va_up E4.2.2.1 (D.1 + 2) (trl (cat V)).length := by rw [← hE6, n4]
  have i6 : E6.2.2.2.1 = va_up E4.2.2.2.1 (D.1 + 2) (va_cpy v (fun _ => 0) 0 0 (trl (cat V)).length) := by rw [← hE6, n4]
  have r6 : E6.2.2.2.2 = va_up (va_up E4.2.2.2.2 (D.1 + 2) (fun _ => none)) D.1 (va_up ((va_up E4.2.2.2.2 (D.1 + 2) (fun _ => none)) D.1) 1 (some (D.1 + 2))) := by rw [← hE6, n4]
  have x6 : DExt D E6 := ⟨by rw [n6]; omega, fun y hy => ⟨by rw [k6, va_up_ne _ _ (by omega), k4, (x3.2 y hy).1], by rw [l6, va_up_ne _ _ (by omega), l4, (x3.2 y hy).2.1], by rw [i6, va_up_ne _ _ (by omega), i4, (x3.2 y hy).2.2.1], by rw [r6, va_up_ne _ _ (by omega), va_up_ne _ _ (by omega), r4', va_up_ne _ _ (by omega), (x3.2 y hy).2.2.2]⟩⟩
  refine hQ E6 x6 n6 ⟨⟨by rw [n6]; omega, ?_⟩, D.1 + 1, D.1 + 2, ?_, ?_, ⟨by rw [n6]; omega, ?_⟩, ?_, ?_, ⟨by rw [n6]; omega, ?_⟩, ?_, fun k hk => ?_⟩
  · rw [k6, va_up_ne _ _ (by omega), k4]
    exact ok3.2
  · rw [r6, va_up_self, va_up_ne _ _ (by decide), va_up_ne _ _ (by omega), r4', va_up_ne _ _ (by omega)]
    exact rr3
  · rw [r6, va_up_self, va_up_self]
  · rw [k6, va_up_ne _ _ (by omega), k4]
    exact ok3a.2
  · rw [l6, va_up_ne _ _ (by omega), l4, l3, va_up_self]
  · have : ∀ j, j < V.length → E6.2.2.2.2 (D.1 + 1) j = stm j := fun j hj => by
      rw [r6, va_up_ne _ _ (by omega), va_up_ne _ _ (by omega), r4', va_up_self, pk_cpy_in (Nat.zero_le _) (by omega), Nat.sub_zero, Nat.zero_add]
    exact (h1.ext x6).up this
  · rw [k6, va_up_self]
  · rw [l6, va_up_self]
  · rw [i6, va_up_self, pk_cpy_in (Nat.zero_le _) (by omega), Nat.sub_zero, Nat.zero_add]
    exact h2.2 k hk
