set_option maxHeartbeats 1000000
set_option maxRecDepth 100000
theorem and31 (x : Int32) : 0 ≤ (x &&& 31).toInt ∧ (x &&& 31).toInt < 32 := by
  have h : (x &&& 31).toBitVec = x.toBitVec &&& 31#32 := rfl
  have h2 : (x.toBitVec &&& 31#32).toNat < 32 := by
    rw [BitVec.toNat_and]
    exact Nat.lt_of_le_of_lt Nat.and_le_right (by decide)
  have h3 : (x &&& 31).toInt = ((x.toBitVec &&& 31#32).toNat : Int) := by
    show (x &&& 31).toBitVec.toInt = _
    rw [h, BitVec.toInt_eq_toNat_cond, if_pos (by omega)]
  omega
theorem la_lt {L i : Nat} (hL : L ≤ 3072) (hi : i ≤ 4000) (h : ¬ (Int32.ofNat L - 6 < nI i)) : i + 6 ≤ L := by
  by_cases h6 : 6 ≤ L
  · have e : Int32.ofNat L - 6 = nI (L - 6) := by
      have e2 : Int32.ofNat L = nI (L - 6) + nI 6 := by rw [nI_add, Nat.sub_add_cancel h6]; rfl
      rw [e2]
      show nI (L - 6) + nI 6 - nI 6 = _
      exact Int32.add_sub_cancel _ _
    rw [e] at h
    have := mt (fun z => nI_lt (a := L - 6) (b := i) z (by omega)) h
    omega
  · exact absurd (by
      have e : L = 0 ∨ L = 1 ∨ L = 2 ∨ L = 3 ∨ L = 4 ∨ L = 5 := by omega
      have hp : (0 : Int32) ≤ nI i := nI_pos' (by omega)
      have hq : Int32.ofNat L - 6 < 0 := by
        rcases e with rfl | rfl | rfl | rfl | rfl | rfl <;> decide
      rw [Int32.lt_iff_toInt_lt] at hq ⊢
      rw [Int32.le_iff_toInt_le] at hp
      omega) h
theorem law_end {C : zC} {b : Nat} (E : zEl C) (hQ : C.Q = lw_Z C.below #[Value.ref b] C.s) (hA : C.args = #[Value.ref b]) (hX : C.X.1 = C.s.heap.size) {cs : Nat × Nat} (h1 : cs.1 ≤ 600000) (h2 : cs.2 ≤ 7302249) {lv : List (Nat × Value)} {S : zS} : zB C cs 1165 lv [] S := by
  refine zb_iconst E dl_1165 (v := 1) rfl ?_
  obtain ⟨p, l, e, R, s, m, args, below, meth, c, Q, X, nn⟩ := C
  intro H locs ls hl hW hS
  have hR : R = room_1 := E.2.2.2.2.2.2.2.2.1
  subst hR
  have hQ2 : Q = lw_Z below #[Value.ref b] s := hQ
  subst hQ2
  have hA2 : args = #[Value.ref b] := hA
  subst hA2
  refine W.widen h1 h2 ?_
  refine va_forget (fun q hq => ?_) ?_
  · have := hS.2.2 q hq
    have h3 : X.1 ≤ q.base := this
    rw [show X.1 = s.heap.size from hX] at h3
    exact h3
  · exact lw_ret E.1 E.2.1 E.2.2.2.2.2.2.1 E.2.2.2.2.2.2.2.1 dl_1166
theorem law_loop {C : zC} {b L c0 s0 : Nat} {xs : Nat → Int32} (E : zEl C) (hc : zSc C b L xs) (hL : L ≤ 3072) (hQ : C.Q = lw_Z C.below #[Value.ref b] C.s) (hA : C.args = #[Value.ref b]) (h1 : c0 ≤ 1000) (h2 : s0 ≤ 1000000) : ∀ (m n : Nat) (S : zS), 6 * n ≤ L + 5 → 513 ≤ n + m → INVs n S → zB C (c0 + 27 * n, s0 + 794 * n) 18 (lvl C b (6 * n)) [] S := by
  intro m
  induction m with
  | zero =>
    intro n S e1 e2 hI
    exact absurd e1 (by omega)
  | succ m ih =>
    intro n S e1 e2 hI
    refine zb_iload_n E dl_18 0 rfl rfl ?_
    refine zb_aload_n E dl_19 1 rfl rfl ?_
    refine zb_slenL E hc dl_20 ?_
    refine zb_bipush E dl_21 (v := 6) rfl ?_
    refine zb_isub E dl_23 ?_
    refine zb_icmp_gt E dl_24 (tgt := 1165) rfl (fun _ => law_end E hQ hA hc.2.2 (by (try dsimp only); omega) (by (try dsimp only); omega)) (fun hlt => ?_)
    have hi : 6 * n + 6 ≤ L := la_lt hL (by omega) hlt
    refine zb_aload_n E dl_27 1 rfl rfl ?_
    refine zb_iload_n E dl_28 0 rfl rfl ?_
    refine zb_sld E hc (nI_in (by omega) (by omega)) dl_29 ?_
    rw [nI_clamp (by omega)]
    refine zb_bipush E dl_30 (v := 31) rfl ?_
    refine zb_iand E dl_32 ?_
    obtain ⟨I, J, Rr, D⟩ := S
    have kk : ∀ S2, INVs (n + 1) S2 → zB C (c0 + 27 * n + 27, s0 + 794 * n + 794) 1159 (lvl C b (6 * n)) [] S2 := fun S2 hI2 => by
      refine zb_iinc E dl_1159 0 rfl (v := nI (6 * (n + 1))) (by rw [show 6 * (n + 1) = 6 * n + 6 by omega, ← nI_add]; rfl) (by decide) (lv2 := lvl C b (6 * (n + 1))) rfl ?_
      refine zb_goto E dl_1162 (tgt := 18) rfl ?_
      exact ih (n + 1) S2 (by omega) (by omega) hI2
    have hx := and31 (xs (6 * n))
    generalize hv : xs (6 * n) &&& 31 = v at hx ⊢
    have hu : INVs (n + 1) (I, J, Rr, D) := by
      obtain ⟨c, Wf, hC, hH, hr⟩ := hI
      exact ⟨c, Wf, hC, ivH_up hH, hr⟩
    have hcase : v.toInt = 0 ∨ v.toInt = 1 ∨ v.toInt = 2 ∨ v.toInt = 3 ∨ v.toInt = 4 ∨ v.toInt = 5 ∨ v.toInt = 6 ∨ v.toInt = 7 ∨ v.toInt = 8 ∨ v.toInt = 9 ∨ v.toInt = 10 ∨ v.toInt = 11 ∨ v.toInt = 12 ∨ v.toInt = 13 ∨ v.toInt = 14 ∨ v.toInt = 15 ∨ v.toInt = 16 ∨ v.toInt = 17 ∨ v.toInt = 18 ∨ v.toInt = 19 ∨ v.toInt = 20 ∨ v.toInt = 21 ∨ v.toInt = 22 ∨ v.toInt = 23 ∨ v.toInt = 24 ∨ v.toInt = 25 ∨ v.toInt = 26 ∨ v.toInt = 27 ∨ v.toInt = 28 ∨ v.toInt = 29 ∨ v.toInt = 30 ∨ v.toInt = 31 := by omega
    rcases hcase with e | e | e | e | e | e | e | e | e | e | e | e | e | e | e | e | e | e | e | e | e | e | e | e | e | e | e | e | e | e | e | e
    · exact zb_tableIn E dl_33 (by omega) (by omega) (off := 135) (by rw [e]; rfl) (tgt := 168) rfl (la_feed E hc hi hL (by omega) hI (by (try dsimp only); omega) (by (try dsimp only); omega) kk)
    · exact zb_tableIn E dl_33 (by omega) (by omega) (off := 198) (by rw [e]; rfl) (tgt := 231) rfl (la_end E hc hi hL (by omega) hI (by (try dsimp only); omega) (by (try dsimp only); omega) kk)
    · exact zb_tableIn E dl_33 (by omega) (by omega) (off := 221) (by rw [e]; rfl) (tgt := 254) rfl (la_put E hc hi hL (by omega) hI (by (try dsimp only); omega) (by (try dsimp only); omega) kk)
    · exact zb_tableIn E dl_33 (by omega) (by omega) (off := 254) (by rw [e]; rfl) (tgt := 287) rfl (la_lies E hc hi hL (by omega) hI (by (try dsimp only); omega) (by (try dsimp only); omega) kk)
    · exact zb_tableIn E dl_33 (by omega) (by omega) (off := 277) (by rw [e]; rfl) (tgt := 310) rfl (la_worth E hc hi hL (by omega) hI (by (try dsimp only); omega) (by (try dsimp only); omega) kk)
    · exact zb_tableIn E dl_33 (by omega) (by omega) (off := 291) (by rw [e]; rfl) (tgt := 324) rfl (la_plain E hc hi hL (by omega) hI (by (try dsimp only); omega) (by (try dsimp only); omega) kk)
    · exact zb_tableIn E dl_33 (by omega) (by omega) (off := 324) (by rw [e]; rfl) (tgt := 357) rfl (la_lay E hc hi hL (by omega) hI (by (try dsimp only); omega) (by (try dsimp only); omega) kk)
    · exact zb_tableIn E dl_33 (by omega) (by omega) (off := 347) (by rw [e]; rfl) (tgt := 380) rfl (la_draw E hc hi hL (by omega) hI (by (try dsimp only); omega) (by (try dsimp only); omega) kk)
    · exact zb_tableIn E dl_33 (by omega) (by omega) (off := 370) (by rw [e]; rfl) (tgt := 403) rfl (la_steps E hc hi hL (by omega) hI (by (try dsimp only); omega) (by (try dsimp only); omega) kk)
    · exact zb_tableIn E dl_33 (by omega) (by omega) (off := 393) (by rw [e]; rfl) (tgt := 426) rfl (la_cut E hc hi hL (by omega) hI (by (try dsimp only); omega) (by (try dsimp only); omega) kk)
    · exact zb_tableIn E dl_33 (by omega) (by omega) (off := 462) (by rw [e]; rfl) (tgt := 495) rfl (la_burn E hc hi hL (by omega) hI (by (try dsimp only); omega) (by (try dsimp only); omega) kk)
    · exact zb_tableIn E dl_33 (by omega) (by omega) (off := 511) (by rw [e]; rfl) (tgt := 544) rfl (la_sum E hc hi hL (by omega) hI (by (try dsimp only); omega) (by (try dsimp only); omega) kk)
    · exact zb_tableIn E dl_33 (by omega) (by omega) (off := 560) (by rw [e]; rfl) (tgt := 593) rfl (la_wear E hc hi hL (by omega) hI (by (try dsimp only); omega) (by (try dsimp only); omega) kk)
    · exact zb_tableIn E dl_33 (by omega) (by omega) (off := 603) (by rw [e]; rfl) (tgt := 636) rfl (la_fit E hc hi hL (by omega) hI (by (try dsimp only); omega) (by (try dsimp only); omega) kk)
    · exact zb_tableIn E dl_33 (by omega) (by omega) (off := 636) (by rw [e]; rfl) (tgt := 669) rfl (la_mate E hc hi hL (by omega) hI (by (try dsimp only); omega) (by (try dsimp only); omega) kk)
    · exact zb_tableIn E dl_33 (by omega) (by omega) (off := 659) (by rw [e]; rfl) (tgt := 692) rfl (la_matched E hc hi hL (by omega) hI (by (try dsimp only); omega) (by (try dsimp only); omega) kk)
    · exact zb_tableIn E dl_33 (by omega) (by omega) (off := 682) (by rw [e]; rfl) (tgt := 715) rfl (la_writ E hc hi hL (by omega) hI (by (try dsimp only); omega) (by (try dsimp only); omega) kk)
    · exact zb_tableIn E dl_33 (by omega) (by omega) (off := 705) (by rw [e]; rfl) (tgt := 738) rfl (la_fault E hc hi hL (by omega) hI (by (try dsimp only); omega) (by (try dsimp only); omega) kk)
    · exact zb_tableIn E dl_33 (by omega) (by omega) (off := 728) (by rw [e]; rfl) (tgt := 761) rfl (la_force E hc hi hL (by omega) hI (by (try dsimp only); omega) (by (try dsimp only); omega) kk)
    · exact zb_tableIn E dl_33 (by omega) (by omega) (off := 751) (by rw [e]; rfl) (tgt := 784) rfl (la_pays E hc hi hL (by omega) hI (by (try dsimp only); omega) (by (try dsimp only); omega) kk)
    · exact zb_tableIn E dl_33 (by omega) (by omega) (off := 794) (by rw [e]; rfl) (tgt := 827) rfl (la_tally E hc hi hL (by omega) hI (by (try dsimp only); omega) (by (try dsimp only); omega) kk)
    · exact zb_tableIn E dl_33 (by omega) (by omega) (off := 837) (by rw [e]; rfl) (tgt := 870) rfl (la_fire E hc hi hL (by omega) hI (by (try dsimp only); omega) (by (try dsimp only); omega) kk)
    · exact zb_tableIn E dl_33 (by omega) (by omega) (off := 870) (by rw [e]; rfl) (tgt := 903) rfl (la_annul E hc hi hL (by omega) hI (by (try dsimp only); omega) (by (try dsimp only); omega) kk)
    · exact zb_tableIn E dl_33 (by omega) (by omega) (off := 893) (by rw [e]; rfl) (tgt := 926) rfl (la_as E hc hi hL (by omega) hI (by (try dsimp only); omega) (by (try dsimp only); omega) kk)
    · exact zb_tableIn E dl_33 (by omega) (by omega) (off := 916) (by rw [e]; rfl) (tgt := 949) rfl (la_roll E hc hi hL (by omega) hI (by (try dsimp only); omega) (by (try dsimp only); omega) kk)
    · exact zb_tableIn E dl_33 (by omega) (by omega) (off := 960) (by rw [e]; rfl) (tgt := 993) rfl (la_owed E hc hi hL (by omega) hI (by (try dsimp only); omega) (by (try dsimp only); omega) kk)
    · exact zb_tableIn E dl_33 (by omega) (by omega) (off := 984) (by rw [e]; rfl) (tgt := 1017) rfl (la_slip E hc hi hL (by omega) hI (by (try dsimp only); omega) (by (try dsimp only); omega) kk)
    · exact zb_tableIn E dl_33 (by omega) (by omega) (off := 1057) (by rw [e]; rfl) (tgt := 1090) rfl (la_moved E hc hi hL (by omega) hI (by (try dsimp only); omega) (by (try dsimp only); omega) kk)
    · exact zb_tableIn E dl_33 (by omega) (by omega) (off := 1070) (by rw [e]; rfl) (tgt := 1103) rfl (la_since E hc hi hL (by omega) hI (by (try dsimp only); omega) (by (try dsimp only); omega) kk)
    · exact zb_tableIn E dl_33 (by omega) (by omega) (off := 1103) (by rw [e]; rfl) (tgt := 1136) rfl (la_all E hc hi hL (by omega) hI (by (try dsimp only); omega) (by (try dsimp only); omega) kk)
    · exact zb_tableOut E dl_33 (Or.inr (by omega)) (tgt := 1159) rfl (zb_wide (by (try dsimp only); omega) (by (try dsimp only); omega) (kk _ hu))
    · exact zb_tableOut E dl_33 (Or.inr (by omega)) (tgt := 1159) rfl (zb_wide (by (try dsimp only); omega) (by (try dsimp only); omega) (kk _ hu))
