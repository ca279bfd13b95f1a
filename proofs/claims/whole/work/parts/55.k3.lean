set_option maxHeartbeats 4000000
set_option maxRecDepth 100000
theorem t_pActs_isFull {v_count : Int32} {v_count_j : Int} (t_v_count : mI v_count = v_count_j) : tl (mI) (iActs_isFull v_count_j) (pActs_isFull v_count) := by
  subst t_v_count
  unfold iActs_isFull pActs_isFull
  refine tl_ite (jc_lt (Eq.refl (mI v_count)) jlitI_200) ?_ ?_
  · exact (tl_some jlitI_0)
  · exact (tl_some jlitI_1)
theorem t_pActs_add {a1 : Int32} {a1_j : Int} (t_a1 : mI a1 = a1_j) {a2 : Int32} {a2_j : Int} (t_a2 : mI a2 = a2_j) {a3 : Int32} {a3_j : Int} (t_a3 : mI a3 = a3_j) {a4 : Int32} {a4_j : Int} (t_a4 : mI a4 = a4_j) {v_count : Int32} {v_count_j : Int} (t_v_count : mI v_count = v_count_j) {v_amounts : (Nat → Int32)} {v_amounts_j : (Nat → Int)} (t_v_amounts : mA v_amounts = v_amounts_j) {v_kinds : (Nat → Int32)} {v_kinds_j : (Nat → Int)} (t_v_kinds : mA v_kinds = v_kinds_j) {v_shires : (Nat → Int32)} {v_shires_j : (Nat → Int)} (t_v_shires : mA v_shires = v_shires_j) {v_terms : (Nat → Int32)} {v_terms_j : (Nat → Int)} (t_v_terms : mA v_terms = v_terms_j) : tl (mP mI (mP mI (mP mA (mP mA (mP mA mA))))) (iActs_add a1_j a2_j a3_j a4_j v_count_j v_amounts_j v_kinds_j v_shires_j v_terms_j) (pActs_add a1 a2 a3 a4 v_count v_amounts v_kinds v_shires v_terms) := by
  subst t_a1
  subst t_a2
  subst t_a3
  subst t_a4
  subst t_v_count
  subst t_v_amounts
  subst t_v_kinds
  subst t_v_shires
  subst t_v_terms
  unfold iActs_add pActs_add
  refine tl_bd1 (t_pActs_isFull (Eq.refl (mI v_count))) (fun rc1 => ?_)
  refine tl_ite (jc_eq (Eq.refl (mI rc1)) jlitI_0) ?_ ?_
  · refine tl_g (fun h1 => ?_)
    refine tl_gd (jg_ib (ja_add (Eq.refl (mI v_count)) jlitI_1 h1)) (fun _ => ?_)
    exact (tl_some (jp2 (ja_add (Eq.refl (mI v_count)) jlitI_1 h1) (jp2 (ja_add (Eq.refl (mI v_count)) jlitI_1 h1) (jp2 (jupA (Eq.refl (mA v_amounts)) (jx (ja_add (Eq.refl (mI v_count)) jlitI_1 h1)) (Eq.refl (mI a4))) (jp2 (jupA (Eq.refl (mA v_kinds)) (jx (ja_add (Eq.refl (mI v_count)) jlitI_1 h1)) (Eq.refl (mI a1))) (jp2 (jupA (Eq.refl (mA v_shires)) (jx (ja_add (Eq.refl (mI v_count)) jlitI_1 h1)) (Eq.refl (mI a2))) (jupA (Eq.refl (mA v_terms)) (jx (ja_add (Eq.refl (mI v_count)) jlitI_1 h1)) (Eq.refl (mI a3)))))))))
  · exact (tl_some (jp2 jlitI_m1 (jp2 (Eq.refl (mI v_count)) (jp2 (Eq.refl (mA v_amounts)) (jp2 (Eq.refl (mA v_kinds)) (jp2 (Eq.refl (mA v_shires)) (Eq.refl (mA v_terms))))))))
theorem t_pActs_addWrit {a1 : Int32} {a1_j : Int} (t_a1 : mI a1 = a1_j) {a2 : (Option Nat)} {a2_j : (Option Nat)} (t_a2 : mO a2 = a2_j) {v_D : Dyn} {v_D_j : DynI} (t_v_D : mD v_D = v_D_j) {v_count : Int32} {v_count_j : Int} (t_v_count : mI v_count = v_count_j) {v_amounts : (Nat → Int32)} {v_amounts_j : (Nat → Int)} (t_v_amounts : mA v_amounts = v_amounts_j) {v_kinds : (Nat → Int32)} {v_kinds_j : (Nat → Int)} (t_v_kinds : mA v_kinds = v_kinds_j) {v_shires : (Nat → Int32)} {v_shires_j : (Nat → Int)} (t_v_shires : mA v_shires = v_shires_j) {v_terms : (Nat → Int32)} {v_terms_j : (Nat → Int)} (t_v_terms : mA v_terms = v_terms_j) {v_writs : (Nat → Option Nat)} {v_writs_j : (Nat → Option Nat)} (t_v_writs : mO v_writs = v_writs_j) : tl (mP mI (mP mI (mP mA (mP mA (mP mA (mP mA mO)))))) (iActs_addWrit a1_j a2_j v_D_j v_count_j v_amounts_j v_kinds_j v_shires_j v_terms_j v_writs_j) (pActs_addWrit a1 a2 v_D v_count v_amounts v_kinds v_shires v_terms v_writs) := by
  subst t_a1
  subst t_a2
  subst t_v_D
  subst t_v_count
  subst t_v_amounts
  subst t_v_kinds
  subst t_v_shires
  subst t_v_terms
  subst t_v_writs
  unfold iActs_addWrit pActs_addWrit
  refine tl_bd6 (t_pActs_add jlitI_1 jlitI_m1 (Eq.refl (mI a1)) jlitI_0 (Eq.refl (mI v_count)) (Eq.refl (mA v_amounts)) (Eq.refl (mA v_kinds)) (Eq.refl (mA v_shires)) (Eq.refl (mA v_terms))) (fun rc1 v_count_c1 v_amounts_c1 v_kinds_c1 v_shires_c1 v_terms_c1 => ?_)
  refine tl_ite (jc_eq (Eq.refl (mI rc1)) jlitI_m1) ?_ ?_
  · exact (tl_some (jp2 (Eq.refl (mI rc1)) (jp2 (Eq.refl (mI v_count_c1)) (jp2 (Eq.refl (mA v_amounts_c1)) (jp2 (Eq.refl (mA v_kinds_c1)) (jp2 (Eq.refl (mA v_shires_c1)) (jp2 (Eq.refl (mA v_terms_c1)) (Eq.refl (mO v_writs)))))))))
  · refine tl_gd (jg_Rt (Eq.refl (mD v_D)) (Eq.refl (mO a2))) (fun _ => ?_)
    refine tl_gd (jg_ib (Eq.refl (mI rc1))) (fun _ => ?_)
    exact (tl_some (jp2 (Eq.refl (mI rc1)) (jp2 (Eq.refl (mI v_count_c1)) (jp2 (Eq.refl (mA v_amounts_c1)) (jp2 (Eq.refl (mA v_kinds_c1)) (jp2 (Eq.refl (mA v_shires_c1)) (jp2 (Eq.refl (mA v_terms_c1)) (jupO (Eq.refl (mO v_writs)) (jx (Eq.refl (mI rc1))) (Eq.refl (mO a2))))))))))
theorem t_pActs_size {v_count : Int32} {v_count_j : Int} (t_v_count : mI v_count = v_count_j) : tl (mI) (iActs_size v_count_j) (pActs_size v_count) := by
  subst t_v_count
  unfold iActs_size pActs_size
  exact (tl_some (Eq.refl (mI v_count)))
theorem t_pActs_isAct {a1 : Int32} {a1_j : Int} (t_a1 : mI a1 = a1_j) {v_count : Int32} {v_count_j : Int} (t_v_count : mI v_count = v_count_j) : tl (mI) (iActs_isAct a1_j v_count_j) (pActs_isAct a1 v_count) := by
  subst t_a1
  subst t_v_count
  unfold iActs_isAct pActs_isAct
  refine tl_ite (jc_lt (Eq.refl (mI a1)) jlitI_1) ?_ ?_
  · exact (tl_some jlitI_0)
  · refine tl_ite (jc_lt (Eq.refl (mI v_count)) (Eq.refl (mI a1))) ?_ ?_
    · exact (tl_some jlitI_0)
    · exact (tl_some jlitI_1)
theorem t_pActs_isKnown {a1 : Int32} {a1_j : Int} (t_a1 : mI a1 = a1_j) {a2 : Int32} {a2_j : Int} (t_a2 : mI a2 = a2_j) {v_count : Int32} {v_count_j : Int} (t_v_count : mI v_count = v_count_j) {v_kinds : (Nat → Int32)} {v_kinds_j : (Nat → Int)} (t_v_kinds : mA v_kinds = v_kinds_j) {v_voidedBy : (Nat → Int32)} {v_voidedBy_j : (Nat → Int)} (t_v_voidedBy : mA v_voidedBy = v_voidedBy_j) : tl (mI) (iActs_isKnown a1_j a2_j v_count_j v_kinds_j v_voidedBy_j) (pActs_isKnown a1 a2 v_count v_kinds v_voidedBy) := by
  subst t_a1
  subst t_a2
  subst t_v_count
  subst t_v_kinds
  subst t_v_voidedBy
  unfold iActs_isKnown pActs_isKnown
  refine tl_bd1 (t_pActs_isAct (Eq.refl (mI a1)) (Eq.refl (mI v_count))) (fun rc1 => ?_)
  refine tl_ite (jc_eq (Eq.refl (mI rc1)) jlitI_0) ?_ ?_
  · exact (tl_some jlitI_0)
  · refine tl_ite (jc_lt (Eq.refl (mI a2)) (Eq.refl (mI a1))) ?_ ?_
    · exact (tl_some jlitI_0)
    · refine tl_gd (jg_ib (Eq.refl (mI a1))) (fun _ => ?_)
      refine tl_ite (jc_eq (jrd (Eq.refl (mA v_kinds)) (jx (Eq.refl (mI a1)))) jlitI_5) ?_ ?_
      · exact (tl_some jlitI_0)
      · refine tl_ite (jc_eq (jrd (Eq.refl (mA v_voidedBy)) (jx (Eq.refl (mI a1)))) jlitI_0) ?_ ?_
        · exact (tl_some jlitI_1)
        · refine tl_ite (jc_le (jrd (Eq.refl (mA v_voidedBy)) (jx (Eq.refl (mI a1)))) (Eq.refl (mI a2))) ?_ ?_
          · exact (tl_some jlitI_0)
          · exact (tl_some jlitI_1)
theorem t_pActs_isPayment {a1 : Int32} {a1_j : Int} (t_a1 : mI a1 = a1_j) {v_count : Int32} {v_count_j : Int} (t_v_count : mI v_count = v_count_j) {v_kinds : (Nat → Int32)} {v_kinds_j : (Nat → Int)} (t_v_kinds : mA v_kinds = v_kinds_j) : tl (mI) (iActs_isPayment a1_j v_count_j v_kinds_j) (pActs_isPayment a1 v_count v_kinds) := by
  subst t_a1
  subst t_v_count
  subst t_v_kinds
  unfold iActs_isPayment pActs_isPayment
  refine tl_bd1 (t_pActs_isAct (Eq.refl (mI a1)) (Eq.refl (mI v_count))) (fun rc1 => ?_)
  refine tl_ite (jc_eq (Eq.refl (mI rc1)) jlitI_0) ?_ ?_
  · exact (tl_some jlitI_0)
  · refine tl_gd (jg_ib (Eq.refl (mI a1))) (fun _ => ?_)
    refine tl_ite (jc_eq (jrd (Eq.refl (mA v_kinds)) (jx (Eq.refl (mI a1)))) jlitI_2) ?_ ?_
    · exact (tl_some jlitI_1)
    · refine tl_ite (jc_eq (jrd (Eq.refl (mA v_kinds)) (jx (Eq.refl (mI a1)))) jlitI_3) ?_ ?_
      · exact (tl_some jlitI_1)
      · exact (tl_some jlitI_0)
theorem t_pActs_addPayment {a1 : Int32} {a1_j : Int} (t_a1 : mI a1 = a1_j) {a2 : Int32} {a2_j : Int} (t_a2 : mI a2 = a2_j) {a3 : Int32} {a3_j : Int} (t_a3 : mI a3 = a3_j) {a4 : Int32} {a4_j : Int} (t_a4 : mI a4 = a4_j) {v_count : Int32} {v_count_j : Int} (t_v_count : mI v_count = v_count_j) {v_payments : Int32} {v_payments_j : Int} (t_v_payments : mI v_payments = v_payments_j) {v_amounts : (Nat → Int32)} {v_amounts_j : (Nat → Int)} (t_v_amounts : mA v_amounts = v_amounts_j) {v_kinds : (Nat → Int32)} {v_kinds_j : (Nat → Int)} (t_v_kinds : mA v_kinds = v_kinds_j) {v_shires : (Nat → Int32)} {v_shires_j : (Nat → Int)} (t_v_shires : mA v_shires = v_shires_j) {v_terms : (Nat → Int32)} {v_terms_j : (Nat → Int)} (t_v_terms : mA v_terms = v_terms_j) : tl (mP mI (mP mI (mP mI (mP mA (mP mA (mP mA mA)))))) (iActs_addPayment a1_j a2_j a3_j a4_j v_count_j v_payments_j v_amounts_j v_kinds_j v_shires_j v_terms_j) (pActs_addPayment a1 a2 a3 a4 v_count v_payments v_amounts v_kinds v_shires v_terms) := by
  subst t_a1
  subst t_a2
  subst t_a3
  subst t_a4
  subst t_v_count
  subst t_v_payments
  subst t_v_amounts
  subst t_v_kinds
  subst t_v_shires
  subst t_v_terms
  unfold iActs_addPayment pActs_addPayment
  refine tl_ite (jc_le jlitI_60 (Eq.refl (mI v_payments))) ?_ ?_
  · exact (tl_some (jp2 jlitI_m1 (jp2 (Eq.refl (mI v_count)) (jp2 (Eq.refl (mI v_payments)) (jp2 (Eq.refl (mA v_amounts)) (jp2 (Eq.refl (mA v_kinds)) (jp2 (Eq.refl (mA v_shires)) (Eq.refl (mA v_terms)))))))))
  · refine tl_bd1 (t_pActs_isFull (Eq.refl (mI v_count))) (fun rc1 => ?_)
    refine tl_ite (jc_eq (Eq.refl (mI rc1)) jlitI_0) ?_ ?_
    · refine tl_bd6 (t_pActs_add (Eq.refl (mI a1)) (Eq.refl (mI a2)) (Eq.refl (mI a3)) (Eq.refl (mI a4)) (Eq.refl (mI v_count)) (Eq.refl (mA v_amounts)) (Eq.refl (mA v_kinds)) (Eq.refl (mA v_shires)) (Eq.refl (mA v_terms))) (fun rc2 v_count_c2 v_amounts_c2 v_kinds_c2 v_shires_c2 v_terms_c2 => ?_)
      refine tl_g (fun h1 => ?_)
      exact (tl_some (jp2 (Eq.refl (mI rc2)) (jp2 (Eq.refl (mI v_count_c2)) (jp2 (ja_add (Eq.refl (mI v_payments)) jlitI_1 h1) (jp2 (Eq.refl (mA v_amounts_c2)) (jp2 (Eq.refl (mA v_kinds_c2)) (jp2 (Eq.refl (mA v_shires_c2)) (Eq.refl (mA v_terms_c2)))))))))
    · exact (tl_some (jp2 jlitI_m1 (jp2 (Eq.refl (mI v_count)) (jp2 (Eq.refl (mI v_payments)) (jp2 (Eq.refl (mA v_amounts)) (jp2 (Eq.refl (mA v_kinds)) (jp2 (Eq.refl (mA v_shires)) (Eq.refl (mA v_terms)))))))))
theorem t_pActs_addVoid {a1 : Int32} {a1_j : Int} (t_a1 : mI a1 = a1_j) {v_count : Int32} {v_count_j : Int} (t_v_count : mI v_count = v_count_j) {v_amounts : (Nat → Int32)} {v_amounts_j : (Nat → Int)} (t_v_amounts : mA v_amounts = v_amounts_j) {v_kinds : (Nat → Int32)} {v_kinds_j : (Nat → Int)} (t_v_kinds : mA v_kinds = v_kinds_j) {v_shires : (Nat → Int32)} {v_shires_j : (Nat → Int)} (t_v_shires : mA v_shires = v_shires_j) {v_terms : (Nat → Int32)} {v_terms_j : (Nat → Int)} (t_v_terms : mA v_terms = v_terms_j) {v_voidedBy : (Nat → Int32)} {v_voidedBy_j : (Nat → Int)} (t_v_voidedBy : mA v_voidedBy = v_voidedBy_j) : tl (mP mI (mP mI (mP mA (mP mA (mP mA (mP mA mA)))))) (iActs_addVoid a1_j v_count_j v_amounts_j v_kinds_j v_shires_j v_terms_j v_voidedBy_j) (pActs_addVoid a1 v_count v_amounts v_kinds v_shires v_terms v_voidedBy) := by
  subst t_a1
  subst t_v_count
  subst t_v_amounts
  subst t_v_kinds
  subst t_v_shires
  subst t_v_terms
  subst t_v_voidedBy
  unfold iActs_addVoid pActs_addVoid
  refine tl_bd1 (t_pActs_isAct (Eq.refl (mI a1)) (Eq.refl (mI v_count))) (fun rc1 => ?_)
  refine tl_ite (jc_eq (Eq.refl (mI rc1)) jlitI_0) ?_ ?_
  · exact (tl_some (jp2 jlitI_m1 (jp2 (Eq.refl (mI v_count)) (jp2 (Eq.refl (mA v_amounts)) (jp2 (Eq.refl (mA v_kinds)) (jp2 (Eq.refl (mA v_shires)) (jp2 (Eq.refl (mA v_terms)) (Eq.refl (mA v_voidedBy)))))))))
  · refine tl_gd (jg_ib (Eq.refl (mI a1))) (fun _ => ?_)
    refine tl_ite (jc_eq (jrd (Eq.refl (mA v_kinds)) (jx (Eq.refl (mI a1)))) jlitI_5) ?_ ?_
    · exact (tl_some (jp2 jlitI_m1 (jp2 (Eq.refl (mI v_count)) (jp2 (Eq.refl (mA v_amounts)) (jp2 (Eq.refl (mA v_kinds)) (jp2 (Eq.refl (mA v_shires)) (jp2 (Eq.refl (mA v_terms)) (Eq.refl (mA v_voidedBy)))))))))
    · refine tl_ite (jc_eq (jrd (Eq.refl (mA v_voidedBy)) (jx (Eq.refl (mI a1)))) jlitI_0) ?_ ?_
      · refine tl_bd1 (t_pActs_isFull (Eq.refl (mI v_count))) (fun rc3 => ?_)
        refine tl_ite (jc_eq (Eq.refl (mI rc3)) jlitI_0) ?_ ?_
        · refine tl_bd6 (t_pActs_add jlitI_5 (jrd (Eq.refl (mA v_shires)) (jx (Eq.refl (mI a1)))) (jrd (Eq.refl (mA v_terms)) (jx (Eq.refl (mI a1)))) (Eq.refl (mI a1)) (Eq.refl (mI v_count)) (Eq.refl (mA v_amounts)) (Eq.refl (mA v_kinds)) (Eq.refl (mA v_shires)) (Eq.refl (mA v_terms))) (fun rc4 v_count_c4 v_amounts_c4 v_kinds_c4 v_shires_c4 v_terms_c4 => ?_)
          exact (tl_some (jp2 (jrd (jupA (Eq.refl (mA v_voidedBy)) (jx (Eq.refl (mI a1))) (Eq.refl (mI rc4))) (jx (Eq.refl (mI a1)))) (jp2 (Eq.refl (mI v_count_c4)) (jp2 (Eq.refl (mA v_amounts_c4)) (jp2 (Eq.refl (mA v_kinds_c4)) (jp2 (Eq.refl (mA v_shires_c4)) (jp2 (Eq.refl (mA v_terms_c4)) (jupA (Eq.refl (mA v_voidedBy)) (jx (Eq.refl (mI a1))) (Eq.refl (mI rc4))))))))))
        · exact (tl_some (jp2 jlitI_m1 (jp2 (Eq.refl (mI v_count)) (jp2 (Eq.refl (mA v_amounts)) (jp2 (Eq.refl (mA v_kinds)) (jp2 (Eq.refl (mA v_shires)) (jp2 (Eq.refl (mA v_terms)) (Eq.refl (mA v_voidedBy)))))))))
      · exact (tl_some (jp2 jlitI_m1 (jp2 (Eq.refl (mI v_count)) (jp2 (Eq.refl (mA v_amounts)) (jp2 (Eq.refl (mA v_kinds)) (jp2 (Eq.refl (mA v_shires)) (jp2 (Eq.refl (mA v_terms)) (Eq.refl (mA v_voidedBy)))))))))
theorem t_pActs_canTouch {a1 : Int32} {a1_j : Int} (t_a1 : mI a1 = a1_j) {a2 : Int32} {a2_j : Int} (t_a2 : mI a2 = a2_j) {a3 : Int32} {a3_j : Int} (t_a3 : mI a3 = a3_j) {v_count : Int32} {v_count_j : Int} (t_v_count : mI v_count = v_count_j) {v_shires : (Nat → Int32)} {v_shires_j : (Nat → Int)} (t_v_shires : mA v_shires = v_shires_j) {v_terms : (Nat → Int32)} {v_terms_j : (Nat → Int)} (t_v_terms : mA v_terms = v_terms_j) : tl (mI) (iActs_canTouch a1_j a2_j a3_j v_count_j v_shires_j v_terms_j) (pActs_canTouch a1 a2 a3 v_count v_shires v_terms) := by
  subst t_a1
  subst t_a2
  subst t_a3
  subst t_v_count
  subst t_v_shires
  subst t_v_terms
  unfold iActs_canTouch pActs_canTouch
  refine tl_bd1 (t_pActs_isAct (Eq.refl (mI a1)) (Eq.refl (mI v_count))) (fun rc1 => ?_)
  refine tl_ite (jc_eq (Eq.refl (mI rc1)) jlitI_0) ?_ ?_
  · exact (tl_some jlitI_0)
  · refine tl_gd (jg_ib (Eq.refl (mI a1))) (fun _ => ?_)
    refine tl_ite (jc_lt (Eq.refl (mI a3)) (jrd (Eq.refl (mA v_terms)) (jx (Eq.refl (mI a1))))) ?_ ?_
    · exact (tl_some jlitI_0)
    · refine tl_ite (jc_eq (jrd (Eq.refl (mA v_shires)) (jx (Eq.refl (mI a1)))) jlitI_m1) ?_ ?_
      · exact (tl_some jlitI_1)
      · refine tl_ite (jc_eq (jrd (Eq.refl (mA v_shires)) (jx (Eq.refl (mI a1)))) (Eq.refl (mI a2))) ?_ ?_
        · exact (tl_some jlitI_1)
        · exact (tl_some jlitI_0)
theorem t_pJudge_setMoment {a1 : Int32} {a1_j : Int} (t_a1 : mI a1 = a1_j) {a2 : Int32} {a2_j : Int} (t_a2 : mI a2 = a2_j) {a3 : Int64} {a3_j : Int} (t_a3 : mJ a3 = a3_j) {a5 : Int64} {a5_j : Int} (t_a5 : mJ a5 = a5_j) {v_debt : Int64} {v_debt_j : Int} (t_v_debt : mJ v_debt = v_debt_j) {v_paid : Int64} {v_paid_j : Int} (t_v_paid : mJ v_paid = v_paid_j) {v_shire : Int32} {v_shire_j : Int} (t_v_shire : mI v_shire = v_shire_j) {v_term : Int32} {v_term_j : Int} (t_v_term : mI v_term = v_term_j) : tl (mP mJ (mP mJ (mP mI mI))) (iJudge_setMoment a1_j a2_j a3_j a5_j v_debt_j v_paid_j v_shire_j v_term_j) (pJudge_setMoment a1 a2 a3 a5 v_debt v_paid v_shire v_term) := by
  subst t_a1
  subst t_a2
  subst t_a3
  subst t_a5
  subst t_v_debt
  subst t_v_paid
  subst t_v_shire
  subst t_v_term
  unfold iJudge_setMoment pJudge_setMoment
  exact (tl_some (jp2 (jL_min jlitJ_1000000000 (jL_max jlitJ_m1000000000 (Eq.refl (mJ a3)))) (jp2 (jL_min jlitJ_1000000000 (jL_max jlitJ_m1000000000 (Eq.refl (mJ a5)))) (jp2 (Eq.refl (mI a1)) (Eq.refl (mI a2))))))
theorem t_pJudge_present {a1 : Int32} {a1_j : Int} (t_a1 : mI a1 = a1_j) {v_debt : Int64} {v_debt_j : Int} (t_v_debt : mJ v_debt = v_debt_j) {v_paid : Int64} {v_paid_j : Int} (t_v_paid : mJ v_paid = v_paid_j) {v_term : Int32} {v_term_j : Int} (t_v_term : mI v_term = v_term_j) : tl (mJ) (iJudge_present a1_j v_debt_j v_paid_j v_term_j) (pJudge_present a1 v_debt v_paid v_term) := by
  subst t_a1
  subst t_v_debt
  subst t_v_paid
  subst t_v_term
  unfold iJudge_present pJudge_present
  refine tl_ite (jc_eq (Eq.refl (mI a1)) jlitI_m3) ?_ ?_
  · exact (tl_some (Eq.refl (mJ v_debt)))
  · refine tl_ite (jc_eq (Eq.refl (mI a1)) jlitI_m2) ?_ ?_
    · refine tl_g (fun h1 => ?_)
      exact (tl_some (ja_i2l (ja_div (Eq.refl (mI v_term)) jlitI_2 h1)))
    · refine tl_ite (jc_eq (Eq.refl (mI a1)) jlitI_m1) ?_ ?_
      · exact (tl_some (ja_i2l (Eq.refl (mI v_term))))
      · exact (tl_some (Eq.refl (mJ v_paid)))
theorem t_pJudge_together {a0 : Int32} {a0_j : Int} (t_a0 : mI a0 = a0_j) {a1 : Int64} {a1_j : Int} (t_a1 : mJ a1 = a1_j) {a3 : Int64} {a3_j : Int} (t_a3 : mJ a3 = a3_j) : tl (mJ) (iJudge_together a0_j a1_j a3_j) (pJudge_together a0 a1 a3) := by
  subst t_a0
  subst t_a1
  subst t_a3
  unfold iJudge_together pJudge_together
  refine tl_ite (jc_eq (Eq.refl (mI a0)) jlitI_m17) ?_ ?_
  · exact (tl_some (jL_max (Eq.refl (mJ a1)) (Eq.refl (mJ a3))))
  · refine tl_ite (jc_eq (Eq.refl (mI a0)) jlitI_m16) ?_ ?_
    · exact (tl_some (jL_min (Eq.refl (mJ a1)) (Eq.refl (mJ a3))))
    · refine tl_ite (jc_eq (Eq.refl (mI a0)) jlitI_m14) ?_ ?_
      · refine tl_ite (jk_le (Eq.refl (mJ a1)) (Eq.refl (mJ a3))) ?_ ?_
        · exact (tl_some jlitJ_0)
        · exact (tl_some jlitJ_1)
      · refine tl_ite (jc_eq (Eq.refl (mI a0)) jlitI_m13) ?_ ?_
        · refine tl_ite (jk_ge (Eq.refl (mJ a1)) (Eq.refl (mJ a3))) ?_ ?_
          · exact (tl_some jlitJ_0)
          · exact (tl_some jlitJ_1)
        · refine tl_ite (jc_eq (Eq.refl (mI a0)) jlitI_m12) ?_ ?_
          · exact (tl_some (jL_max (Eq.refl (mJ a1)) (Eq.refl (mJ a3))))
          · refine tl_ite (jc_eq (Eq.refl (mI a0)) jlitI_m11) ?_ ?_
            · exact (tl_some (jL_min (Eq.refl (mJ a1)) (Eq.refl (mJ a3))))
            · refine tl_ite (jc_eq (Eq.refl (mI a0)) jlitI_m10) ?_ ?_
              · refine tl_ite (jk_eq (Eq.refl (mJ a3)) jlitJ_0) ?_ ?_
                · exact (tl_some jlitJ_0)
                · refine tl_bd1 (t_pJMath_floorDivL (Eq.refl (mJ a1)) (Eq.refl (mJ a3))) (fun rc1 => ?_)
                  exact (tl_some (Eq.refl (mJ rc1)))
              · refine tl_ite (jc_eq (Eq.refl (mI a0)) jlitI_m9) ?_ ?_
                · refine tl_g (fun h1 => ?_)
                  exact (tl_some (jL_min jlitJ_1000000000 (jL_max jlitJ_m1000000000 (jL_mul (Eq.refl (mJ a1)) (Eq.refl (mJ a3)) h1))))
                · refine tl_ite (jc_eq (Eq.refl (mI a0)) jlitI_m8) ?_ ?_
                  · refine tl_g (fun h2 => ?_)
                    exact (tl_some (jL_min jlitJ_1000000000 (jL_max jlitJ_m1000000000 (jL_sub (Eq.refl (mJ a1)) (Eq.refl (mJ a3)) h2))))
                  · refine tl_ite (jc_eq (Eq.refl (mI a0)) jlitI_m7) ?_ ?_
                    · refine tl_g (fun h3 => ?_)
                      exact (tl_some (jL_min jlitJ_1000000000 (jL_max jlitJ_m1000000000 (jL_add (Eq.refl (mJ a1)) (Eq.refl (mJ a3)) h3))))
                    · refine tl_ite (jk_eq (Eq.refl (mJ a1)) (Eq.refl (mJ a3))) ?_ ?_
                      · exact (tl_some jlitJ_1)
                      · exact (tl_some jlitJ_0)
theorem t_pJudge_valueOf_b127 {N N_j : Nat} (t_N : N = N_j) {a1 : (Option Nat)} {a1_j : (Option Nat)} (t_a1 : mO a1 = a1_j) {a2 : Int32} {a2_j : Int} (t_a2 : mI a2 = a2_j) {a3 : Int32} {a3_j : Int} (t_a3 : mI a3 = a3_j) {v_D : Dyn} {v_D_j : DynI} (t_v_D : mD v_D = v_D_j) {v_debt : Int64} {v_debt_j : Int} (t_v_debt : mJ v_debt = v_debt_j) {v_paid : Int64} {v_paid_j : Int} (t_v_paid : mJ v_paid = v_paid_j) {v_shire : Int32} {v_shire_j : Int} (t_v_shire : mI v_shire = v_shire_j) {v_term : Int32} {v_term_j : Int} (t_v_term : mI v_term = v_term_j) {self : Int32 → Int32 → (Nat → Int64) → Option R_pJudge_valueOf} {self_j : Int → Int → (Nat → Int) → Option R_iJudge_valueOf} (t_self : ∀ (q0_ : Int32) (q1_ : Int32) (q2_ : (Nat → Int64)), tl (mP mJ mL) (self_j (mI q0_) (mI q1_) (mL q2_)) (self q0_ q1_ q2_)) {k176 : Int32 → (Nat → Int64) → Option R_pJudge_valueOf} {k176_j : Int → (Nat → Int) → Option R_iJudge_valueOf} (t_k176 : ∀ (q0_ : Int32) (q1_ : (Nat → Int64)), tl (mP mJ mL) (k176_j (mI q0_) (mL q1_)) (k176 q0_ q1_)) {x4 : Int32} {x4_j : Int} (t_x4 : mI x4 = x4_j) {x5 : Int32} {x5_j : Int} (t_x5 : mI x5 = x5_j) {s1 : Int32} {s1_j : Int} (t_s1 : mI s1 = s1_j) {s2 : Int64} {s2_j : Int} (t_s2 : mJ s2 = s2_j) {v_stack : (Nat → Int64)} {v_stack_j : (Nat → Int)} (t_v_stack : mL v_stack = v_stack_j) : tl (mP mJ mL) (iJudge_valueOf_b127 N_j a1_j a2_j a3_j v_D_j v_debt_j v_paid_j v_shire_j v_term_j self_j k176_j x4_j x5_j s1_j s2_j v_stack_j) (pJudge_valueOf_b127 N a1 a2 a3 v_D v_debt v_paid v_shire v_term self k176 x4 x5 s1 s2 v_stack) := by
  subst t_N
  subst t_a1
  subst t_a2
  subst t_a3
  subst t_v_D
  subst t_v_debt
  subst t_v_paid
  subst t_v_shire
  subst t_v_term
  subst t_x4
  subst t_x5
  subst t_s1
  subst t_s2
  subst t_v_stack
  unfold iJudge_valueOf_b127 pJudge_valueOf_b127
  refine tl_gd (jg_ib (Eq.refl (mI s1))) (fun _ => ?_)
  refine tl_g (fun h1 => ?_)
  exact (tl_e3 (Eq.refl (mI x4)) (ja_add (Eq.refl (mI x5)) jlitI_1 h1) (jupL (Eq.refl (mL v_stack)) (jx (Eq.refl (mI s1))) (Eq.refl (mJ s2))) (t_self _ _ _))
theorem t_pJudge_valueOf_b117 {N N_j : Nat} (t_N : N = N_j) {a1 : (Option Nat)} {a1_j : (Option Nat)} (t_a1 : mO a1 = a1_j) {a2 : Int32} {a2_j : Int} (t_a2 : mI a2 = a2_j) {a3 : Int32} {a3_j : Int} (t_a3 : mI a3 = a3_j) {v_D : Dyn} {v_D_j : DynI} (t_v_D : mD v_D = v_D_j) {v_debt : Int64} {v_debt_j : Int} (t_v_debt : mJ v_debt = v_debt_j) {v_paid : Int64} {v_paid_j : Int} (t_v_paid : mJ v_paid = v_paid_j) {v_shire : Int32} {v_shire_j : Int} (t_v_shire : mI v_shire = v_shire_j) {v_term : Int32} {v_term_j : Int} (t_v_term : mI v_term = v_term_j) {self : Int32 → Int32 → (Nat → Int64) → Option R_pJudge_valueOf} {self_j : Int → Int → (Nat → Int) → Option R_iJudge_valueOf} (t_self : ∀ (q0_ : Int32) (q1_ : Int32) (q2_ : (Nat → Int64)), tl (mP mJ mL) (self_j (mI q0_) (mI q1_) (mL q2_)) (self q0_ q1_ q2_)) {k176 : Int32 → (Nat → Int64) → Option R_pJudge_valueOf} {k176_j : Int → (Nat → Int) → Option R_iJudge_valueOf} (t_k176 : ∀ (q0_ : Int32) (q1_ : (Nat → Int64)), tl (mP mJ mL) (k176_j (mI q0_) (mL q1_)) (k176 q0_ q1_)) {x4 : Int32} {x4_j : Int} (t_x4 : mI x4 = x4_j) {x5 : Int32} {x5_j : Int} (t_x5 : mI x5 = x5_j) {s1 : Int32} {s1_j : Int} (t_s1 : mI s1 = s1_j) {s2 : Int64} {s2_j : Int} (t_s2 : mJ s2 = s2_j) {s3 : Int32} {s3_j : Int} (t_s3 : mI s3 = s3_j) {v_stack : (Nat → Int64)} {v_stack_j : (Nat → Int)} (t_v_stack : mL v_stack = v_stack_j) : tl (mP mJ mL) (iJudge_valueOf_b117 N_j a1_j a2_j a3_j v_D_j v_debt_j v_paid_j v_shire_j v_term_j self_j k176_j x4_j x5_j s1_j s2_j s3_j v_stack_j) (pJudge_valueOf_b117 N a1 a2 a3 v_D v_debt v_paid v_shire v_term self k176 x4 x5 s1 s2 s3 v_stack) := by
  subst t_N
  subst t_a1
  subst t_a2
  subst t_a3
  subst t_v_D
  subst t_v_debt
  subst t_v_paid
  subst t_v_shire
  subst t_v_term
  subst t_x4
  subst t_x5
  subst t_s1
  subst t_s2
  subst t_s3
  subst t_v_stack
  unfold iJudge_valueOf_b117 pJudge_valueOf_b117
  refine tl_ite (jk_eq (Eq.refl (mJ s2)) (ja_i2l (Eq.refl (mI s3)))) ?_ ?_
  · exact (t_pJudge_valueOf_b127 (Eq.refl N) (Eq.refl (mO a1)) (Eq.refl (mI a2)) (Eq.refl (mI a3)) (Eq.refl (mD v_D)) (Eq.refl (mJ v_debt)) (Eq.refl (mJ v_paid)) (Eq.refl (mI v_shire)) (Eq.refl (mI v_term)) t_self t_k176 (Eq.refl (mI x4)) (Eq.refl (mI x5)) (Eq.refl (mI s1)) jlitJ_1 (Eq.refl (mL v_stack)))
  · exact (t_pJudge_valueOf_b127 (Eq.refl N) (Eq.refl (mO a1)) (Eq.refl (mI a2)) (Eq.refl (mI a3)) (Eq.refl (mD v_D)) (Eq.refl (mJ v_debt)) (Eq.refl (mJ v_paid)) (Eq.refl (mI v_shire)) (Eq.refl (mI v_term)) t_self t_k176 (Eq.refl (mI x4)) (Eq.refl (mI x5)) (Eq.refl (mI s1)) jlitJ_0 (Eq.refl (mL v_stack)))
theorem t_pJudge_valueOf_b66 {N N_j : Nat} (t_N : N = N_j) {a1 : (Option Nat)} {a1_j : (Option Nat)} (t_a1 : mO a1 = a1_j) {a2 : Int32} {a2_j : Int} (t_a2 : mI a2 = a2_j) {a3 : Int32} {a3_j : Int} (t_a3 : mI a3 = a3_j) {v_D : Dyn} {v_D_j : DynI} (t_v_D : mD v_D = v_D_j) {v_debt : Int64} {v_debt_j : Int} (t_v_debt : mJ v_debt = v_debt_j) {v_paid : Int64} {v_paid_j : Int} (t_v_paid : mJ v_paid = v_paid_j) {v_shire : Int32} {v_shire_j : Int} (t_v_shire : mI v_shire = v_shire_j) {v_term : Int32} {v_term_j : Int} (t_v_term : mI v_term = v_term_j) {self : Int32 → Int32 → (Nat → Int64) → Option R_pJudge_valueOf} {self_j : Int → Int → (Nat → Int) → Option R_iJudge_valueOf} (t_self : ∀ (q0_ : Int32) (q1_ : Int32) (q2_ : (Nat → Int64)), tl (mP mJ mL) (self_j (mI q0_) (mI q1_) (mL q2_)) (self q0_ q1_ q2_)) {k176 : Int32 → (Nat → Int64) → Option R_pJudge_valueOf} {k176_j : Int → (Nat → Int) → Option R_iJudge_valueOf} (t_k176 : ∀ (q0_ : Int32) (q1_ : (Nat → Int64)), tl (mP mJ mL) (k176_j (mI q0_) (mL q1_)) (k176 q0_ q1_)) {x4 : Int32} {x4_j : Int} (t_x4 : mI x4 = x4_j) {x5 : Int32} {x5_j : Int} (t_x5 : mI x5 = x5_j) {s1 : Int32} {s1_j : Int} (t_s1 : mI s1 = s1_j) {s2 : Int64} {s2_j : Int} (t_s2 : mJ s2 = s2_j) {v_stack : (Nat → Int64)} {v_stack_j : (Nat → Int)} (t_v_stack : mL v_stack = v_stack_j) : tl (mP mJ mL) (iJudge_valueOf_b66 N_j a1_j a2_j a3_j v_D_j v_debt_j v_paid_j v_shire_j v_term_j self_j k176_j x4_j x5_j s1_j s2_j v_stack_j) (pJudge_valueOf_b66 N a1 a2 a3 v_D v_debt v_paid v_shire v_term self k176 x4 x5 s1 s2 v_stack) := by
  subst t_N
  subst t_a1
  subst t_a2
  subst t_a3
  subst t_v_D
  subst t_v_debt
  subst t_v_paid
  subst t_v_shire
  subst t_v_term
  subst t_x4
  subst t_x5
  subst t_s1
  subst t_s2
  subst t_v_stack
  unfold iJudge_valueOf_b66 pJudge_valueOf_b66
  refine tl_gd (jg_ib (Eq.refl (mI s1))) (fun _ => ?_)
  refine tl_g (fun h1 => ?_)
  refine tl_g (fun h2 => ?_)
  exact (tl_e3 (ja_add (Eq.refl (mI x4)) jlitI_1 h1) (ja_add (Eq.refl (mI x5)) jlitI_1 h2) (jupL (Eq.refl (mL v_stack)) (jx (Eq.refl (mI s1))) (Eq.refl (mJ s2))) (t_self _ _ _))
theorem t_pJudge_valueOf_b10_F {N N_j : Nat} (t_N : N = N_j) {a1 : (Option Nat)} {a1_j : (Option Nat)} (t_a1 : mO a1 = a1_j) {a2 : Int32} {a2_j : Int} (t_a2 : mI a2 = a2_j) {a3 : Int32} {a3_j : Int} (t_a3 : mI a3 = a3_j) {v_D : Dyn} {v_D_j : DynI} (t_v_D : mD v_D = v_D_j) {v_debt : Int64} {v_debt_j : Int} (t_v_debt : mJ v_debt = v_debt_j) {v_paid : Int64} {v_paid_j : Int} (t_v_paid : mJ v_paid = v_paid_j) {v_shire : Int32} {v_shire_j : Int} (t_v_shire : mI v_shire = v_shire_j) {v_term : Int32} {v_term_j : Int} (t_v_term : mI v_term = v_term_j) {k176 : Int32 → (Nat → Int64) → Option R_pJudge_valueOf} {k176_j : Int → (Nat → Int) → Option R_iJudge_valueOf} (t_k176 : ∀ (q0_ : Int32) (q1_ : (Nat → Int64)), tl (mP mJ mL) (k176_j (mI q0_) (mL q1_)) (k176 q0_ q1_)) {self : Int32 → Int32 → (Nat → Int64) → Option R_pJudge_valueOf} {self_j : Int → Int → (Nat → Int) → Option R_iJudge_valueOf} (t_self : ∀ (q0_ : Int32) (q1_ : Int32) (q2_ : (Nat → Int64)), tl (mP mJ mL) (self_j (mI q0_) (mI q1_) (mL q2_)) (self q0_ q1_ q2_)) {x4 : Int32} {x4_j : Int} (t_x4 : mI x4 = x4_j) {x5 : Int32} {x5_j : Int} (t_x5 : mI x5 = x5_j) {v_stack : (Nat → Int64)} {v_stack_j : (Nat → Int)} (t_v_stack : mL v_stack = v_stack_j) : tl (mP mJ mL) (iJudge_valueOf_b10_F N_j a1_j a2_j a3_j v_D_j v_debt_j v_paid_j v_shire_j v_term_j k176_j self_j x4_j x5_j v_stack_j) (pJudge_valueOf_b10_F N a1 a2 a3 v_D v_debt v_paid v_shire v_term k176 self x4 x5 v_stack) := by
  subst t_N
  subst t_a1
  subst t_a2
  subst t_a3
  subst t_v_D
  subst t_v_debt
  subst t_v_paid
  subst t_v_shire
  subst t_v_term
  subst t_x4
  subst t_x5
  subst t_v_stack
  unfold iJudge_valueOf_b10_F pJudge_valueOf_b10_F
  refine tl_ite (jc_le (Eq.refl (mI a3)) (Eq.refl (mI x5))) ?_ ?_
  · exact (tl_e2 (Eq.refl (mI x4)) (Eq.refl (mL v_stack)) (t_k176 _ _))
  · refine tl_bd1 tl_rfl (fun y1 => ?_)
    refine tl_bd1 (jt_Len (Eq.refl (mD v_D))) (fun n2 => ?_)
    refine tl_g (fun h1 => ?_)
    refine tl_ite (jc_le (ja_of h1) (Eq.refl (mI x5))) ?_ ?_
    · exact (tl_e2 (Eq.refl (mI x4)) (Eq.refl (mL v_stack)) (t_k176 _ _))
    · refine tl_bd1 (jt_AI (Eq.refl (mD v_D)) (Eq.refl (mI x5))) (fun d3 => ?_)
      refine tl_ite (jc_lt (Eq.refl (mI d3)) jlitI_m4) ?_ ?_
      · refine tl_ite (jc_lt (Eq.refl (mI d3)) jlitI_m6) ?_ ?_
        · refine tl_ite (jc_le (Eq.refl (mI x4)) jlitI_1) ?_ ?_
          · refine tl_g (fun h2 => ?_)
            exact (tl_e3 (Eq.refl (mI x4)) (ja_add (Eq.refl (mI x5)) jlitI_1 h2) (Eq.refl (mL v_stack)) (t_self _ _ _))
          · refine tl_g (fun h3 => ?_)
            refine tl_g (fun h4 => ?_)
            refine tl_gd (jg_ib (ja_sub (ja_add (Eq.refl (mI x4)) jlitI_m1 h3) jlitI_1 h4)) (fun _ => ?_)
            refine tl_gd (jg_ib (ja_add (Eq.refl (mI x4)) jlitI_m1 h3)) (fun _ => ?_)
            refine tl_bd1 (t_pJudge_together (Eq.refl (mI d3)) (jrdL (Eq.refl (mL v_stack)) (jx (ja_sub (ja_add (Eq.refl (mI x4)) jlitI_m1 h3) jlitI_1 h4))) (jrdL (Eq.refl (mL v_stack)) (jx (ja_add (Eq.refl (mI x4)) jlitI_m1 h3)))) (fun rc6 => ?_)
            refine tl_g (fun h5 => ?_)
            exact (tl_e3 (ja_add (Eq.refl (mI x4)) jlitI_m1 h3) (ja_add (Eq.refl (mI x5)) jlitI_1 h5) (jupL (Eq.refl (mL v_stack)) (jx (ja_sub (ja_add (Eq.refl (mI x4)) jlitI_m1 h3) jlitI_1 h4)) (Eq.refl (mJ rc6))) (t_self _ _ _))
        · refine tl_ite (jc_le (Eq.refl (mI x4)) jlitI_0) ?_ ?_
          · refine tl_g (fun h6 => ?_)
            exact (tl_e3 (Eq.refl (mI x4)) (ja_add (Eq.refl (mI x5)) jlitI_1 h6) (Eq.refl (mL v_stack)) (t_self _ _ _))
          · refine tl_g (fun h7 => ?_)
            refine tl_gd (jg_ib (ja_sub (Eq.refl (mI x4)) jlitI_1 h7)) (fun _ => ?_)
            refine tl_ite (jc_eq (Eq.refl (mI d3)) jlitI_m6) ?_ ?_
            · exact (t_pJudge_valueOf_b117 (Eq.refl N) (Eq.refl (mO a1)) (Eq.refl (mI a2)) (Eq.refl (mI a3)) (Eq.refl (mD v_D)) (Eq.refl (mJ v_debt)) (Eq.refl (mJ v_paid)) (Eq.refl (mI v_shire)) (Eq.refl (mI v_term)) t_self t_k176 (Eq.refl (mI x4)) (Eq.refl (mI x5)) (ja_sub (Eq.refl (mI x4)) jlitI_1 h7) (jrdL (Eq.refl (mL v_stack)) (jx (ja_sub (Eq.refl (mI x4)) jlitI_1 h7))) (Eq.refl (mI v_shire)) (Eq.refl (mL v_stack)))
            · exact (t_pJudge_valueOf_b117 (Eq.refl N) (Eq.refl (mO a1)) (Eq.refl (mI a2)) (Eq.refl (mI a3)) (Eq.refl (mD v_D)) (Eq.refl (mJ v_debt)) (Eq.refl (mJ v_paid)) (Eq.refl (mI v_shire)) (Eq.refl (mI v_term)) t_self t_k176 (Eq.refl (mI x4)) (Eq.refl (mI x5)) (ja_sub (Eq.refl (mI x4)) jlitI_1 h7) (jrdL (Eq.refl (mL v_stack)) (jx (ja_sub (Eq.refl (mI x4)) jlitI_1 h7))) jlitI_0 (Eq.refl (mL v_stack)))
      · refine tl_ite (jc_le jlitI_64 (Eq.refl (mI x4))) ?_ ?_
        · refine tl_g (fun h8 => ?_)
          exact (tl_e3 (Eq.refl (mI x4)) (ja_add (Eq.refl (mI x5)) jlitI_1 h8) (Eq.refl (mL v_stack)) (t_self _ _ _))
        · refine tl_ite (jc_lt (Eq.refl (mI d3)) jlitI_0) ?_ ?_
          · refine tl_bd1 (t_pJudge_present (Eq.refl (mI d3)) (Eq.refl (mJ v_debt)) (Eq.refl (mJ v_paid)) (Eq.refl (mI v_term))) (fun rc8 => ?_)
            exact (t_pJudge_valueOf_b66 (Eq.refl N) (Eq.refl (mO a1)) (Eq.refl (mI a2)) (Eq.refl (mI a3)) (Eq.refl (mD v_D)) (Eq.refl (mJ v_debt)) (Eq.refl (mJ v_paid)) (Eq.refl (mI v_shire)) (Eq.refl (mI v_term)) t_self t_k176 (Eq.refl (mI x4)) (Eq.refl (mI x5)) (Eq.refl (mI x4)) (Eq.refl (mJ rc8)) (Eq.refl (mL v_stack)))
          · exact (t_pJudge_valueOf_b66 (Eq.refl N) (Eq.refl (mO a1)) (Eq.refl (mI a2)) (Eq.refl (mI a3)) (Eq.refl (mD v_D)) (Eq.refl (mJ v_debt)) (Eq.refl (mJ v_paid)) (Eq.refl (mI v_shire)) (Eq.refl (mI v_term)) t_self t_k176 (Eq.refl (mI x4)) (Eq.refl (mI x5)) (Eq.refl (mI x4)) (ja_i2l (Eq.refl (mI d3))) (Eq.refl (mL v_stack)))
theorem t_pJudge_valueOf_b10 {N N_j : Nat} (t_N : N = N_j) {a1 : (Option Nat)} {a1_j : (Option Nat)} (t_a1 : mO a1 = a1_j) {a2 : Int32} {a2_j : Int} (t_a2 : mI a2 = a2_j) {a3 : Int32} {a3_j : Int} (t_a3 : mI a3 = a3_j) {v_D : Dyn} {v_D_j : DynI} (t_v_D : mD v_D = v_D_j) {v_debt : Int64} {v_debt_j : Int} (t_v_debt : mJ v_debt = v_debt_j) {v_paid : Int64} {v_paid_j : Int} (t_v_paid : mJ v_paid = v_paid_j) {v_shire : Int32} {v_shire_j : Int} (t_v_shire : mI v_shire = v_shire_j) {v_term : Int32} {v_term_j : Int} (t_v_term : mI v_term = v_term_j) {k176 : Int32 → (Nat → Int64) → Option R_pJudge_valueOf} {k176_j : Int → (Nat → Int) → Option R_iJudge_valueOf} (t_k176 : ∀ (q0_ : Int32) (q1_ : (Nat → Int64)), tl (mP mJ mL) (k176_j (mI q0_) (mL q1_)) (k176 q0_ q1_)) {n n_j : Nat} (t_n : n = n_j) {w0_ : Int32} {w0__j : Int} (t_w0_ : mI w0_ = w0__j) {w1_ : Int32} {w1__j : Int} (t_w1_ : mI w1_ = w1__j) {w2_ : (Nat → Int64)} {w2__j : (Nat → Int)} (t_w2_ : mL w2_ = w2__j) : tl (mP mJ mL) (iJudge_valueOf_b10 N_j a1_j a2_j a3_j v_D_j v_debt_j v_paid_j v_shire_j v_term_j k176_j n_j w0__j w1__j w2__j) (pJudge_valueOf_b10 N a1 a2 a3 v_D v_debt v_paid v_shire v_term k176 n w0_ w1_ w2_) := by
  subst t_N
  subst t_a1
  subst t_a2
  subst t_a3
  subst t_v_D
  subst t_v_debt
  subst t_v_paid
  subst t_v_shire
  subst t_v_term
  subst t_n
  subst t_w0_
  subst t_w1_
  subst t_w2_
  exact tl_zlp3 (fun s2 s hs w0_ w1_ w2_ => t_pJudge_valueOf_b10_F (Eq.refl N) (Eq.refl (mO a1)) (Eq.refl (mI a2)) (Eq.refl (mI a3)) (Eq.refl (mD v_D)) (Eq.refl (mJ v_debt)) (Eq.refl (mJ v_paid)) (Eq.refl (mI v_shire)) (Eq.refl (mI v_term)) t_k176 hs (Eq.refl (mI w0_)) (Eq.refl (mI w1_)) (Eq.refl (mL w2_))) n w0_ w1_ w2_
theorem t_pJudge_valueOf_b176 {N N_j : Nat} (t_N : N = N_j) {a1 : (Option Nat)} {a1_j : (Option Nat)} (t_a1 : mO a1 = a1_j) {a2 : Int32} {a2_j : Int} (t_a2 : mI a2 = a2_j) {a3 : Int32} {a3_j : Int} (t_a3 : mI a3 = a3_j) {v_D : Dyn} {v_D_j : DynI} (t_v_D : mD v_D = v_D_j) {v_debt : Int64} {v_debt_j : Int} (t_v_debt : mJ v_debt = v_debt_j) {v_paid : Int64} {v_paid_j : Int} (t_v_paid : mJ v_paid = v_paid_j) {v_shire : Int32} {v_shire_j : Int} (t_v_shire : mI v_shire = v_shire_j) {v_term : Int32} {v_term_j : Int} (t_v_term : mI v_term = v_term_j) {x4 : Int32} {x4_j : Int} (t_x4 : mI x4 = x4_j) {v_stack : (Nat → Int64)} {v_stack_j : (Nat → Int)} (t_v_stack : mL v_stack = v_stack_j) : tl (mP mJ mL) (iJudge_valueOf_b176 N_j a1_j a2_j a3_j v_D_j v_debt_j v_paid_j v_shire_j v_term_j x4_j v_stack_j) (pJudge_valueOf_b176 N a1 a2 a3 v_D v_debt v_paid v_shire v_term x4 v_stack) := by
  subst t_N
  subst t_a1
  subst t_a2
  subst t_a3
  subst t_v_D
  subst t_v_debt
  subst t_v_paid
  subst t_v_shire
  subst t_v_term
  subst t_x4
  subst t_v_stack
  unfold iJudge_valueOf_b176 pJudge_valueOf_b176
  refine tl_ite (jc_le (Eq.refl (mI x4)) jlitI_0) ?_ ?_
  · exact (tl_some (jp2 jlitJ_0 (Eq.refl (mL v_stack))))
  · exact (tl_some (jp2 (jrdL (Eq.refl (mL v_stack)) (jx jlitI_0)) (Eq.refl (mL v_stack))))
theorem t_pJudge_valueOf {N N_j : Nat} (t_N : N = N_j) {a1 : (Option Nat)} {a1_j : (Option Nat)} (t_a1 : mO a1 = a1_j) {a2 : Int32} {a2_j : Int} (t_a2 : mI a2 = a2_j) {a3 : Int32} {a3_j : Int} (t_a3 : mI a3 = a3_j) {v_D : Dyn} {v_D_j : DynI} (t_v_D : mD v_D = v_D_j) {v_debt : Int64} {v_debt_j : Int} (t_v_debt : mJ v_debt = v_debt_j) {v_paid : Int64} {v_paid_j : Int} (t_v_paid : mJ v_paid = v_paid_j) {v_shire : Int32} {v_shire_j : Int} (t_v_shire : mI v_shire = v_shire_j) {v_term : Int32} {v_term_j : Int} (t_v_term : mI v_term = v_term_j) {v_stack : (Nat → Int64)} {v_stack_j : (Nat → Int)} (t_v_stack : mL v_stack = v_stack_j) : tl (mP mJ mL) (iJudge_valueOf N_j a1_j a2_j a3_j v_D_j v_debt_j v_paid_j v_shire_j v_term_j v_stack_j) (pJudge_valueOf N a1 a2 a3 v_D v_debt v_paid v_shire v_term v_stack) := by
  subst t_N
  subst t_a1
  subst t_a2
  subst t_a3
  subst t_v_D
  subst t_v_debt
  subst t_v_paid
  subst t_v_shire
  subst t_v_term
  subst t_v_stack
  unfold iJudge_valueOf pJudge_valueOf
  exact (t_pJudge_valueOf_b10 (Eq.refl N) (Eq.refl (mO a1)) (Eq.refl (mI a2)) (Eq.refl (mI a3)) (Eq.refl (mD v_D)) (Eq.refl (mJ v_debt)) (Eq.refl (mJ v_paid)) (Eq.refl (mI v_shire)) (Eq.refl (mI v_term)) (fun e9_ e10_ => by exact (t_pJudge_valueOf_b176 (Eq.refl N) (Eq.refl (mO a1)) (Eq.refl (mI a2)) (Eq.refl (mI a3)) (Eq.refl (mD v_D)) (Eq.refl (mJ v_debt)) (Eq.refl (mJ v_paid)) (Eq.refl (mI v_shire)) (Eq.refl (mI v_term)) (Eq.refl (mI e9_)) (Eq.refl (mL e10_)))) (Eq.refl N) jlitI_0 (ja_max (Eq.refl (mI a2)) jlitI_0) (Eq.refl (mL v_stack)))
theorem t_pKnown_addPayment {a1 : Int32} {a1_j : Int} (t_a1 : mI a1 = a1_j) {a2 : Int32} {a2_j : Int} (t_a2 : mI a2 = a2_j) {v_acts_count : Int32} {v_acts_count_j : Int} (t_v_acts_count : mI v_acts_count = v_acts_count_j) {v_acts_kinds : (Nat → Int32)} {v_acts_kinds_j : (Nat → Int)} (t_v_acts_kinds : mA v_acts_kinds = v_acts_kinds_j) {v_firstPayments : (Nat → Int32)} {v_firstPayments_j : (Nat → Int)} (t_v_firstPayments : mA v_firstPayments = v_firstPayments_j) {v_nextPayments : (Nat → Int32)} {v_nextPayments_j : (Nat → Int)} (t_v_nextPayments : mA v_nextPayments = v_nextPayments_j) : tl (mP mA mA) (iKnown_addPayment a1_j a2_j v_acts_count_j v_acts_kinds_j v_firstPayments_j v_nextPayments_j) (pKnown_addPayment a1 a2 v_acts_count v_acts_kinds v_firstPayments v_nextPayments) := by
  subst t_a1
  subst t_a2
  subst t_v_acts_count
  subst t_v_acts_kinds
  subst t_v_firstPayments
  subst t_v_nextPayments
  unfold iKnown_addPayment pKnown_addPayment
  refine tl_bd1 (t_pActs_isPayment (Eq.refl (mI a1)) (Eq.refl (mI v_acts_count)) (Eq.refl (mA v_acts_kinds))) (fun rc1 => ?_)
  refine tl_ite (jc_eq (Eq.refl (mI rc1)) jlitI_0) ?_ ?_
  · exact (tl_some (jp2 (Eq.refl (mA v_firstPayments)) (Eq.refl (mA v_nextPayments))))
  · refine tl_bd1 (t_pK_isTerm (Eq.refl (mI a2))) (fun rc2 => ?_)
    refine tl_ite (jc_eq (Eq.refl (mI rc2)) jlitI_0) ?_ ?_
    · exact (tl_some (jp2 (Eq.refl (mA v_firstPayments)) (Eq.refl (mA v_nextPayments))))
    · refine tl_gd (jg_ib (Eq.refl (mI a2))) (fun _ => ?_)
      refine tl_gd (jg_ib (Eq.refl (mI a1))) (fun _ => ?_)
      exact (tl_some (jp2 (jupA (Eq.refl (mA v_firstPayments)) (jx (Eq.refl (mI a2))) (Eq.refl (mI a1))) (jupA (Eq.refl (mA v_nextPayments)) (jx (Eq.refl (mI a1))) (jrd (Eq.refl (mA v_firstPayments)) (jx (Eq.refl (mI a2)))))))
theorem t_pKnown_note {a1 : Int32} {a1_j : Int} (t_a1 : mI a1 = a1_j) {a2 : Int32} {a2_j : Int} (t_a2 : mI a2 = a2_j) {v_acts_count : Int32} {v_acts_count_j : Int} (t_v_acts_count : mI v_acts_count = v_acts_count_j) {v_acts_kinds : (Nat → Int32)} {v_acts_kinds_j : (Nat → Int)} (t_v_acts_kinds : mA v_acts_kinds = v_acts_kinds_j) {v_fires : (Nat → Int32)} {v_fires_j : (Nat → Int)} (t_v_fires : mA v_fires = v_fires_j) {v_firstPayments : (Nat → Int32)} {v_firstPayments_j : (Nat → Int)} (t_v_firstPayments : mA v_firstPayments = v_firstPayments_j) {v_nextPayments : (Nat → Int32)} {v_nextPayments_j : (Nat → Int)} (t_v_nextPayments : mA v_nextPayments = v_nextPayments_j) {v_writs : (Nat → Int32)} {v_writs_j : (Nat → Int)} (t_v_writs : mA v_writs = v_writs_j) : tl (mP mA (mP mA (mP mA mA))) (iKnown_note a1_j a2_j v_acts_count_j v_acts_kinds_j v_fires_j v_firstPayments_j v_nextPayments_j v_writs_j) (pKnown_note a1 a2 v_acts_count v_acts_kinds v_fires v_firstPayments v_nextPayments v_writs) := by
  subst t_a1
  subst t_a2
  subst t_v_acts_count
  subst t_v_acts_kinds
  subst t_v_fires
  subst t_v_firstPayments
  subst t_v_nextPayments
  subst t_v_writs
  unfold iKnown_note pKnown_note
  refine tl_bd1 (t_pK_isTerm (Eq.refl (mI a2))) (fun rc1 => ?_)
  refine tl_ite (jc_eq (Eq.refl (mI rc1)) jlitI_0) ?_ ?_
  · exact (tl_some (jp2 (Eq.refl (mA v_fires)) (jp2 (Eq.refl (mA v_firstPayments)) (jp2 (Eq.refl (mA v_nextPayments)) (Eq.refl (mA v_writs))))))
  · refine tl_gd (jg_ib (Eq.refl (mI a1))) (fun _ => ?_)
    refine tl_ite (jc_eq (jrd (Eq.refl (mA v_acts_kinds)) (jx (Eq.refl (mI a1)))) jlitI_1) ?_ ?_
    · refine tl_gd (jg_ib (Eq.refl (mI a2))) (fun _ => ?_)
      exact (tl_some (jp2 (Eq.refl (mA v_fires)) (jp2 (Eq.refl (mA v_firstPayments)) (jp2 (Eq.refl (mA v_nextPayments)) (jupA (Eq.refl (mA v_writs)) (jx (Eq.refl (mI a2))) (ja_max (jrd (Eq.refl (mA v_writs)) (jx (Eq.refl (mI a2)))) (Eq.refl (mI a1))))))))
    · refine tl_ite (jc_eq (jrd (Eq.refl (mA v_acts_kinds)) (jx (Eq.refl (mI a1)))) jlitI_4) ?_ ?_
      · refine tl_gd (jg_ib (Eq.refl (mI a2))) (fun _ => ?_)
        exact (tl_some (jp2 (jupA (Eq.refl (mA v_fires)) (jx (Eq.refl (mI a2))) (ja_max (jrd (Eq.refl (mA v_fires)) (jx (Eq.refl (mI a2)))) (Eq.refl (mI a1)))) (jp2 (Eq.refl (mA v_firstPayments)) (jp2 (Eq.refl (mA v_nextPayments)) (Eq.refl (mA v_writs))))))
      · refine tl_bd2 (t_pKnown_addPayment (Eq.refl (mI a1)) (Eq.refl (mI a2)) (Eq.refl (mI v_acts_count)) (Eq.refl (mA v_acts_kinds)) (Eq.refl (mA v_firstPayments)) (Eq.refl (mA v_nextPayments))) (fun v_firstPayments_c3 v_nextPayments_c3 => ?_)
        exact (tl_some (jp2 (Eq.refl (mA v_fires)) (jp2 (Eq.refl (mA v_firstPayments_c3)) (jp2 (Eq.refl (mA v_nextPayments_c3)) (Eq.refl (mA v_writs))))))
theorem t_pKnown_setAt_b36_F {N N_j : Nat} (t_N : N = N_j) {a1 : Int32} {a1_j : Int} (t_a1 : mI a1 = a1_j) {a2 : Int32} {a2_j : Int} (t_a2 : mI a2 = a2_j) {v_acts_count : Int32} {v_acts_count_j : Int} (t_v_acts_count : mI v_acts_count = v_acts_count_j) {v_acts_kinds : (Nat → Int32)} {v_acts_kinds_j : (Nat → Int)} (t_v_acts_kinds : mA v_acts_kinds = v_acts_kinds_j) {v_acts_terms : (Nat → Int32)} {v_acts_terms_j : (Nat → Int)} (t_v_acts_terms : mA v_acts_terms = v_acts_terms_j) {v_acts_voidedBy : (Nat → Int32)} {v_acts_voidedBy_j : (Nat → Int)} (t_v_acts_voidedBy : mA v_acts_voidedBy = v_acts_voidedBy_j) {k78 : (Nat → Int32) → (Nat → Int32) → (Nat → Int32) → (Nat → Int32) → Option R_pKnown_setAt} {k78_j : (Nat → Int) → (Nat → Int) → (Nat → Int) → (Nat → Int) → Option R_iKnown_setAt} (t_k78 : ∀ (q0_ : (Nat → Int32)) (q1_ : (Nat → Int32)) (q2_ : (Nat → Int32)) (q3_ : (Nat → Int32)), tl (mP mA (mP mA (mP mA mA))) (k78_j (mA q0_) (mA q1_) (mA q2_) (mA q3_)) (k78 q0_ q1_ q2_ q3_)) {self : Int32 → (Nat → Int32) → (Nat → Int32) → (Nat → Int32) → (Nat → Int32) → Option R_pKnown_setAt} {self_j : Int → (Nat → Int) → (Nat → Int) → (Nat → Int) → (Nat → Int) → Option R_iKnown_setAt} (t_self : ∀ (q0_ : Int32) (q1_ : (Nat → Int32)) (q2_ : (Nat → Int32)) (q3_ : (Nat → Int32)) (q4_ : (Nat → Int32)), tl (mP mA (mP mA (mP mA mA))) (self_j (mI q0_) (mA q1_) (mA q2_) (mA q3_) (mA q4_)) (self q0_ q1_ q2_ q3_ q4_)) {x3 : Int32} {x3_j : Int} (t_x3 : mI x3 = x3_j) {v_fires : (Nat → Int32)} {v_fires_j : (Nat → Int)} (t_v_fires : mA v_fires = v_fires_j) {v_firstPayments : (Nat → Int32)} {v_firstPayments_j : (Nat → Int)} (t_v_firstPayments : mA v_firstPayments = v_firstPayments_j) {v_nextPayments : (Nat → Int32)} {v_nextPayments_j : (Nat → Int)} (t_v_nextPayments : mA v_nextPayments = v_nextPayments_j) {v_writs : (Nat → Int32)} {v_writs_j : (Nat → Int)} (t_v_writs : mA v_writs = v_writs_j) : tl (mP mA (mP mA (mP mA mA))) (iKnown_setAt_b36_F N_j a1_j a2_j v_acts_count_j v_acts_kinds_j v_acts_terms_j v_acts_voidedBy_j k78_j self_j x3_j v_fires_j v_firstPayments_j v_nextPayments_j v_writs_j) (pKnown_setAt_b36_F N a1 a2 v_acts_count v_acts_kinds v_acts_terms v_acts_voidedBy k78 self x3 v_fires v_firstPayments v_nextPayments v_writs) := by
  subst t_N
  subst t_a1
  subst t_a2
  subst t_v_acts_count
  subst t_v_acts_kinds
  subst t_v_acts_terms
  subst t_v_acts_voidedBy
  subst t_x3
  subst t_v_fires
  subst t_v_firstPayments
  subst t_v_nextPayments
  subst t_v_writs
  unfold iKnown_setAt_b36_F pKnown_setAt_b36_F
  refine tl_ite (jc_lt (Eq.refl (mI x3)) jlitI_1) ?_ ?_
  · exact (tl_e4 (Eq.refl (mA v_fires)) (Eq.refl (mA v_firstPayments)) (Eq.refl (mA v_nextPayments)) (Eq.refl (mA v_writs)) (t_k78 _ _ _ _))
  · refine tl_ite (jc_eq (Eq.refl (mI x3)) (Eq.refl (mI a2))) ?_ ?_
    · refine tl_g (fun h1 => ?_)
      exact (tl_e5 (ja_add (Eq.refl (mI x3)) jlitI_m1 h1) (Eq.refl (mA v_fires)) (Eq.refl (mA v_firstPayments)) (Eq.refl (mA v_nextPayments)) (Eq.refl (mA v_writs)) (t_self _ _ _ _ _))
    · refine tl_bd1 (t_pActs_isKnown (Eq.refl (mI x3)) (Eq.refl (mI a1)) (Eq.refl (mI v_acts_count)) (Eq.refl (mA v_acts_kinds)) (Eq.refl (mA v_acts_voidedBy))) (fun rc2 => ?_)
      refine tl_ite (jc_eq (Eq.refl (mI rc2)) jlitI_0) ?_ ?_
      · refine tl_g (fun h2 => ?_)
        exact (tl_e5 (ja_add (Eq.refl (mI x3)) jlitI_m1 h2) (Eq.refl (mA v_fires)) (Eq.refl (mA v_firstPayments)) (Eq.refl (mA v_nextPayments)) (Eq.refl (mA v_writs)) (t_self _ _ _ _ _))
      · refine tl_gd (jg_ib (Eq.refl (mI x3))) (fun _ => ?_)
        refine tl_bd4 (t_pKnown_note (Eq.refl (mI x3)) (jrd (Eq.refl (mA v_acts_terms)) (jx (Eq.refl (mI x3)))) (Eq.refl (mI v_acts_count)) (Eq.refl (mA v_acts_kinds)) (Eq.refl (mA v_fires)) (Eq.refl (mA v_firstPayments)) (Eq.refl (mA v_nextPayments)) (Eq.refl (mA v_writs))) (fun v_fires_c4 v_firstPayments_c4 v_nextPayments_c4 v_writs_c4 => ?_)
        refine tl_g (fun h3 => ?_)
        exact (tl_e5 (ja_add (Eq.refl (mI x3)) jlitI_m1 h3) (Eq.refl (mA v_fires_c4)) (Eq.refl (mA v_firstPayments_c4)) (Eq.refl (mA v_nextPayments_c4)) (Eq.refl (mA v_writs_c4)) (t_self _ _ _ _ _))
theorem t_pKnown_setAt_b36 {N N_j : Nat} (t_N : N = N_j) {a1 : Int32} {a1_j : Int} (t_a1 : mI a1 = a1_j) {a2 : Int32} {a2_j : Int} (t_a2 : mI a2 = a2_j) {v_acts_count : Int32} {v_acts_count_j : Int} (t_v_acts_count : mI v_acts_count = v_acts_count_j) {v_acts_kinds : (Nat → Int32)} {v_acts_kinds_j : (Nat → Int)} (t_v_acts_kinds : mA v_acts_kinds = v_acts_kinds_j) {v_acts_terms : (Nat → Int32)} {v_acts_terms_j : (Nat → Int)} (t_v_acts_terms : mA v_acts_terms = v_acts_terms_j) {v_acts_voidedBy : (Nat → Int32)} {v_acts_voidedBy_j : (Nat → Int)} (t_v_acts_voidedBy : mA v_acts_voidedBy = v_acts_voidedBy_j) {k78 : (Nat → Int32) → (Nat → Int32) → (Nat → Int32) → (Nat → Int32) → Option R_pKnown_setAt} {k78_j : (Nat → Int) → (Nat → Int) → (Nat → Int) → (Nat → Int) → Option R_iKnown_setAt} (t_k78 : ∀ (q0_ : (Nat → Int32)) (q1_ : (Nat → Int32)) (q2_ : (Nat → Int32)) (q3_ : (Nat → Int32)), tl (mP mA (mP mA (mP mA mA))) (k78_j (mA q0_) (mA q1_) (mA q2_) (mA q3_)) (k78 q0_ q1_ q2_ q3_)) {n n_j : Nat} (t_n : n = n_j) {w0_ : Int32} {w0__j : Int} (t_w0_ : mI w0_ = w0__j) {w1_ : (Nat → Int32)} {w1__j : (Nat → Int)} (t_w1_ : mA w1_ = w1__j) {w2_ : (Nat → Int32)} {w2__j : (Nat → Int)} (t_w2_ : mA w2_ = w2__j) {w3_ : (Nat → Int32)} {w3__j : (Nat → Int)} (t_w3_ : mA w3_ = w3__j) {w4_ : (Nat → Int32)} {w4__j : (Nat → Int)} (t_w4_ : mA w4_ = w4__j) : tl (mP mA (mP mA (mP mA mA))) (iKnown_setAt_b36 N_j a1_j a2_j v_acts_count_j v_acts_kinds_j v_acts_terms_j v_acts_voidedBy_j k78_j n_j w0__j w1__j w2__j w3__j w4__j) (pKnown_setAt_b36 N a1 a2 v_acts_count v_acts_kinds v_acts_terms v_acts_voidedBy k78 n w0_ w1_ w2_ w3_ w4_) := by
  subst t_N
  subst t_a1
  subst t_a2
  subst t_v_acts_count
  subst t_v_acts_kinds
  subst t_v_acts_terms
  subst t_v_acts_voidedBy
  subst t_n
  subst t_w0_
  subst t_w1_
  subst t_w2_
  subst t_w3_
  subst t_w4_
  exact tl_zlp5 (fun s2 s hs w0_ w1_ w2_ w3_ w4_ => t_pKnown_setAt_b36_F (Eq.refl N) (Eq.refl (mI a1)) (Eq.refl (mI a2)) (Eq.refl (mI v_acts_count)) (Eq.refl (mA v_acts_kinds)) (Eq.refl (mA v_acts_terms)) (Eq.refl (mA v_acts_voidedBy)) t_k78 hs (Eq.refl (mI w0_)) (Eq.refl (mA w1_)) (Eq.refl (mA w2_)) (Eq.refl (mA w3_)) (Eq.refl (mA w4_))) n w0_ w1_ w2_ w3_ w4_
theorem t_pKnown_setAt_b117 {N N_j : Nat} (t_N : N = N_j) {a1 : Int32} {a1_j : Int} (t_a1 : mI a1 = a1_j) {a2 : Int32} {a2_j : Int} (t_a2 : mI a2 = a2_j) {v_acts_count : Int32} {v_acts_count_j : Int} (t_v_acts_count : mI v_acts_count = v_acts_count_j) {v_acts_kinds : (Nat → Int32)} {v_acts_kinds_j : (Nat → Int)} (t_v_acts_kinds : mA v_acts_kinds = v_acts_kinds_j) {v_acts_terms : (Nat → Int32)} {v_acts_terms_j : (Nat → Int)} (t_v_acts_terms : mA v_acts_terms = v_acts_terms_j) {v_acts_voidedBy : (Nat → Int32)} {v_acts_voidedBy_j : (Nat → Int)} (t_v_acts_voidedBy : mA v_acts_voidedBy = v_acts_voidedBy_j) {self : Int32 → (Nat → Int32) → Option R_pKnown_setAt} {self_j : Int → (Nat → Int) → Option R_iKnown_setAt} (t_self : ∀ (q0_ : Int32) (q1_ : (Nat → Int32)), tl (mP mA (mP mA (mP mA mA))) (self_j (mI q0_) (mA q1_)) (self q0_ q1_)) {x3 : Int32} {x3_j : Int} (t_x3 : mI x3 = x3_j) {s1 : Int32} {s1_j : Int} (t_s1 : mI s1 = s1_j) {s2 : Int32} {s2_j : Int} (t_s2 : mI s2 = s2_j) {v_fires : (Nat → Int32)} {v_fires_j : (Nat → Int)} (t_v_fires : mA v_fires = v_fires_j) {v_firstPayments : (Nat → Int32)} {v_firstPayments_j : (Nat → Int)} (t_v_firstPayments : mA v_firstPayments = v_firstPayments_j) {v_nextPayments : (Nat → Int32)} {v_nextPayments_j : (Nat → Int)} (t_v_nextPayments : mA v_nextPayments = v_nextPayments_j) {v_writs : (Nat → Int32)} {v_writs_j : (Nat → Int)} (t_v_writs : mA v_writs = v_writs_j) : tl (mP mA (mP mA (mP mA mA))) (iKnown_setAt_b117 N_j a1_j a2_j v_acts_count_j v_acts_kinds_j v_acts_terms_j v_acts_voidedBy_j self_j x3_j s1_j s2_j v_fires_j v_firstPayments_j v_nextPayments_j v_writs_j) (pKnown_setAt_b117 N a1 a2 v_acts_count v_acts_kinds v_acts_terms v_acts_voidedBy self x3 s1 s2 v_fires v_firstPayments v_nextPayments v_writs) := by
  subst t_N
  subst t_a1
  subst t_a2
  subst t_v_acts_count
  subst t_v_acts_kinds
  subst t_v_acts_terms
  subst t_v_acts_voidedBy
  subst t_x3
  subst t_s1
  subst t_s2
  subst t_v_fires
  subst t_v_firstPayments
  subst t_v_nextPayments
  subst t_v_writs
  unfold iKnown_setAt_b117 pKnown_setAt_b117
  refine tl_gd (jg_ib (Eq.refl (mI s1))) (fun _ => ?_)
  refine tl_g (fun h1 => ?_)
  exact (tl_e2 (ja_add (Eq.refl (mI x3)) jlitI_1 h1) (jupA (Eq.refl (mA v_writs)) (jx (Eq.refl (mI s1))) (Eq.refl (mI s2))) (t_self _ _))
theorem t_pKnown_setAt_b80_F {N N_j : Nat} (t_N : N = N_j) {a1 : Int32} {a1_j : Int} (t_a1 : mI a1 = a1_j) {a2 : Int32} {a2_j : Int} (t_a2 : mI a2 = a2_j) {v_acts_count : Int32} {v_acts_count_j : Int} (t_v_acts_count : mI v_acts_count = v_acts_count_j) {v_acts_kinds : (Nat → Int32)} {v_acts_kinds_j : (Nat → Int)} (t_v_acts_kinds : mA v_acts_kinds = v_acts_kinds_j) {v_acts_terms : (Nat → Int32)} {v_acts_terms_j : (Nat → Int)} (t_v_acts_terms : mA v_acts_terms = v_acts_terms_j) {v_acts_voidedBy : (Nat → Int32)} {v_acts_voidedBy_j : (Nat → Int)} (t_v_acts_voidedBy : mA v_acts_voidedBy = v_acts_voidedBy_j) {v_fires : (Nat → Int32)} {v_fires_j : (Nat → Int)} (t_v_fires : mA v_fires = v_fires_j) {v_firstPayments : (Nat → Int32)} {v_firstPayments_j : (Nat → Int)} (t_v_firstPayments : mA v_firstPayments = v_firstPayments_j) {v_nextPayments : (Nat → Int32)} {v_nextPayments_j : (Nat → Int)} (t_v_nextPayments : mA v_nextPayments = v_nextPayments_j) {self : Int32 → (Nat → Int32) → Option R_pKnown_setAt} {self_j : Int → (Nat → Int) → Option R_iKnown_setAt} (t_self : ∀ (q0_ : Int32) (q1_ : (Nat → Int32)), tl (mP mA (mP mA (mP mA mA))) (self_j (mI q0_) (mA q1_)) (self q0_ q1_)) {x3 : Int32} {x3_j : Int} (t_x3 : mI x3 = x3_j) {v_writs : (Nat → Int32)} {v_writs_j : (Nat → Int)} (t_v_writs : mA v_writs = v_writs_j) : tl (mP mA (mP mA (mP mA mA))) (iKnown_setAt_b80_F N_j a1_j a2_j v_acts_count_j v_acts_kinds_j v_acts_terms_j v_acts_voidedBy_j v_fires_j v_firstPayments_j v_nextPayments_j self_j x3_j v_writs_j) (pKnown_setAt_b80_F N a1 a2 v_acts_count v_acts_kinds v_acts_terms v_acts_voidedBy v_fires v_firstPayments v_nextPayments self x3 v_writs) := by
  subst t_N
  subst t_a1
  subst t_a2
  subst t_v_acts_count
  subst t_v_acts_kinds
  subst t_v_acts_terms
  subst t_v_acts_voidedBy
  subst t_v_fires
  subst t_v_firstPayments
  subst t_v_nextPayments
  subst t_x3
  subst t_v_writs
  unfold iKnown_setAt_b80_F pKnown_setAt_b80_F
  refine tl_ite (jc_le jlitI_40 (Eq.refl (mI x3))) ?_ ?_
  · exact (tl_some (jp2 (Eq.refl (mA v_fires)) (jp2 (Eq.refl (mA v_firstPayments)) (jp2 (Eq.refl (mA v_nextPayments)) (Eq.refl (mA v_writs))))))
  · refine tl_gd (jg_ib (Eq.refl (mI x3))) (fun _ => ?_)
    refine tl_ite (jc_eq (jrd (Eq.refl (mA v_writs)) (jx (Eq.refl (mI x3)))) jlitI_0) ?_ ?_
    · refine tl_g (fun h1 => ?_)
      refine tl_gd (jg_ib (ja_sub (Eq.refl (mI x3)) jlitI_1 h1)) (fun _ => ?_)
      exact (t_pKnown_setAt_b117 (Eq.refl N) (Eq.refl (mI a1)) (Eq.refl (mI a2)) (Eq.refl (mI v_acts_count)) (Eq.refl (mA v_acts_kinds)) (Eq.refl (mA v_acts_terms)) (Eq.refl (mA v_acts_voidedBy)) t_self (Eq.refl (mI x3)) (Eq.refl (mI x3)) (jrd (Eq.refl (mA v_writs)) (jx (ja_sub (Eq.refl (mI x3)) jlitI_1 h1))) (Eq.refl (mA v_fires)) (Eq.refl (mA v_firstPayments)) (Eq.refl (mA v_nextPayments)) (Eq.refl (mA v_writs)))
    · exact (t_pKnown_setAt_b117 (Eq.refl N) (Eq.refl (mI a1)) (Eq.refl (mI a2)) (Eq.refl (mI v_acts_count)) (Eq.refl (mA v_acts_kinds)) (Eq.refl (mA v_acts_terms)) (Eq.refl (mA v_acts_voidedBy)) t_self (Eq.refl (mI x3)) (Eq.refl (mI x3)) (jrd (Eq.refl (mA v_writs)) (jx (Eq.refl (mI x3)))) (Eq.refl (mA v_fires)) (Eq.refl (mA v_firstPayments)) (Eq.refl (mA v_nextPayments)) (Eq.refl (mA v_writs)))
theorem t_pKnown_setAt_b80 {N N_j : Nat} (t_N : N = N_j) {a1 : Int32} {a1_j : Int} (t_a1 : mI a1 = a1_j) {a2 : Int32} {a2_j : Int} (t_a2 : mI a2 = a2_j) {v_acts_count : Int32} {v_acts_count_j : Int} (t_v_acts_count : mI v_acts_count = v_acts_count_j) {v_acts_kinds : (Nat → Int32)} {v_acts_kinds_j : (Nat → Int)} (t_v_acts_kinds : mA v_acts_kinds = v_acts_kinds_j) {v_acts_terms : (Nat → Int32)} {v_acts_terms_j : (Nat → Int)} (t_v_acts_terms : mA v_acts_terms = v_acts_terms_j) {v_acts_voidedBy : (Nat → Int32)} {v_acts_voidedBy_j : (Nat → Int)} (t_v_acts_voidedBy : mA v_acts_voidedBy = v_acts_voidedBy_j) {v_fires : (Nat → Int32)} {v_fires_j : (Nat → Int)} (t_v_fires : mA v_fires = v_fires_j) {v_firstPayments : (Nat → Int32)} {v_firstPayments_j : (Nat → Int)} (t_v_firstPayments : mA v_firstPayments = v_firstPayments_j) {v_nextPayments : (Nat → Int32)} {v_nextPayments_j : (Nat → Int)} (t_v_nextPayments : mA v_nextPayments = v_nextPayments_j) {n n_j : Nat} (t_n : n = n_j) {w0_ : Int32} {w0__j : Int} (t_w0_ : mI w0_ = w0__j) {w1_ : (Nat → Int32)} {w1__j : (Nat → Int)} (t_w1_ : mA w1_ = w1__j) : tl (mP mA (mP mA (mP mA mA))) (iKnown_setAt_b80 N_j a1_j a2_j v_acts_count_j v_acts_kinds_j v_acts_terms_j v_acts_voidedBy_j v_fires_j v_firstPayments_j v_nextPayments_j n_j w0__j w1__j) (pKnown_setAt_b80 N a1 a2 v_acts_count v_acts_kinds v_acts_terms v_acts_voidedBy v_fires v_firstPayments v_nextPayments n w0_ w1_) := by
  subst t_N
  subst t_a1
  subst t_a2
  subst t_v_acts_count
  subst t_v_acts_kinds
  subst t_v_acts_terms
  subst t_v_acts_voidedBy
  subst t_v_fires
  subst t_v_firstPayments
  subst t_v_nextPayments
  subst t_n
  subst t_w0_
  subst t_w1_
  exact tl_zlp2 (fun s2 s hs w0_ w1_ => t_pKnown_setAt_b80_F (Eq.refl N) (Eq.refl (mI a1)) (Eq.refl (mI a2)) (Eq.refl (mI v_acts_count)) (Eq.refl (mA v_acts_kinds)) (Eq.refl (mA v_acts_terms)) (Eq.refl (mA v_acts_voidedBy)) (Eq.refl (mA v_fires)) (Eq.refl (mA v_firstPayments)) (Eq.refl (mA v_nextPayments)) hs (Eq.refl (mI w0_)) (Eq.refl (mA w1_))) n w0_ w1_
theorem t_pKnown_setAt_b78 {N N_j : Nat} (t_N : N = N_j) {a1 : Int32} {a1_j : Int} (t_a1 : mI a1 = a1_j) {a2 : Int32} {a2_j : Int} (t_a2 : mI a2 = a2_j) {v_acts_count : Int32} {v_acts_count_j : Int} (t_v_acts_count : mI v_acts_count = v_acts_count_j) {v_acts_kinds : (Nat → Int32)} {v_acts_kinds_j : (Nat → Int)} (t_v_acts_kinds : mA v_acts_kinds = v_acts_kinds_j) {v_acts_terms : (Nat → Int32)} {v_acts_terms_j : (Nat → Int)} (t_v_acts_terms : mA v_acts_terms = v_acts_terms_j) {v_acts_voidedBy : (Nat → Int32)} {v_acts_voidedBy_j : (Nat → Int)} (t_v_acts_voidedBy : mA v_acts_voidedBy = v_acts_voidedBy_j) {v_fires : (Nat → Int32)} {v_fires_j : (Nat → Int)} (t_v_fires : mA v_fires = v_fires_j) {v_firstPayments : (Nat → Int32)} {v_firstPayments_j : (Nat → Int)} (t_v_firstPayments : mA v_firstPayments = v_firstPayments_j) {v_nextPayments : (Nat → Int32)} {v_nextPayments_j : (Nat → Int)} (t_v_nextPayments : mA v_nextPayments = v_nextPayments_j) {v_writs : (Nat → Int32)} {v_writs_j : (Nat → Int)} (t_v_writs : mA v_writs = v_writs_j) : tl (mP mA (mP mA (mP mA mA))) (iKnown_setAt_b78 N_j a1_j a2_j v_acts_count_j v_acts_kinds_j v_acts_terms_j v_acts_voidedBy_j v_fires_j v_firstPayments_j v_nextPayments_j v_writs_j) (pKnown_setAt_b78 N a1 a2 v_acts_count v_acts_kinds v_acts_terms v_acts_voidedBy v_fires v_firstPayments v_nextPayments v_writs) := by
  subst t_N
  subst t_a1
  subst t_a2
  subst t_v_acts_count
  subst t_v_acts_kinds
  subst t_v_acts_terms
  subst t_v_acts_voidedBy
  subst t_v_fires
  subst t_v_firstPayments
  subst t_v_nextPayments
  subst t_v_writs
  unfold iKnown_setAt_b78 pKnown_setAt_b78
  exact (t_pKnown_setAt_b80 (Eq.refl N) (Eq.refl (mI a1)) (Eq.refl (mI a2)) (Eq.refl (mI v_acts_count)) (Eq.refl (mA v_acts_kinds)) (Eq.refl (mA v_acts_terms)) (Eq.refl (mA v_acts_voidedBy)) (Eq.refl (mA v_fires)) (Eq.refl (mA v_firstPayments)) (Eq.refl (mA v_nextPayments)) (Eq.refl N) jlitI_1 (Eq.refl (mA v_writs)))
theorem t_pKnown_setAt {N N_j : Nat} (t_N : N = N_j) {a1 : Int32} {a1_j : Int} (t_a1 : mI a1 = a1_j) {a2 : Int32} {a2_j : Int} (t_a2 : mI a2 = a2_j) {v_acts_count : Int32} {v_acts_count_j : Int} (t_v_acts_count : mI v_acts_count = v_acts_count_j) {v_acts_kinds : (Nat → Int32)} {v_acts_kinds_j : (Nat → Int)} (t_v_acts_kinds : mA v_acts_kinds = v_acts_kinds_j) {v_acts_terms : (Nat → Int32)} {v_acts_terms_j : (Nat → Int)} (t_v_acts_terms : mA v_acts_terms = v_acts_terms_j) {v_acts_voidedBy : (Nat → Int32)} {v_acts_voidedBy_j : (Nat → Int)} (t_v_acts_voidedBy : mA v_acts_voidedBy = v_acts_voidedBy_j) {v_fires : (Nat → Int32)} {v_fires_j : (Nat → Int)} (t_v_fires : mA v_fires = v_fires_j) {v_firstPayments : (Nat → Int32)} {v_firstPayments_j : (Nat → Int)} (t_v_firstPayments : mA v_firstPayments = v_firstPayments_j) {v_nextPayments : (Nat → Int32)} {v_nextPayments_j : (Nat → Int)} (t_v_nextPayments : mA v_nextPayments = v_nextPayments_j) {v_writs : (Nat → Int32)} {v_writs_j : (Nat → Int)} (t_v_writs : mA v_writs = v_writs_j) : tl (mP mA (mP mA (mP mA mA))) (iKnown_setAt N_j a1_j a2_j v_acts_count_j v_acts_kinds_j v_acts_terms_j v_acts_voidedBy_j v_fires_j v_firstPayments_j v_nextPayments_j v_writs_j) (pKnown_setAt N a1 a2 v_acts_count v_acts_kinds v_acts_terms v_acts_voidedBy v_fires v_firstPayments v_nextPayments v_writs) := by
  subst t_N
  subst t_a1
  subst t_a2
  subst t_v_acts_count
  subst t_v_acts_kinds
  subst t_v_acts_terms
  subst t_v_acts_voidedBy
  subst t_v_fires
  subst t_v_firstPayments
  subst t_v_nextPayments
  subst t_v_writs
  unfold iKnown_setAt pKnown_setAt
  refine tl_bd1 (t_pActs_size (Eq.refl (mI v_acts_count))) (fun rc1 => ?_)
  exact (t_pKnown_setAt_b36 (Eq.refl N) (Eq.refl (mI a1)) (Eq.refl (mI a2)) (Eq.refl (mI v_acts_count)) (Eq.refl (mA v_acts_kinds)) (Eq.refl (mA v_acts_terms)) (Eq.refl (mA v_acts_voidedBy)) (fun e7_ e8_ e9_ e10_ => by exact (t_pKnown_setAt_b78 (Eq.refl N) (Eq.refl (mI a1)) (Eq.refl (mI a2)) (Eq.refl (mI v_acts_count)) (Eq.refl (mA v_acts_kinds)) (Eq.refl (mA v_acts_terms)) (Eq.refl (mA v_acts_voidedBy)) (Eq.refl (mA e7_)) (Eq.refl (mA e8_)) (Eq.refl (mA e9_)) (Eq.refl (mA e10_)))) (Eq.refl N) (ja_min (Eq.refl (mI a1)) (Eq.refl (mI rc1))) (jkA jlitI_0) (jkA jlitI_0) (Eq.refl (mA v_nextPayments)) (jkA jlitI_0))
theorem t_pKnown_writOf {a1 : Int32} {a1_j : Int} (t_a1 : mI a1 = a1_j) {v_acts_writs : (Nat → Option Nat)} {v_acts_writs_j : (Nat → Option Nat)} (t_v_acts_writs : mO v_acts_writs = v_acts_writs_j) {v_writs : (Nat → Int32)} {v_writs_j : (Nat → Int)} (t_v_writs : mA v_writs = v_writs_j) : tl (mO) (iKnown_writOf a1_j v_acts_writs_j v_writs_j) (pKnown_writOf a1 v_acts_writs v_writs) := by
  subst t_a1
  subst t_v_acts_writs
  subst t_v_writs
  unfold iKnown_writOf pKnown_writOf
  refine tl_bd1 (t_pK_isTerm (Eq.refl (mI a1))) (fun rc1 => ?_)
  refine tl_ite (jc_eq (Eq.refl (mI rc1)) jlitI_0) ?_ ?_
  · exact (tl_some (Eq.refl none))
  · refine tl_gd (jg_ib (Eq.refl (mI a1))) (fun _ => ?_)
    refine tl_gd (jg_ib (jrd (Eq.refl (mA v_writs)) (jx (Eq.refl (mI a1))))) (fun _ => ?_)
    exact (tl_some (congr (Eq.refl (mO v_acts_writs)) (jx (jrd (Eq.refl (mA v_writs)) (jx (Eq.refl (mI a1)))))))
theorem t_pKnown_firstPayment {a1 : Int32} {a1_j : Int} (t_a1 : mI a1 = a1_j) {v_firstPayments : (Nat → Int32)} {v_firstPayments_j : (Nat → Int)} (t_v_firstPayments : mA v_firstPayments = v_firstPayments_j) : tl (mI) (iKnown_firstPayment a1_j v_firstPayments_j) (pKnown_firstPayment a1 v_firstPayments) := by
  subst t_a1
  subst t_v_firstPayments
  unfold iKnown_firstPayment pKnown_firstPayment
  refine tl_bd1 (t_pK_isTerm (Eq.refl (mI a1))) (fun rc1 => ?_)
  refine tl_ite (jc_eq (Eq.refl (mI rc1)) jlitI_0) ?_ ?_
  · exact (tl_some jlitI_0)
  · refine tl_gd (jg_ib (Eq.refl (mI a1))) (fun _ => ?_)
    exact (tl_some (jrd (Eq.refl (mA v_firstPayments)) (jx (Eq.refl (mI a1)))))
theorem t_pKnown_fireOf {a1 : Int32} {a1_j : Int} (t_a1 : mI a1 = a1_j) {v_acts_amounts : (Nat → Int32)} {v_acts_amounts_j : (Nat → Int)} (t_v_acts_amounts : mA v_acts_amounts = v_acts_amounts_j) {v_fires : (Nat → Int32)} {v_fires_j : (Nat → Int)} (t_v_fires : mA v_fires = v_fires_j) : tl (mI) (iKnown_fireOf a1_j v_acts_amounts_j v_fires_j) (pKnown_fireOf a1 v_acts_amounts v_fires) := by
  subst t_a1
  subst t_v_acts_amounts
  subst t_v_fires
  unfold iKnown_fireOf pKnown_fireOf
  refine tl_bd1 (t_pK_isTerm (Eq.refl (mI a1))) (fun rc1 => ?_)
  refine tl_ite (jc_eq (Eq.refl (mI rc1)) jlitI_0) ?_ ?_
  · exact (tl_some jlitI_0)
  · refine tl_gd (jg_ib (Eq.refl (mI a1))) (fun _ => ?_)
    refine tl_ite (jc_le (jrd (Eq.refl (mA v_fires)) (jx (Eq.refl (mI a1)))) jlitI_0) ?_ ?_
    · exact (tl_some jlitI_0)
    · refine tl_gd (jg_ib (jrd (Eq.refl (mA v_fires)) (jx (Eq.refl (mI a1))))) (fun _ => ?_)
      exact (tl_some (jrd (Eq.refl (mA v_acts_amounts)) (jx (jrd (Eq.refl (mA v_fires)) (jx (Eq.refl (mI a1)))))))
theorem t_pKnown_nextPayment {a1 : Int32} {a1_j : Int} (t_a1 : mI a1 = a1_j) {v_nextPayments : (Nat → Int32)} {v_nextPayments_j : (Nat → Int)} (t_v_nextPayments : mA v_nextPayments = v_nextPayments_j) : tl (mI) (iKnown_nextPayment a1_j v_nextPayments_j) (pKnown_nextPayment a1 v_nextPayments) := by
  subst t_a1
  subst t_v_nextPayments
  unfold iKnown_nextPayment pKnown_nextPayment
  refine tl_ite (jc_lt (Eq.refl (mI a1)) jlitI_1) ?_ ?_
  · exact (tl_some jlitI_0)
  · refine tl_ite (jc_lt jlitI_200 (Eq.refl (mI a1))) ?_ ?_
    · exact (tl_some jlitI_0)
    · refine tl_gd (jg_ib (Eq.refl (mI a1))) (fun _ => ?_)
      exact (tl_some (jrd (Eq.refl (mA v_nextPayments)) (jx (Eq.refl (mI a1)))))
theorem t_pKnown_dropFirstPayment {a1 : Int32} {a1_j : Int} (t_a1 : mI a1 = a1_j) {v_firstPayments : (Nat → Int32)} {v_firstPayments_j : (Nat → Int)} (t_v_firstPayments : mA v_firstPayments = v_firstPayments_j) {v_nextPayments : (Nat → Int32)} {v_nextPayments_j : (Nat → Int)} (t_v_nextPayments : mA v_nextPayments = v_nextPayments_j) : tl (mA) (iKnown_dropFirstPayment a1_j v_firstPayments_j v_nextPayments_j) (pKnown_dropFirstPayment a1 v_firstPayments v_nextPayments) := by
  subst t_a1
  subst t_v_firstPayments
  subst t_v_nextPayments
  unfold iKnown_dropFirstPayment pKnown_dropFirstPayment
  refine tl_bd1 (t_pK_isTerm (Eq.refl (mI a1))) (fun rc1 => ?_)
  refine tl_ite (jc_eq (Eq.refl (mI rc1)) jlitI_0) ?_ ?_
  · exact (tl_some (Eq.refl (mA v_firstPayments)))
  · refine tl_gd (jg_ib (Eq.refl (mI a1))) (fun _ => ?_)
    refine tl_bd1 (t_pKnown_nextPayment (jrd (Eq.refl (mA v_firstPayments)) (jx (Eq.refl (mI a1)))) (Eq.refl (mA v_nextPayments))) (fun rc3 => ?_)
    exact (tl_some (jupA (Eq.refl (mA v_firstPayments)) (jx (Eq.refl (mI a1))) (Eq.refl (mI rc3))))
theorem t_pRoll_begin {a1 : Int32} {a1_j : Int} (t_a1 : mI a1 = a1_j) {v_shire : Int32} {v_shire_j : Int} (t_v_shire : mI v_shire = v_shire_j) {v_told : Int32} {v_told_j : Int} (t_v_told : mI v_told = v_told_j) : tl (mP mI mI) (iRoll_begin a1_j v_shire_j v_told_j) (pRoll_begin a1 v_shire v_told) := by
  subst t_a1
  subst t_v_shire
  subst t_v_told
  unfold iRoll_begin pRoll_begin
  exact (tl_some (jp2 (Eq.refl (mI a1)) jlitI_0))
theorem t_pRoll_comeDue_b16_F {N N_j : Nat} (t_N : N = N_j) {a1 : Int32} {a1_j : Int} (t_a1 : mI a1 = a1_j) {v_debts : (Nat → Int64)} {v_debts_j : (Nat → Int)} (t_v_debts : mL v_debts = v_debts_j) {v_debt : Int64} {v_debt_j : Int} (t_v_debt : mJ v_debt = v_debt_j) {k35 : (Nat → Int64) → Option R_pRoll_comeDue} {k35_j : (Nat → Int) → Option R_iRoll_comeDue} (t_k35 : ∀ (q0_ : (Nat → Int64)), tl (mP mJ mL) (k35_j (mL q0_)) (k35 q0_)) {self : Int32 → (Nat → Int64) → Option R_pRoll_comeDue} {self_j : Int → (Nat → Int) → Option R_iRoll_comeDue} (t_self : ∀ (q0_ : Int32) (q1_ : (Nat → Int64)), tl (mP mJ mL) (self_j (mI q0_) (mL q1_)) (self q0_ q1_)) {x3 : Int32} {x3_j : Int} (t_x3 : mI x3 = x3_j) {v_putOff : (Nat → Int64)} {v_putOff_j : (Nat → Int)} (t_v_putOff : mL v_putOff = v_putOff_j) : tl (mP mJ mL) (iRoll_comeDue_b16_F N_j a1_j v_debts_j v_debt_j k35_j self_j x3_j v_putOff_j) (pRoll_comeDue_b16_F N a1 v_debts v_debt k35 self x3 v_putOff) := by
  subst t_N
  subst t_a1
  subst t_v_debts
  subst t_v_debt
  subst t_x3
  subst t_v_putOff
  unfold iRoll_comeDue_b16_F pRoll_comeDue_b16_F
  refine tl_ite (jc_le jlitI_19 (Eq.refl (mI x3))) ?_ ?_
  · exact (tl_e1 (Eq.refl (mL v_putOff)) (t_k35 _))
  · refine tl_gd (jg_ib (Eq.refl (mI x3))) (fun _ => ?_)
    refine tl_g (fun h1 => ?_)
    exact (tl_e2 (ja_add (Eq.refl (mI x3)) jlitI_1 h1) (jupL (Eq.refl (mL v_putOff)) (jx (Eq.refl (mI x3))) jlitJ_0) (t_self _ _))
theorem t_pRoll_comeDue_b16 {N N_j : Nat} (t_N : N = N_j) {a1 : Int32} {a1_j : Int} (t_a1 : mI a1 = a1_j) {v_debts : (Nat → Int64)} {v_debts_j : (Nat → Int)} (t_v_debts : mL v_debts = v_debts_j) {v_debt : Int64} {v_debt_j : Int} (t_v_debt : mJ v_debt = v_debt_j) {k35 : (Nat → Int64) → Option R_pRoll_comeDue} {k35_j : (Nat → Int) → Option R_iRoll_comeDue} (t_k35 : ∀ (q0_ : (Nat → Int64)), tl (mP mJ mL) (k35_j (mL q0_)) (k35 q0_)) {n n_j : Nat} (t_n : n = n_j) {w0_ : Int32} {w0__j : Int} (t_w0_ : mI w0_ = w0__j) {w1_ : (Nat → Int64)} {w1__j : (Nat → Int)} (t_w1_ : mL w1_ = w1__j) : tl (mP mJ mL) (iRoll_comeDue_b16 N_j a1_j v_debts_j v_debt_j k35_j n_j w0__j w1__j) (pRoll_comeDue_b16 N a1 v_debts v_debt k35 n w0_ w1_) := by
  subst t_N
  subst t_a1
  subst t_v_debts
  subst t_v_debt
  subst t_n
  subst t_w0_
  subst t_w1_
  exact tl_zlp2 (fun s2 s hs w0_ w1_ => t_pRoll_comeDue_b16_F (Eq.refl N) (Eq.refl (mI a1)) (Eq.refl (mL v_debts)) (Eq.refl (mJ v_debt)) t_k35 hs (Eq.refl (mI w0_)) (Eq.refl (mL w1_))) n w0_ w1_
theorem t_pRoll_comeDue_b35 {N N_j : Nat} (t_N : N = N_j) {a1 : Int32} {a1_j : Int} (t_a1 : mI a1 = a1_j) {v_debts : (Nat → Int64)} {v_debts_j : (Nat → Int)} (t_v_debts : mL v_debts = v_debts_j) {v_debt : Int64} {v_debt_j : Int} (t_v_debt : mJ v_debt = v_debt_j) {v_putOff : (Nat → Int64)} {v_putOff_j : (Nat → Int)} (t_v_putOff : mL v_putOff = v_putOff_j) : tl (mP mJ mL) (iRoll_comeDue_b35 N_j a1_j v_debts_j v_debt_j v_putOff_j) (pRoll_comeDue_b35 N a1 v_debts v_debt v_putOff) := by
  subst t_N
  subst t_a1
  subst t_v_debts
  subst t_v_debt
  subst t_v_putOff
  unfold iRoll_comeDue_b35 pRoll_comeDue_b35
  exact (tl_some (jp2 (Eq.refl (mJ v_debt)) (Eq.refl (mL v_putOff))))
theorem t_pRoll_comeDue {N N_j : Nat} (t_N : N = N_j) {a1 : Int32} {a1_j : Int} (t_a1 : mI a1 = a1_j) {v_debt : Int64} {v_debt_j : Int} (t_v_debt : mJ v_debt = v_debt_j) {v_debts : (Nat → Int64)} {v_debts_j : (Nat → Int)} (t_v_debts : mL v_debts = v_debts_j) {v_putOff : (Nat → Int64)} {v_putOff_j : (Nat → Int)} (t_v_putOff : mL v_putOff = v_putOff_j) : tl (mP mJ mL) (iRoll_comeDue N_j a1_j v_debt_j v_debts_j v_putOff_j) (pRoll_comeDue N a1 v_debt v_debts v_putOff) := by
  subst t_N
  subst t_a1
  subst t_v_debt
  subst t_v_debts
  subst t_v_putOff
  unfold iRoll_comeDue pRoll_comeDue
  refine tl_ite (jc_eq (Eq.refl (mI a1)) jlitI_0) ?_ ?_
  · exact (t_pRoll_comeDue_b16 (Eq.refl N) (Eq.refl (mI a1)) (Eq.refl (mL v_debts)) jlitJ_0 (fun e4_ => by exact (t_pRoll_comeDue_b35 (Eq.refl N) (Eq.refl (mI a1)) (Eq.refl (mL v_debts)) jlitJ_0 (Eq.refl (mL e4_)))) (Eq.refl N) jlitI_0 (Eq.refl (mL v_putOff)))
  · refine tl_g (fun h1 => ?_)
    refine tl_gd (jg_ib (ja_sub (Eq.refl (mI a1)) jlitI_1 h1)) (fun _ => ?_)
    refine tl_g (fun h2 => ?_)
    refine tl_g (fun h3 => ?_)
    refine tl_gd (jg_ib (ja_sub (ja_mul (Eq.refl (mI a1)) jlitI_19 h2) jlitI_19 h3)) (fun _ => ?_)
    refine tl_g (fun h4 => ?_)
    refine tl_gd (jg_cp (ja_add (ja_sub (ja_mul (Eq.refl (mI a1)) jlitI_19 h2) jlitI_19 h3) jlitI_1 h4) (ja_mul (Eq.refl (mI a1)) jlitI_19 h2) jlitI_18) (fun _ => ?_)
    refine tl_g (fun h5 => ?_)
    refine tl_g (fun h6 => ?_)
    refine tl_gd (jg_ib (ja_sub (ja_add (ja_mul (Eq.refl (mI a1)) jlitI_19 h2) jlitI_19 h5) jlitI_1 h6)) (fun _ => ?_)
    refine tl_g (fun h7 => ?_)
    exact (tl_some (jp2 (jL_add (jrdL (Eq.refl (mL v_debts)) (jx (ja_sub (Eq.refl (mI a1)) jlitI_1 h1))) (jrdL (Eq.refl (mL v_putOff)) (jx (ja_sub (ja_mul (Eq.refl (mI a1)) jlitI_19 h2) jlitI_19 h3))) h7) (jupL (jcpL (Eq.refl (mL v_putOff)) (Eq.refl (mL v_putOff)) (jx (ja_add (ja_sub (ja_mul (Eq.refl (mI a1)) jlitI_19 h2) jlitI_19 h3) jlitI_1 h4)) (jx (ja_mul (Eq.refl (mI a1)) jlitI_19 h2)) (jx jlitI_18)) (jx (ja_sub (ja_add (ja_mul (Eq.refl (mI a1)) jlitI_19 h2) jlitI_19 h5) jlitI_1 h6)) jlitJ_0)))
theorem t_pRoll_pardoned_b21 {a1 : (Option Nat)} {a1_j : (Option Nat)} (t_a1 : mO a1 = a1_j) {v_D : Dyn} {v_D_j : DynI} (t_v_D : mD v_D = v_D_j) {v_debt : Int64} {v_debt_j : Int} (t_v_debt : mJ v_debt = v_debt_j) {s0 : Int32} {s0_j : Int} (t_s0 : mI s0 = s0_j) : tl (mJ) (iRoll_pardoned_b21 a1_j v_D_j v_debt_j s0_j) (pRoll_pardoned_b21 a1 v_D v_debt s0) := by
  subst t_a1
  subst t_v_D
  subst t_v_debt
  subst t_s0
  unfold iRoll_pardoned_b21 pRoll_pardoned_b21
  refine tl_ite (jc_eq (Eq.refl (mI s0)) jlitI_0) ?_ ?_
  · exact (tl_some jlitJ_0)
  · refine tl_bd1 tl_rfl (fun y3 => ?_)
    refine tl_bd1 (jt_GI (Eq.refl (mD v_D))) (fun d4 => ?_)
    refine tl_bd1 (jt_GI (Eq.refl (mD v_D))) (fun d5 => ?_)
    refine tl_gd (jg_nL (ja_i2l (Eq.refl (mI d5)))) (fun _ => ?_)
    refine tl_g (fun h1 => ?_)
    refine tl_g (fun h2 => ?_)
    exact (tl_some (jL_div (jL_mul (Eq.refl (mJ v_debt)) (ja_i2l (Eq.refl (mI d4))) h1) (ja_i2l (Eq.refl (mI d5))) h2))
theorem t_pRoll_pardoned {a1 : (Option Nat)} {a1_j : (Option Nat)} (t_a1 : mO a1 = a1_j) {v_D : Dyn} {v_D_j : DynI} (t_v_D : mD v_D = v_D_j) {v_debt : Int64} {v_debt_j : Int} (t_v_debt : mJ v_debt = v_debt_j) : tl (mJ) (iRoll_pardoned a1_j v_D_j v_debt_j) (pRoll_pardoned a1 v_D v_debt) := by
  subst t_a1
  subst t_v_D
  subst t_v_debt
  unfold iRoll_pardoned pRoll_pardoned
  refine tl_ite (jk_le (Eq.refl (mJ v_debt)) jlitJ_0) ?_ ?_
  · exact (t_pRoll_pardoned_b21 (Eq.refl (mO a1)) (Eq.refl (mD v_D)) (Eq.refl (mJ v_debt)) jlitI_0)
  · refine tl_bd1 tl_rfl (fun y1 => ?_)
    refine tl_bd1 (jt_GI (Eq.refl (mD v_D))) (fun d2 => ?_)
    refine tl_ite (jc_le (Eq.refl (mI d2)) jlitI_0) ?_ ?_
    · exact (t_pRoll_pardoned_b21 (Eq.refl (mO a1)) (Eq.refl (mD v_D)) (Eq.refl (mJ v_debt)) jlitI_0)
    · exact (t_pRoll_pardoned_b21 (Eq.refl (mO a1)) (Eq.refl (mD v_D)) (Eq.refl (mJ v_debt)) jlitI_1)
theorem t_pRoll_reckon_b186 {N N_j : Nat} (t_N : N = N_j) {a1 : (Option Nat)} {a1_j : (Option Nat)} (t_a1 : mO a1 = a1_j) {a2 : Int32} {a2_j : Int} (t_a2 : mI a2 = a2_j) {a3 : Int32} {a3_j : Int} (t_a3 : mI a3 = a3_j) {v_D : Dyn} {v_D_j : DynI} (t_v_D : mD v_D = v_D_j) {v_paid : Int64} {v_paid_j : Int} (t_v_paid : mJ v_paid = v_paid_j) {v_shire : Int32} {v_shire_j : Int} (t_v_shire : mI v_shire = v_shire_j) {self : Int64 → Int32 → Int64 → Int64 → Int32 → Int32 → (Nat → Int64) → Int32 → Int64 → Option R_pRoll_reckon} {self_j : Int → Int → Int → Int → Int → Int → (Nat → Int) → Int → Int → Option R_iRoll_reckon} (t_self : ∀ (q0_ : Int64) (q1_ : Int32) (q2_ : Int64) (q3_ : Int64) (q4_ : Int32) (q5_ : Int32) (q6_ : (Nat → Int64)) (q7_ : Int32) (q8_ : Int64), tl (mP mJ (mP mJ (mP mJ (mP mI (mP mI (mP mL (mP mI mJ))))))) (self_j (mJ q0_) (mI q1_) (mJ q2_) (mJ q3_) (mI q4_) (mI q5_) (mL q6_) (mI q7_) (mJ q8_)) (self q0_ q1_ q2_ q3_ q4_ q5_ q6_ q7_ q8_)) {x4 : Int64} {x4_j : Int} (t_x4 : mJ x4 = x4_j) {x6 x6_j : Nat} (t_x6 : x6 = x6_j) {x7 : Int32} {x7_j : Int} (t_x7 : mI x7 = x7_j) {x8 : Int32} {x8_j : Int} (t_x8 : mI x8 = x8_j) {s1 : Int32} {s1_j : Int} (t_s1 : mI s1 = s1_j) {v_judge_debt : Int64} {v_judge_debt_j : Int} (t_v_judge_debt : mJ v_judge_debt = v_judge_debt_j) {v_judge_paid : Int64} {v_judge_paid_j : Int} (t_v_judge_paid : mJ v_judge_paid = v_judge_paid_j) {v_judge_shire : Int32} {v_judge_shire_j : Int} (t_v_judge_shire : mI v_judge_shire = v_judge_shire_j) {v_judge_term : Int32} {v_judge_term_j : Int} (t_v_judge_term : mI v_judge_term = v_judge_term_j) {v_judge_stack : (Nat → Int64)} {v_judge_stack_j : (Nat → Int)} (t_v_judge_stack : mL v_judge_stack = v_judge_stack_j) {v_blanched : Int32} {v_blanched_j : Int} (t_v_blanched : mI v_blanched = v_blanched_j) {v_debt : Int64} {v_debt_j : Int} (t_v_debt : mJ v_debt = v_debt_j) : tl (mP mJ (mP mJ (mP mJ (mP mI (mP mI (mP mL (mP mI mJ))))))) (iRoll_reckon_b186 N_j a1_j a2_j a3_j v_D_j v_paid_j v_shire_j self_j x4_j x6_j x7_j x8_j s1_j v_judge_debt_j v_judge_paid_j v_judge_shire_j v_judge_term_j v_judge_stack_j v_blanched_j v_debt_j) (pRoll_reckon_b186 N a1 a2 a3 v_D v_paid v_shire self x4 x6 x7 x8 s1 v_judge_debt v_judge_paid v_judge_shire v_judge_term v_judge_stack v_blanched v_debt) := by
  subst t_N
  subst t_a1
  subst t_a2
  subst t_a3
  subst t_v_D
  subst t_v_paid
  subst t_v_shire
  subst t_x4
  subst t_x6
  subst t_x7
  subst t_x8
  subst t_s1
  subst t_v_judge_debt
  subst t_v_judge_paid
  subst t_v_judge_shire
  subst t_v_judge_term
  subst t_v_judge_stack
  subst t_v_blanched
  subst t_v_debt
  unfold iRoll_reckon_b186 pRoll_reckon_b186
  refine tl_gd (jg_isB (Eq.refl (mI s1))) (fun _ => ?_)
  refine tl_g (fun h1 => ?_)
  exact (tl_e9 (Eq.refl (mJ x4)) (ja_add (Eq.refl (mI x8)) jlitI_1 h1) (Eq.refl (mJ v_judge_debt)) (Eq.refl (mJ v_judge_paid)) (Eq.refl (mI v_judge_shire)) (Eq.refl (mI v_judge_term)) (Eq.refl (mL v_judge_stack)) (Eq.refl (mI s1)) (Eq.refl (mJ v_debt)) (t_self _ _ _ _ _ _ _ _ _))
theorem t_pRoll_reckon_b161 {N N_j : Nat} (t_N : N = N_j) {a1 : (Option Nat)} {a1_j : (Option Nat)} (t_a1 : mO a1 = a1_j) {a2 : Int32} {a2_j : Int} (t_a2 : mI a2 = a2_j) {a3 : Int32} {a3_j : Int} (t_a3 : mI a3 = a3_j) {v_D : Dyn} {v_D_j : DynI} (t_v_D : mD v_D = v_D_j) {v_paid : Int64} {v_paid_j : Int} (t_v_paid : mJ v_paid = v_paid_j) {v_shire : Int32} {v_shire_j : Int} (t_v_shire : mI v_shire = v_shire_j) {self : Int64 → Int32 → Int64 → Int64 → Int32 → Int32 → (Nat → Int64) → Int32 → Int64 → Option R_pRoll_reckon} {self_j : Int → Int → Int → Int → Int → Int → (Nat → Int) → Int → Int → Option R_iRoll_reckon} (t_self : ∀ (q0_ : Int64) (q1_ : Int32) (q2_ : Int64) (q3_ : Int64) (q4_ : Int32) (q5_ : Int32) (q6_ : (Nat → Int64)) (q7_ : Int32) (q8_ : Int64), tl (mP mJ (mP mJ (mP mJ (mP mI (mP mI (mP mL (mP mI mJ))))))) (self_j (mJ q0_) (mI q1_) (mJ q2_) (mJ q3_) (mI q4_) (mI q5_) (mL q6_) (mI q7_) (mJ q8_)) (self q0_ q1_ q2_ q3_ q4_ q5_ q6_ q7_ q8_)) {x4 : Int64} {x4_j : Int} (t_x4 : mJ x4 = x4_j) {x6 x6_j : Nat} (t_x6 : x6 = x6_j) {x7 : Int32} {x7_j : Int} (t_x7 : mI x7 = x7_j) {x8 : Int32} {x8_j : Int} (t_x8 : mI x8 = x8_j) {x9 x9_j : Nat} (t_x9 : x9 = x9_j) {s1 : Int64} {s1_j : Int} (t_s1 : mJ s1 = s1_j) {s2 : Int64} {s2_j : Int} (t_s2 : mJ s2 = s2_j) {v_judge_debt : Int64} {v_judge_debt_j : Int} (t_v_judge_debt : mJ v_judge_debt = v_judge_debt_j) {v_judge_paid : Int64} {v_judge_paid_j : Int} (t_v_judge_paid : mJ v_judge_paid = v_judge_paid_j) {v_judge_shire : Int32} {v_judge_shire_j : Int} (t_v_judge_shire : mI v_judge_shire = v_judge_shire_j) {v_judge_term : Int32} {v_judge_term_j : Int} (t_v_judge_term : mI v_judge_term = v_judge_term_j) {v_judge_stack : (Nat → Int64)} {v_judge_stack_j : (Nat → Int)} (t_v_judge_stack : mL v_judge_stack = v_judge_stack_j) {v_blanched : Int32} {v_blanched_j : Int} (t_v_blanched : mI v_blanched = v_blanched_j) {v_debt : Int64} {v_debt_j : Int} (t_v_debt : mJ v_debt = v_debt_j) : tl (mP mJ (mP mJ (mP mJ (mP mI (mP mI (mP mL (mP mI mJ))))))) (iRoll_reckon_b161 N_j a1_j a2_j a3_j v_D_j v_paid_j v_shire_j self_j x4_j x6_j x7_j x8_j x9_j s1_j s2_j v_judge_debt_j v_judge_paid_j v_judge_shire_j v_judge_term_j v_judge_stack_j v_blanched_j v_debt_j) (pRoll_reckon_b161 N a1 a2 a3 v_D v_paid v_shire self x4 x6 x7 x8 x9 s1 s2 v_judge_debt v_judge_paid v_judge_shire v_judge_term v_judge_stack v_blanched v_debt) := by
  subst t_N
  subst t_a1
  subst t_a2
  subst t_a3
  subst t_v_D
  subst t_v_paid
  subst t_v_shire
  subst t_x4
  subst t_x6
  subst t_x7
  subst t_x8
  subst t_x9
  subst t_s1
  subst t_s2
  subst t_v_judge_debt
  subst t_v_judge_paid
  subst t_v_judge_shire
  subst t_v_judge_term
  subst t_v_judge_stack
  subst t_v_blanched
  subst t_v_debt
  unfold iRoll_reckon_b161 pRoll_reckon_b161
  refine tl_ite (jc_eq (Eq.refl (mI v_blanched)) jlitI_0) ?_ ?_
  · refine tl_bd1 (jt_GI (Eq.refl (mD v_D))) (fun d19 => ?_)
    refine tl_ite (jc_eq (Eq.refl (mI d19)) jlitI_0) ?_ ?_
    · refine tl_g (fun h1 => ?_)
      exact (t_pRoll_reckon_b186 (Eq.refl N) (Eq.refl (mO a1)) (Eq.refl (mI a2)) (Eq.refl (mI a3)) (Eq.refl (mD v_D)) (Eq.refl (mJ v_paid)) (Eq.refl (mI v_shire)) t_self (Eq.refl (mJ x4)) (Eq.refl x6) (Eq.refl (mI x7)) (Eq.refl (mI x8)) jlitI_0 (Eq.refl (mJ v_judge_debt)) (Eq.refl (mJ v_judge_paid)) (Eq.refl (mI v_judge_shire)) (Eq.refl (mI v_judge_term)) (Eq.refl (mL v_judge_stack)) (Eq.refl (mI v_blanched)) (jL_add (Eq.refl (mJ s1)) (Eq.refl (mJ s2)) h1))
    · refine tl_g (fun h2 => ?_)
      exact (t_pRoll_reckon_b186 (Eq.refl N) (Eq.refl (mO a1)) (Eq.refl (mI a2)) (Eq.refl (mI a3)) (Eq.refl (mD v_D)) (Eq.refl (mJ v_paid)) (Eq.refl (mI v_shire)) t_self (Eq.refl (mJ x4)) (Eq.refl x6) (Eq.refl (mI x7)) (Eq.refl (mI x8)) jlitI_1 (Eq.refl (mJ v_judge_debt)) (Eq.refl (mJ v_judge_paid)) (Eq.refl (mI v_judge_shire)) (Eq.refl (mI v_judge_term)) (Eq.refl (mL v_judge_stack)) (Eq.refl (mI v_blanched)) (jL_add (Eq.refl (mJ s1)) (Eq.refl (mJ s2)) h2))
  · refine tl_g (fun h3 => ?_)
    exact (t_pRoll_reckon_b186 (Eq.refl N) (Eq.refl (mO a1)) (Eq.refl (mI a2)) (Eq.refl (mI a3)) (Eq.refl (mD v_D)) (Eq.refl (mJ v_paid)) (Eq.refl (mI v_shire)) t_self (Eq.refl (mJ x4)) (Eq.refl x6) (Eq.refl (mI x7)) (Eq.refl (mI x8)) jlitI_1 (Eq.refl (mJ v_judge_debt)) (Eq.refl (mJ v_judge_paid)) (Eq.refl (mI v_judge_shire)) (Eq.refl (mI v_judge_term)) (Eq.refl (mL v_judge_stack)) (Eq.refl (mI v_blanched)) (jL_add (Eq.refl (mJ s1)) (Eq.refl (mJ s2)) h3))
theorem t_pRoll_reckon_b134 {N N_j : Nat} (t_N : N = N_j) {a1 : (Option Nat)} {a1_j : (Option Nat)} (t_a1 : mO a1 = a1_j) {a2 : Int32} {a2_j : Int} (t_a2 : mI a2 = a2_j) {a3 : Int32} {a3_j : Int} (t_a3 : mI a3 = a3_j) {v_D : Dyn} {v_D_j : DynI} (t_v_D : mD v_D = v_D_j) {v_paid : Int64} {v_paid_j : Int} (t_v_paid : mJ v_paid = v_paid_j) {v_shire : Int32} {v_shire_j : Int} (t_v_shire : mI v_shire = v_shire_j) {self : Int64 → Int32 → Int64 → Int64 → Int32 → Int32 → (Nat → Int64) → Int32 → Int64 → Option R_pRoll_reckon} {self_j : Int → Int → Int → Int → Int → Int → (Nat → Int) → Int → Int → Option R_iRoll_reckon} (t_self : ∀ (q0_ : Int64) (q1_ : Int32) (q2_ : Int64) (q3_ : Int64) (q4_ : Int32) (q5_ : Int32) (q6_ : (Nat → Int64)) (q7_ : Int32) (q8_ : Int64), tl (mP mJ (mP mJ (mP mJ (mP mI (mP mI (mP mL (mP mI mJ))))))) (self_j (mJ q0_) (mI q1_) (mJ q2_) (mJ q3_) (mI q4_) (mI q5_) (mL q6_) (mI q7_) (mJ q8_)) (self q0_ q1_ q2_ q3_ q4_ q5_ q6_ q7_ q8_)) {x4 : Int64} {x4_j : Int} (t_x4 : mJ x4 = x4_j) {x6 x6_j : Nat} (t_x6 : x6 = x6_j) {x7 : Int32} {x7_j : Int} (t_x7 : mI x7 = x7_j) {x8 : Int32} {x8_j : Int} (t_x8 : mI x8 = x8_j) {x9 x9_j : Nat} (t_x9 : x9 = x9_j) {s0 : Int64} {s0_j : Int} (t_s0 : mJ s0 = s0_j) {v_judge_debt : Int64} {v_judge_debt_j : Int} (t_v_judge_debt : mJ v_judge_debt = v_judge_debt_j) {v_judge_paid : Int64} {v_judge_paid_j : Int} (t_v_judge_paid : mJ v_judge_paid = v_judge_paid_j) {v_judge_shire : Int32} {v_judge_shire_j : Int} (t_v_judge_shire : mI v_judge_shire = v_judge_shire_j) {v_judge_term : Int32} {v_judge_term_j : Int} (t_v_judge_term : mI v_judge_term = v_judge_term_j) {v_judge_stack : (Nat → Int64)} {v_judge_stack_j : (Nat → Int)} (t_v_judge_stack : mL v_judge_stack = v_judge_stack_j) {v_blanched : Int32} {v_blanched_j : Int} (t_v_blanched : mI v_blanched = v_blanched_j) {v_debt : Int64} {v_debt_j : Int} (t_v_debt : mJ v_debt = v_debt_j) : tl (mP mJ (mP mJ (mP mJ (mP mI (mP mI (mP mL (mP mI mJ))))))) (iRoll_reckon_b134 N_j a1_j a2_j a3_j v_D_j v_paid_j v_shire_j self_j x4_j x6_j x7_j x8_j x9_j s0_j v_judge_debt_j v_judge_paid_j v_judge_shire_j v_judge_term_j v_judge_stack_j v_blanched_j v_debt_j) (pRoll_reckon_b134 N a1 a2 a3 v_D v_paid v_shire self x4 x6 x7 x8 x9 s0 v_judge_debt v_judge_paid v_judge_shire v_judge_term v_judge_stack v_blanched v_debt) := by
  subst t_N
  subst t_a1
  subst t_a2
  subst t_a3
  subst t_v_D
  subst t_v_paid
  subst t_v_shire
  subst t_x4
  subst t_x6
  subst t_x7
  subst t_x8
  subst t_x9
  subst t_s0
  subst t_v_judge_debt
  subst t_v_judge_paid
  subst t_v_judge_shire
  subst t_v_judge_term
  subst t_v_judge_stack
  subst t_v_blanched
  subst t_v_debt
  unfold iRoll_reckon_b134 pRoll_reckon_b134
  refine tl_ite (jc_eq (Eq.refl (mI a3)) jlitI_1) ?_ ?_
  · refine tl_g (fun h1 => ?_)
    exact (t_pRoll_reckon_b161 (Eq.refl N) (Eq.refl (mO a1)) (Eq.refl (mI a2)) (Eq.refl (mI a3)) (Eq.refl (mD v_D)) (Eq.refl (mJ v_paid)) (Eq.refl (mI v_shire)) t_self (jL_add (Eq.refl (mJ x4)) (Eq.refl (mJ s0)) h1) (Eq.refl x6) (Eq.refl (mI x7)) (Eq.refl (mI x8)) (Eq.refl x9) (Eq.refl (mJ v_debt)) (Eq.refl (mJ s0)) (Eq.refl (mJ v_judge_debt)) (Eq.refl (mJ v_judge_paid)) (Eq.refl (mI v_judge_shire)) (Eq.refl (mI v_judge_term)) (Eq.refl (mL v_judge_stack)) (Eq.refl (mI v_blanched)) (Eq.refl (mJ v_debt)))
  · refine tl_g (fun h2 => ?_)
    refine tl_g (fun h3 => ?_)
    exact (t_pRoll_reckon_b161 (Eq.refl N) (Eq.refl (mO a1)) (Eq.refl (mI a2)) (Eq.refl (mI a3)) (Eq.refl (mD v_D)) (Eq.refl (mJ v_paid)) (Eq.refl (mI v_shire)) t_self (jL_add (Eq.refl (mJ x4)) (Eq.refl (mJ s0)) h2) (Eq.refl x6) (Eq.refl (mI x7)) (Eq.refl (mI x8)) (Eq.refl x9) (Eq.refl (mJ v_debt)) (jL_neg (Eq.refl (mJ s0)) h3) (Eq.refl (mJ v_judge_debt)) (Eq.refl (mJ v_judge_paid)) (Eq.refl (mI v_judge_shire)) (Eq.refl (mI v_judge_term)) (Eq.refl (mL v_judge_stack)) (Eq.refl (mI v_blanched)) (Eq.refl (mJ v_debt)))
theorem t_pRoll_reckon_b23_F {N N_j : Nat} (t_N : N = N_j) {a1 : (Option Nat)} {a1_j : (Option Nat)} (t_a1 : mO a1 = a1_j) {a2 : Int32} {a2_j : Int} (t_a2 : mI a2 = a2_j) {a3 : Int32} {a3_j : Int} (t_a3 : mI a3 = a3_j) {v_D : Dyn} {v_D_j : DynI} (t_v_D : mD v_D = v_D_j) {v_paid : Int64} {v_paid_j : Int} (t_v_paid : mJ v_paid = v_paid_j) {v_shire : Int32} {v_shire_j : Int} (t_v_shire : mI v_shire = v_shire_j) {x6 x6_j : Nat} (t_x6 : x6 = x6_j) {x7 : Int32} {x7_j : Int} (t_x7 : mI x7 = x7_j) {self : Int64 → Int32 → Int64 → Int64 → Int32 → Int32 → (Nat → Int64) → Int32 → Int64 → Option R_pRoll_reckon} {self_j : Int → Int → Int → Int → Int → Int → (Nat → Int) → Int → Int → Option R_iRoll_reckon} (t_self : ∀ (q0_ : Int64) (q1_ : Int32) (q2_ : Int64) (q3_ : Int64) (q4_ : Int32) (q5_ : Int32) (q6_ : (Nat → Int64)) (q7_ : Int32) (q8_ : Int64), tl (mP mJ (mP mJ (mP mJ (mP mI (mP mI (mP mL (mP mI mJ))))))) (self_j (mJ q0_) (mI q1_) (mJ q2_) (mJ q3_) (mI q4_) (mI q5_) (mL q6_) (mI q7_) (mJ q8_)) (self q0_ q1_ q2_ q3_ q4_ q5_ q6_ q7_ q8_)) {x4 : Int64} {x4_j : Int} (t_x4 : mJ x4 = x4_j) {x8 : Int32} {x8_j : Int} (t_x8 : mI x8 = x8_j) {v_judge_debt : Int64} {v_judge_debt_j : Int} (t_v_judge_debt : mJ v_judge_debt = v_judge_debt_j) {v_judge_paid : Int64} {v_judge_paid_j : Int} (t_v_judge_paid : mJ v_judge_paid = v_judge_paid_j) {v_judge_shire : Int32} {v_judge_shire_j : Int} (t_v_judge_shire : mI v_judge_shire = v_judge_shire_j) {v_judge_term : Int32} {v_judge_term_j : Int} (t_v_judge_term : mI v_judge_term = v_judge_term_j) {v_judge_stack : (Nat → Int64)} {v_judge_stack_j : (Nat → Int)} (t_v_judge_stack : mL v_judge_stack = v_judge_stack_j) {v_blanched : Int32} {v_blanched_j : Int} (t_v_blanched : mI v_blanched = v_blanched_j) {v_debt : Int64} {v_debt_j : Int} (t_v_debt : mJ v_debt = v_debt_j) : tl (mP mJ (mP mJ (mP mJ (mP mI (mP mI (mP mL (mP mI mJ))))))) (iRoll_reckon_b23_F N_j a1_j a2_j a3_j v_D_j v_paid_j v_shire_j x6_j x7_j self_j x4_j x8_j v_judge_debt_j v_judge_paid_j v_judge_shire_j v_judge_term_j v_judge_stack_j v_blanched_j v_debt_j) (pRoll_reckon_b23_F N a1 a2 a3 v_D v_paid v_shire x6 x7 self x4 x8 v_judge_debt v_judge_paid v_judge_shire v_judge_term v_judge_stack v_blanched v_debt) := by
  subst t_N
  subst t_a1
  subst t_a2
  subst t_a3
  subst t_v_D
  subst t_v_paid
  subst t_v_shire
  subst t_x6
  subst t_x7
  subst t_x4
  subst t_x8
  subst t_v_judge_debt
  subst t_v_judge_paid
  subst t_v_judge_shire
  subst t_v_judge_term
  subst t_v_judge_stack
  subst t_v_blanched
  subst t_v_debt
  unfold iRoll_reckon_b23_F pRoll_reckon_b23_F
  refine tl_ite (jc_le (Eq.refl (mI x7)) (Eq.refl (mI x8))) ?_ ?_
  · exact (tl_some (jp2 (Eq.refl (mJ x4)) (jp2 (Eq.refl (mJ v_judge_debt)) (jp2 (Eq.refl (mJ v_judge_paid)) (jp2 (Eq.refl (mI v_judge_shire)) (jp2 (Eq.refl (mI v_judge_term)) (jp2 (Eq.refl (mL v_judge_stack)) (jp2 (Eq.refl (mI v_blanched)) (Eq.refl (mJ v_debt))))))))))
  · refine tl_bd1 (jt_AR (Eq.refl (mD v_D)) (Eq.refl (mI x8))) (fun d5 => ?_)
    refine tl_bd1 tl_rfl (fun y6 => ?_)
    refine tl_bd1 (jt_GI (Eq.refl (mD v_D))) (fun d7 => ?_)
    refine tl_ite (jc_eq (Eq.refl (mI d7)) (Eq.refl (mI a3))) ?_ ?_
    · refine tl_bd4 (t_pJudge_setMoment (Eq.refl (mI v_shire)) (Eq.refl (mI a2)) (Eq.refl (mJ v_debt)) (Eq.refl (mJ v_paid)) (Eq.refl (mJ v_judge_debt)) (Eq.refl (mJ v_judge_paid)) (Eq.refl (mI v_judge_shire)) (Eq.refl (mI v_judge_term))) (fun v_judge_debt_c8 v_judge_paid_c8 v_judge_shire_c8 v_judge_term_c8 => ?_)
      refine tl_bd1 tl_rfl (fun y9 => ?_)
      refine tl_bd1 (jt_GR (Eq.refl (mD v_D))) (fun d10 => ?_)
      refine tl_bd1 (jt_GI (Eq.refl (mD v_D))) (fun d11 => ?_)
      refine tl_bd1 (jt_GI (Eq.refl (mD v_D))) (fun d12 => ?_)
      refine tl_bd2 (t_pJudge_valueOf (Eq.refl N) (Eq.refl (mO d10)) (Eq.refl (mI d11)) (Eq.refl (mI d12)) (Eq.refl (mD v_D)) (Eq.refl (mJ v_judge_debt_c8)) (Eq.refl (mJ v_judge_paid_c8)) (Eq.refl (mI v_judge_shire_c8)) (Eq.refl (mI v_judge_term_c8)) (Eq.refl (mL v_judge_stack))) (fun rc13 v_judge_stack_c13 => ?_)
      refine tl_ite (jk_eq (Eq.refl (mJ rc13)) jlitJ_0) ?_ ?_
      · refine tl_g (fun h1 => ?_)
        exact (tl_e9 (Eq.refl (mJ x4)) (ja_add (Eq.refl (mI x8)) jlitI_1 h1) (Eq.refl (mJ v_judge_debt_c8)) (Eq.refl (mJ v_judge_paid_c8)) (Eq.refl (mI v_judge_shire_c8)) (Eq.refl (mI v_judge_term_c8)) (Eq.refl (mL v_judge_stack_c13)) (Eq.refl (mI v_blanched)) (Eq.refl (mJ v_debt)) (t_self _ _ _ _ _ _ _ _ _))
      · refine tl_ite (jc_eq (Eq.refl (mI a3)) jlitI_3) ?_ ?_
        · refine tl_bd1 (t_pRoll_pardoned (congrArg some (Eq.refl y6)) (Eq.refl (mD v_D)) (Eq.refl (mJ v_debt))) (fun rc18 => ?_)
          exact (t_pRoll_reckon_b134 (Eq.refl N) (Eq.refl (mO a1)) (Eq.refl (mI a2)) (Eq.refl (mI a3)) (Eq.refl (mD v_D)) (Eq.refl (mJ v_paid)) (Eq.refl (mI v_shire)) t_self (Eq.refl (mJ x4)) (Eq.refl x6) (Eq.refl (mI x7)) (Eq.refl (mI x8)) (Eq.refl y6) (Eq.refl (mJ rc18)) (Eq.refl (mJ v_judge_debt_c8)) (Eq.refl (mJ v_judge_paid_c8)) (Eq.refl (mI v_judge_shire_c8)) (Eq.refl (mI v_judge_term_c8)) (Eq.refl (mL v_judge_stack_c13)) (Eq.refl (mI v_blanched)) (Eq.refl (mJ v_debt)))
        · refine tl_bd1 (jt_GR (Eq.refl (mD v_D))) (fun d14 => ?_)
          refine tl_bd1 (jt_GI (Eq.refl (mD v_D))) (fun d15 => ?_)
          refine tl_bd1 (jt_GI (Eq.refl (mD v_D))) (fun d16 => ?_)
          refine tl_bd2 (t_pJudge_valueOf (Eq.refl N) (Eq.refl (mO d14)) (Eq.refl (mI d15)) (Eq.refl (mI d16)) (Eq.refl (mD v_D)) (Eq.refl (mJ v_judge_debt_c8)) (Eq.refl (mJ v_judge_paid_c8)) (Eq.refl (mI v_judge_shire_c8)) (Eq.refl (mI v_judge_term_c8)) (Eq.refl (mL v_judge_stack_c13))) (fun rc17 v_judge_stack_c17 => ?_)
          exact (t_pRoll_reckon_b134 (Eq.refl N) (Eq.refl (mO a1)) (Eq.refl (mI a2)) (Eq.refl (mI a3)) (Eq.refl (mD v_D)) (Eq.refl (mJ v_paid)) (Eq.refl (mI v_shire)) t_self (Eq.refl (mJ x4)) (Eq.refl x6) (Eq.refl (mI x7)) (Eq.refl (mI x8)) (Eq.refl y6) (jL_max jlitJ_0 (Eq.refl (mJ rc17))) (Eq.refl (mJ v_judge_debt_c8)) (Eq.refl (mJ v_judge_paid_c8)) (Eq.refl (mI v_judge_shire_c8)) (Eq.refl (mI v_judge_term_c8)) (Eq.refl (mL v_judge_stack_c17)) (Eq.refl (mI v_blanched)) (Eq.refl (mJ v_debt)))
    · refine tl_g (fun h2 => ?_)
      exact (tl_e9 (Eq.refl (mJ x4)) (ja_add (Eq.refl (mI x8)) jlitI_1 h2) (Eq.refl (mJ v_judge_debt)) (Eq.refl (mJ v_judge_paid)) (Eq.refl (mI v_judge_shire)) (Eq.refl (mI v_judge_term)) (Eq.refl (mL v_judge_stack)) (Eq.refl (mI v_blanched)) (Eq.refl (mJ v_debt)) (t_self _ _ _ _ _ _ _ _ _))
theorem t_pRoll_reckon_b23 {N N_j : Nat} (t_N : N = N_j) {a1 : (Option Nat)} {a1_j : (Option Nat)} (t_a1 : mO a1 = a1_j) {a2 : Int32} {a2_j : Int} (t_a2 : mI a2 = a2_j) {a3 : Int32} {a3_j : Int} (t_a3 : mI a3 = a3_j) {v_D : Dyn} {v_D_j : DynI} (t_v_D : mD v_D = v_D_j) {v_paid : Int64} {v_paid_j : Int} (t_v_paid : mJ v_paid = v_paid_j) {v_shire : Int32} {v_shire_j : Int} (t_v_shire : mI v_shire = v_shire_j) {x6 x6_j : Nat} (t_x6 : x6 = x6_j) {x7 : Int32} {x7_j : Int} (t_x7 : mI x7 = x7_j) {n n_j : Nat} (t_n : n = n_j) {w0_ : Int64} {w0__j : Int} (t_w0_ : mJ w0_ = w0__j) {w1_ : Int32} {w1__j : Int} (t_w1_ : mI w1_ = w1__j) {w2_ : Int64} {w2__j : Int} (t_w2_ : mJ w2_ = w2__j) {w3_ : Int64} {w3__j : Int} (t_w3_ : mJ w3_ = w3__j) {w4_ : Int32} {w4__j : Int} (t_w4_ : mI w4_ = w4__j) {w5_ : Int32} {w5__j : Int} (t_w5_ : mI w5_ = w5__j) {w6_ : (Nat → Int64)} {w6__j : (Nat → Int)} (t_w6_ : mL w6_ = w6__j) {w7_ : Int32} {w7__j : Int} (t_w7_ : mI w7_ = w7__j) {w8_ : Int64} {w8__j : Int} (t_w8_ : mJ w8_ = w8__j) : tl (mP mJ (mP mJ (mP mJ (mP mI (mP mI (mP mL (mP mI mJ))))))) (iRoll_reckon_b23 N_j a1_j a2_j a3_j v_D_j v_paid_j v_shire_j x6_j x7_j n_j w0__j w1__j w2__j w3__j w4__j w5__j w6__j w7__j w8__j) (pRoll_reckon_b23 N a1 a2 a3 v_D v_paid v_shire x6 x7 n w0_ w1_ w2_ w3_ w4_ w5_ w6_ w7_ w8_) := by
  subst t_N
  subst t_a1
  subst t_a2
  subst t_a3
  subst t_v_D
  subst t_v_paid
  subst t_v_shire
  subst t_x6
  subst t_x7
  subst t_n
  subst t_w0_
  subst t_w1_
  subst t_w2_
  subst t_w3_
  subst t_w4_
  subst t_w5_
  subst t_w6_
  subst t_w7_
  subst t_w8_
  exact tl_zlp9 (fun s2 s hs w0_ w1_ w2_ w3_ w4_ w5_ w6_ w7_ w8_ => t_pRoll_reckon_b23_F (Eq.refl N) (Eq.refl (mO a1)) (Eq.refl (mI a2)) (Eq.refl (mI a3)) (Eq.refl (mD v_D)) (Eq.refl (mJ v_paid)) (Eq.refl (mI v_shire)) (Eq.refl x6) (Eq.refl (mI x7)) hs (Eq.refl (mJ w0_)) (Eq.refl (mI w1_)) (Eq.refl (mJ w2_)) (Eq.refl (mJ w3_)) (Eq.refl (mI w4_)) (Eq.refl (mI w5_)) (Eq.refl (mL w6_)) (Eq.refl (mI w7_)) (Eq.refl (mJ w8_))) n w0_ w1_ w2_ w3_ w4_ w5_ w6_ w7_ w8_
theorem t_pRoll_reckon {N N_j : Nat} (t_N : N = N_j) {a1 : (Option Nat)} {a1_j : (Option Nat)} (t_a1 : mO a1 = a1_j) {a2 : Int32} {a2_j : Int} (t_a2 : mI a2 = a2_j) {a3 : Int32} {a3_j : Int} (t_a3 : mI a3 = a3_j) {v_D : Dyn} {v_D_j : DynI} (t_v_D : mD v_D = v_D_j) {v_judge_debt : Int64} {v_judge_debt_j : Int} (t_v_judge_debt : mJ v_judge_debt = v_judge_debt_j) {v_judge_paid : Int64} {v_judge_paid_j : Int} (t_v_judge_paid : mJ v_judge_paid = v_judge_paid_j) {v_judge_shire : Int32} {v_judge_shire_j : Int} (t_v_judge_shire : mI v_judge_shire = v_judge_shire_j) {v_judge_term : Int32} {v_judge_term_j : Int} (t_v_judge_term : mI v_judge_term = v_judge_term_j) {v_judge_stack : (Nat → Int64)} {v_judge_stack_j : (Nat → Int)} (t_v_judge_stack : mL v_judge_stack = v_judge_stack_j) {v_blanched : Int32} {v_blanched_j : Int} (t_v_blanched : mI v_blanched = v_blanched_j) {v_debt : Int64} {v_debt_j : Int} (t_v_debt : mJ v_debt = v_debt_j) {v_paid : Int64} {v_paid_j : Int} (t_v_paid : mJ v_paid = v_paid_j) {v_shire : Int32} {v_shire_j : Int} (t_v_shire : mI v_shire = v_shire_j) : tl (mP mJ (mP mJ (mP mJ (mP mI (mP mI (mP mL (mP mI mJ))))))) (iRoll_reckon N_j a1_j a2_j a3_j v_D_j v_judge_debt_j v_judge_paid_j v_judge_shire_j v_judge_term_j v_judge_stack_j v_blanched_j v_debt_j v_paid_j v_shire_j) (pRoll_reckon N a1 a2 a3 v_D v_judge_debt v_judge_paid v_judge_shire v_judge_term v_judge_stack v_blanched v_debt v_paid v_shire) := by
  subst t_N
  subst t_a1
  subst t_a2
  subst t_a3
  subst t_v_D
  subst t_v_judge_debt
  subst t_v_judge_paid
  subst t_v_judge_shire
  subst t_v_judge_term
  subst t_v_judge_stack
  subst t_v_blanched
  subst t_v_debt
  subst t_v_paid
  subst t_v_shire
  unfold iRoll_reckon pRoll_reckon
  refine tl_opn ?_ (fun y1 => ?_)
  · exact (tl_some (jp2 jlitJ_0 (jp2 (Eq.refl (mJ v_judge_debt)) (jp2 (Eq.refl (mJ v_judge_paid)) (jp2 (Eq.refl (mI v_judge_shire)) (jp2 (Eq.refl (mI v_judge_term)) (jp2 (Eq.refl (mL v_judge_stack)) (jp2 (Eq.refl (mI v_blanched)) (Eq.refl (mJ v_debt))))))))))
  · refine tl_bd1 (jt_GR (Eq.refl (mD v_D))) (fun d2 => ?_)
    refine tl_bd1 tl_rfl (fun y3 => ?_)
    refine tl_bd1 (jt_Len (Eq.refl (mD v_D))) (fun n4 => ?_)
    refine tl_g (fun h1 => ?_)
    exact (t_pRoll_reckon_b23 (Eq.refl N) (Eq.refl (mO a1)) (Eq.refl (mI a2)) (Eq.refl (mI a3)) (Eq.refl (mD v_D)) (Eq.refl (mJ v_paid)) (Eq.refl (mI v_shire)) (Eq.refl y3) (ja_of h1) (Eq.refl N) jlitJ_0 jlitI_0 (Eq.refl (mJ v_judge_debt)) (Eq.refl (mJ v_judge_paid)) (Eq.refl (mI v_judge_shire)) (Eq.refl (mI v_judge_term)) (Eq.refl (mL v_judge_stack)) (Eq.refl (mI v_blanched)) (Eq.refl (mJ v_debt)))
theorem t_pRoll_worthOf {a1 : Int32} {a1_j : Int} (t_a1 : mI a1 = a1_j) {a2 : Int32} {a2_j : Int} (t_a2 : mI a2 = a2_j) {v_acts_amounts : (Nat → Int32)} {v_acts_amounts_j : (Nat → Int)} (t_v_acts_amounts : mA v_acts_amounts = v_acts_amounts_j) {v_acts_kinds : (Nat → Int32)} {v_acts_kinds_j : (Nat → Int)} (t_v_acts_kinds : mA v_acts_kinds = v_acts_kinds_j) {v_chest_goodWorths : (Nat → Int32)} {v_chest_goodWorths_j : (Nat → Int)} (t_v_chest_goodWorths : mA v_chest_goodWorths = v_chest_goodWorths_j) {v_known_fires : (Nat → Int32)} {v_known_fires_j : (Nat → Int)} (t_v_known_fires : mA v_known_fires = v_known_fires_j) {v_blanched : Int32} {v_blanched_j : Int} (t_v_blanched : mI v_blanched = v_blanched_j) : tl (mJ) (iRoll_worthOf a1_j a2_j v_acts_amounts_j v_acts_kinds_j v_chest_goodWorths_j v_known_fires_j v_blanched_j) (pRoll_worthOf a1 a2 v_acts_amounts v_acts_kinds v_chest_goodWorths v_known_fires v_blanched) := by
  subst t_a1
  subst t_a2
  subst t_v_acts_amounts
  subst t_v_acts_kinds
  subst t_v_chest_goodWorths
  subst t_v_known_fires
  subst t_v_blanched
  unfold iRoll_worthOf pRoll_worthOf
  refine tl_gd (jg_ib (Eq.refl (mI a1))) (fun _ => ?_)
  refine tl_ite (jc_eq (jrd (Eq.refl (mA v_acts_kinds)) (jx (Eq.refl (mI a1)))) jlitI_3) ?_ ?_
  · refine tl_bd1 (t_pChest_goodWorth (jrd (Eq.refl (mA v_acts_amounts)) (jx (Eq.refl (mI a1)))) (Eq.refl (mA v_chest_goodWorths))) (fun rc3 => ?_)
    exact (tl_some (ja_i2l (Eq.refl (mI rc3))))
  · refine tl_ite (jc_eq (Eq.refl (mI v_blanched)) jlitI_0) ?_ ?_
    · exact (tl_some (ja_i2l (jrd (Eq.refl (mA v_acts_amounts)) (jx (Eq.refl (mI a1))))))
    · refine tl_bd1 (t_pKnown_fireOf (Eq.refl (mI a2)) (Eq.refl (mA v_acts_amounts)) (Eq.refl (mA v_known_fires))) (fun rc2 => ?_)
      refine tl_g (fun h1 => ?_)
      refine tl_g (fun h2 => ?_)
      refine tl_g (fun h3 => ?_)
      exact (tl_some (jL_sub (ja_i2l (jrd (Eq.refl (mA v_acts_amounts)) (jx (Eq.refl (mI a1))))) (jL_div (jL_mul (ja_i2l (jrd (Eq.refl (mA v_acts_amounts)) (jx (Eq.refl (mI a1))))) (ja_i2l (Eq.refl (mI rc2))) h1) jlitJ_240 h2) h3))
theorem t_pRoll_takeIn_b60 {N N_j : Nat} (t_N : N = N_j) {a1 : Int32} {a1_j : Int} (t_a1 : mI a1 = a1_j) {v_acts_count : Int32} {v_acts_count_j : Int} (t_v_acts_count : mI v_acts_count = v_acts_count_j) {v_acts_amounts : (Nat → Int32)} {v_acts_amounts_j : (Nat → Int)} (t_v_acts_amounts : mA v_acts_amounts = v_acts_amounts_j) {v_acts_kinds : (Nat → Int32)} {v_acts_kinds_j : (Nat → Int)} (t_v_acts_kinds : mA v_acts_kinds = v_acts_kinds_j) {v_acts_shires : (Nat → Int32)} {v_acts_shires_j : (Nat → Int)} (t_v_acts_shires : mA v_acts_shires = v_acts_shires_j) {v_chest_goodWorths : (Nat → Int32)} {v_chest_goodWorths_j : (Nat → Int)} (t_v_chest_goodWorths : mA v_chest_goodWorths = v_chest_goodWorths_j) {v_known_fires : (Nat → Int32)} {v_known_fires_j : (Nat → Int)} (t_v_known_fires : mA v_known_fires = v_known_fires_j) {v_known_firstPayments : (Nat → Int32)} {v_known_firstPayments_j : (Nat → Int)} (t_v_known_firstPayments : mA v_known_firstPayments = v_known_firstPayments_j) {v_known_nextPayments : (Nat → Int32)} {v_known_nextPayments_j : (Nat → Int)} (t_v_known_nextPayments : mA v_known_nextPayments = v_known_nextPayments_j) {v_blanched : Int32} {v_blanched_j : Int} (t_v_blanched : mI v_blanched = v_blanched_j) {v_shire : Int32} {v_shire_j : Int} (t_v_shire : mI v_shire = v_shire_j) {self : Int32 → Int32 → Int64 → Option R_pRoll_takeIn} {self_j : Int → Int → Int → Option R_iRoll_takeIn} (t_self : ∀ (q0_ : Int32) (q1_ : Int32) (q2_ : Int64), tl (mP mJ mJ) (self_j (mI q0_) (mI q1_) (mJ q2_)) (self q0_ q1_ q2_)) {k75 : Int64 → Option R_pRoll_takeIn} {k75_j : Int → Option R_iRoll_takeIn} (t_k75 : ∀ (q0_ : Int64), tl (mP mJ mJ) (k75_j (mJ q0_)) (k75 q0_)) {x2 : Int32} {x2_j : Int} (t_x2 : mI x2 = x2_j) {x3 : Int32} {x3_j : Int} (t_x3 : mI x3 = x3_j) {v_debt : Int64} {v_debt_j : Int} (t_v_debt : mJ v_debt = v_debt_j) {v_paid : Int64} {v_paid_j : Int} (t_v_paid : mJ v_paid = v_paid_j) : tl (mP mJ mJ) (iRoll_takeIn_b60 N_j a1_j v_acts_count_j v_acts_amounts_j v_acts_kinds_j v_acts_shires_j v_chest_goodWorths_j v_known_fires_j v_known_firstPayments_j v_known_nextPayments_j v_blanched_j v_shire_j self_j k75_j x2_j x3_j v_debt_j v_paid_j) (pRoll_takeIn_b60 N a1 v_acts_count v_acts_amounts v_acts_kinds v_acts_shires v_chest_goodWorths v_known_fires v_known_firstPayments v_known_nextPayments v_blanched v_shire self k75 x2 x3 v_debt v_paid) := by
  subst t_N
  subst t_a1
  subst t_v_acts_count
  subst t_v_acts_amounts
  subst t_v_acts_kinds
  subst t_v_acts_shires
  subst t_v_chest_goodWorths
  subst t_v_known_fires
  subst t_v_known_firstPayments
  subst t_v_known_nextPayments
  subst t_v_blanched
  subst t_v_shire
  subst t_x2
  subst t_x3
  subst t_v_debt
  subst t_v_paid
  unfold iRoll_takeIn_b60 pRoll_takeIn_b60
  refine tl_bd1 (t_pKnown_nextPayment (Eq.refl (mI x2)) (Eq.refl (mA v_known_nextPayments))) (fun rc5 => ?_)
  refine tl_g (fun h1 => ?_)
  exact (tl_e3 (Eq.refl (mI rc5)) (ja_add (Eq.refl (mI x3)) jlitI_1 h1) (Eq.refl (mJ v_paid)) (t_self _ _ _))
theorem t_pRoll_takeIn_b11_F {N N_j : Nat} (t_N : N = N_j) {a1 : Int32} {a1_j : Int} (t_a1 : mI a1 = a1_j) {v_acts_count : Int32} {v_acts_count_j : Int} (t_v_acts_count : mI v_acts_count = v_acts_count_j) {v_acts_amounts : (Nat → Int32)} {v_acts_amounts_j : (Nat → Int)} (t_v_acts_amounts : mA v_acts_amounts = v_acts_amounts_j) {v_acts_kinds : (Nat → Int32)} {v_acts_kinds_j : (Nat → Int)} (t_v_acts_kinds : mA v_acts_kinds = v_acts_kinds_j) {v_acts_shires : (Nat → Int32)} {v_acts_shires_j : (Nat → Int)} (t_v_acts_shires : mA v_acts_shires = v_acts_shires_j) {v_chest_goodWorths : (Nat → Int32)} {v_chest_goodWorths_j : (Nat → Int)} (t_v_chest_goodWorths : mA v_chest_goodWorths = v_chest_goodWorths_j) {v_known_fires : (Nat → Int32)} {v_known_fires_j : (Nat → Int)} (t_v_known_fires : mA v_known_fires = v_known_fires_j) {v_known_firstPayments : (Nat → Int32)} {v_known_firstPayments_j : (Nat → Int)} (t_v_known_firstPayments : mA v_known_firstPayments = v_known_firstPayments_j) {v_known_nextPayments : (Nat → Int32)} {v_known_nextPayments_j : (Nat → Int)} (t_v_known_nextPayments : mA v_known_nextPayments = v_known_nextPayments_j) {v_blanched : Int32} {v_blanched_j : Int} (t_v_blanched : mI v_blanched = v_blanched_j) {v_shire : Int32} {v_shire_j : Int} (t_v_shire : mI v_shire = v_shire_j) {v_debt : Int64} {v_debt_j : Int} (t_v_debt : mJ v_debt = v_debt_j) {k75 : Int64 → Option R_pRoll_takeIn} {k75_j : Int → Option R_iRoll_takeIn} (t_k75 : ∀ (q0_ : Int64), tl (mP mJ mJ) (k75_j (mJ q0_)) (k75 q0_)) {self : Int32 → Int32 → Int64 → Option R_pRoll_takeIn} {self_j : Int → Int → Int → Option R_iRoll_takeIn} (t_self : ∀ (q0_ : Int32) (q1_ : Int32) (q2_ : Int64), tl (mP mJ mJ) (self_j (mI q0_) (mI q1_) (mJ q2_)) (self q0_ q1_ q2_)) {x2 : Int32} {x2_j : Int} (t_x2 : mI x2 = x2_j) {x3 : Int32} {x3_j : Int} (t_x3 : mI x3 = x3_j) {v_paid : Int64} {v_paid_j : Int} (t_v_paid : mJ v_paid = v_paid_j) : tl (mP mJ mJ) (iRoll_takeIn_b11_F N_j a1_j v_acts_count_j v_acts_amounts_j v_acts_kinds_j v_acts_shires_j v_chest_goodWorths_j v_known_fires_j v_known_firstPayments_j v_known_nextPayments_j v_blanched_j v_shire_j v_debt_j k75_j self_j x2_j x3_j v_paid_j) (pRoll_takeIn_b11_F N a1 v_acts_count v_acts_amounts v_acts_kinds v_acts_shires v_chest_goodWorths v_known_fires v_known_firstPayments v_known_nextPayments v_blanched v_shire v_debt k75 self x2 x3 v_paid) := by
  subst t_N
  subst t_a1
  subst t_v_acts_count
  subst t_v_acts_amounts
  subst t_v_acts_kinds
  subst t_v_acts_shires
  subst t_v_chest_goodWorths
  subst t_v_known_fires
  subst t_v_known_firstPayments
  subst t_v_known_nextPayments
  subst t_v_blanched
  subst t_v_shire
  subst t_v_debt
  subst t_x2
  subst t_x3
  subst t_v_paid
  unfold iRoll_takeIn_b11_F pRoll_takeIn_b11_F
  refine tl_ite (jc_le jlitI_200 (Eq.refl (mI x3))) ?_ ?_
  · exact (tl_e1 (Eq.refl (mJ v_paid)) (t_k75 _))
  · refine tl_bd1 (t_pActs_isPayment (Eq.refl (mI x2)) (Eq.refl (mI v_acts_count)) (Eq.refl (mA v_acts_kinds))) (fun rc2 => ?_)
    refine tl_ite (jc_eq (Eq.refl (mI rc2)) jlitI_0) ?_ ?_
    · exact (tl_e1 (Eq.refl (mJ v_paid)) (t_k75 _))
    · refine tl_gd (jg_ib (Eq.refl (mI x2))) (fun _ => ?_)
      refine tl_ite (jc_eq (jrd (Eq.refl (mA v_acts_shires)) (jx (Eq.refl (mI x2)))) (Eq.refl (mI v_shire))) ?_ ?_
      · refine tl_bd1 (t_pRoll_worthOf (Eq.refl (mI x2)) (Eq.refl (mI a1)) (Eq.refl (mA v_acts_amounts)) (Eq.refl (mA v_acts_kinds)) (Eq.refl (mA v_chest_goodWorths)) (Eq.refl (mA v_known_fires)) (Eq.refl (mI v_blanched))) (fun rc4 => ?_)
        refine tl_g (fun h1 => ?_)
        exact (t_pRoll_takeIn_b60 (Eq.refl N) (Eq.refl (mI a1)) (Eq.refl (mI v_acts_count)) (Eq.refl (mA v_acts_amounts)) (Eq.refl (mA v_acts_kinds)) (Eq.refl (mA v_acts_shires)) (Eq.refl (mA v_chest_goodWorths)) (Eq.refl (mA v_known_fires)) (Eq.refl (mA v_known_firstPayments)) (Eq.refl (mA v_known_nextPayments)) (Eq.refl (mI v_blanched)) (Eq.refl (mI v_shire)) t_self t_k75 (Eq.refl (mI x2)) (Eq.refl (mI x3)) (Eq.refl (mJ v_debt)) (jL_add (Eq.refl (mJ v_paid)) (Eq.refl (mJ rc4)) h1))
      · exact (t_pRoll_takeIn_b60 (Eq.refl N) (Eq.refl (mI a1)) (Eq.refl (mI v_acts_count)) (Eq.refl (mA v_acts_amounts)) (Eq.refl (mA v_acts_kinds)) (Eq.refl (mA v_acts_shires)) (Eq.refl (mA v_chest_goodWorths)) (Eq.refl (mA v_known_fires)) (Eq.refl (mA v_known_firstPayments)) (Eq.refl (mA v_known_nextPayments)) (Eq.refl (mI v_blanched)) (Eq.refl (mI v_shire)) t_self t_k75 (Eq.refl (mI x2)) (Eq.refl (mI x3)) (Eq.refl (mJ v_debt)) (Eq.refl (mJ v_paid)))
theorem t_pRoll_takeIn_b11 {N N_j : Nat} (t_N : N = N_j) {a1 : Int32} {a1_j : Int} (t_a1 : mI a1 = a1_j) {v_acts_count : Int32} {v_acts_count_j : Int} (t_v_acts_count : mI v_acts_count = v_acts_count_j) {v_acts_amounts : (Nat → Int32)} {v_acts_amounts_j : (Nat → Int)} (t_v_acts_amounts : mA v_acts_amounts = v_acts_amounts_j) {v_acts_kinds : (Nat → Int32)} {v_acts_kinds_j : (Nat → Int)} (t_v_acts_kinds : mA v_acts_kinds = v_acts_kinds_j) {v_acts_shires : (Nat → Int32)} {v_acts_shires_j : (Nat → Int)} (t_v_acts_shires : mA v_acts_shires = v_acts_shires_j) {v_chest_goodWorths : (Nat → Int32)} {v_chest_goodWorths_j : (Nat → Int)} (t_v_chest_goodWorths : mA v_chest_goodWorths = v_chest_goodWorths_j) {v_known_fires : (Nat → Int32)} {v_known_fires_j : (Nat → Int)} (t_v_known_fires : mA v_known_fires = v_known_fires_j) {v_known_firstPayments : (Nat → Int32)} {v_known_firstPayments_j : (Nat → Int)} (t_v_known_firstPayments : mA v_known_firstPayments = v_known_firstPayments_j) {v_known_nextPayments : (Nat → Int32)} {v_known_nextPayments_j : (Nat → Int)} (t_v_known_nextPayments : mA v_known_nextPayments = v_known_nextPayments_j) {v_blanched : Int32} {v_blanched_j : Int} (t_v_blanched : mI v_blanched = v_blanched_j) {v_shire : Int32} {v_shire_j : Int} (t_v_shire : mI v_shire = v_shire_j) {v_debt : Int64} {v_debt_j : Int} (t_v_debt : mJ v_debt = v_debt_j) {k75 : Int64 → Option R_pRoll_takeIn} {k75_j : Int → Option R_iRoll_takeIn} (t_k75 : ∀ (q0_ : Int64), tl (mP mJ mJ) (k75_j (mJ q0_)) (k75 q0_)) {n n_j : Nat} (t_n : n = n_j) {w0_ : Int32} {w0__j : Int} (t_w0_ : mI w0_ = w0__j) {w1_ : Int32} {w1__j : Int} (t_w1_ : mI w1_ = w1__j) {w2_ : Int64} {w2__j : Int} (t_w2_ : mJ w2_ = w2__j) : tl (mP mJ mJ) (iRoll_takeIn_b11 N_j a1_j v_acts_count_j v_acts_amounts_j v_acts_kinds_j v_acts_shires_j v_chest_goodWorths_j v_known_fires_j v_known_firstPayments_j v_known_nextPayments_j v_blanched_j v_shire_j v_debt_j k75_j n_j w0__j w1__j w2__j) (pRoll_takeIn_b11 N a1 v_acts_count v_acts_amounts v_acts_kinds v_acts_shires v_chest_goodWorths v_known_fires v_known_firstPayments v_known_nextPayments v_blanched v_shire v_debt k75 n w0_ w1_ w2_) := by
  subst t_N
  subst t_a1
  subst t_v_acts_count
  subst t_v_acts_amounts
  subst t_v_acts_kinds
  subst t_v_acts_shires
  subst t_v_chest_goodWorths
  subst t_v_known_fires
  subst t_v_known_firstPayments
  subst t_v_known_nextPayments
  subst t_v_blanched
  subst t_v_shire
  subst t_v_debt
  subst t_n
  subst t_w0_
  subst t_w1_
  subst t_w2_
  exact tl_zlp3 (fun s2 s hs w0_ w1_ w2_ => t_pRoll_takeIn_b11_F (Eq.refl N) (Eq.refl (mI a1)) (Eq.refl (mI v_acts_count)) (Eq.refl (mA v_acts_amounts)) (Eq.refl (mA v_acts_kinds)) (Eq.refl (mA v_acts_shires)) (Eq.refl (mA v_chest_goodWorths)) (Eq.refl (mA v_known_fires)) (Eq.refl (mA v_known_firstPayments)) (Eq.refl (mA v_known_nextPayments)) (Eq.refl (mI v_blanched)) (Eq.refl (mI v_shire)) (Eq.refl (mJ v_debt)) t_k75 hs (Eq.refl (mI w0_)) (Eq.refl (mI w1_)) (Eq.refl (mJ w2_))) n w0_ w1_ w2_
theorem t_pRoll_takeIn_b75 {N N_j : Nat} (t_N : N = N_j) {a1 : Int32} {a1_j : Int} (t_a1 : mI a1 = a1_j) {v_acts_count : Int32} {v_acts_count_j : Int} (t_v_acts_count : mI v_acts_count = v_acts_count_j) {v_acts_amounts : (Nat → Int32)} {v_acts_amounts_j : (Nat → Int)} (t_v_acts_amounts : mA v_acts_amounts = v_acts_amounts_j) {v_acts_kinds : (Nat → Int32)} {v_acts_kinds_j : (Nat → Int)} (t_v_acts_kinds : mA v_acts_kinds = v_acts_kinds_j) {v_acts_shires : (Nat → Int32)} {v_acts_shires_j : (Nat → Int)} (t_v_acts_shires : mA v_acts_shires = v_acts_shires_j) {v_chest_goodWorths : (Nat → Int32)} {v_chest_goodWorths_j : (Nat → Int)} (t_v_chest_goodWorths : mA v_chest_goodWorths = v_chest_goodWorths_j) {v_known_fires : (Nat → Int32)} {v_known_fires_j : (Nat → Int)} (t_v_known_fires : mA v_known_fires = v_known_fires_j) {v_known_firstPayments : (Nat → Int32)} {v_known_firstPayments_j : (Nat → Int)} (t_v_known_firstPayments : mA v_known_firstPayments = v_known_firstPayments_j) {v_known_nextPayments : (Nat → Int32)} {v_known_nextPayments_j : (Nat → Int)} (t_v_known_nextPayments : mA v_known_nextPayments = v_known_nextPayments_j) {v_blanched : Int32} {v_blanched_j : Int} (t_v_blanched : mI v_blanched = v_blanched_j) {v_shire : Int32} {v_shire_j : Int} (t_v_shire : mI v_shire = v_shire_j) {v_debt : Int64} {v_debt_j : Int} (t_v_debt : mJ v_debt = v_debt_j) {v_paid : Int64} {v_paid_j : Int} (t_v_paid : mJ v_paid = v_paid_j) : tl (mP mJ mJ) (iRoll_takeIn_b75 N_j a1_j v_acts_count_j v_acts_amounts_j v_acts_kinds_j v_acts_shires_j v_chest_goodWorths_j v_known_fires_j v_known_firstPayments_j v_known_nextPayments_j v_blanched_j v_shire_j v_debt_j v_paid_j) (pRoll_takeIn_b75 N a1 v_acts_count v_acts_amounts v_acts_kinds v_acts_shires v_chest_goodWorths v_known_fires v_known_firstPayments v_known_nextPayments v_blanched v_shire v_debt v_paid) := by
  subst t_N
  subst t_a1
  subst t_v_acts_count
  subst t_v_acts_amounts
  subst t_v_acts_kinds
  subst t_v_acts_shires
  subst t_v_chest_goodWorths
  subst t_v_known_fires
  subst t_v_known_firstPayments
  subst t_v_known_nextPayments
  subst t_v_blanched
  subst t_v_shire
  subst t_v_debt
  subst t_v_paid
  unfold iRoll_takeIn_b75 pRoll_takeIn_b75
  refine tl_g (fun h1 => ?_)
  exact (tl_some (jp2 (jL_sub (Eq.refl (mJ v_debt)) (Eq.refl (mJ v_paid)) h1) (Eq.refl (mJ v_paid))))
theorem t_pRoll_takeIn {N N_j : Nat} (t_N : N = N_j) {a1 : Int32} {a1_j : Int} (t_a1 : mI a1 = a1_j) {v_acts_count : Int32} {v_acts_count_j : Int} (t_v_acts_count : mI v_acts_count = v_acts_count_j) {v_acts_amounts : (Nat → Int32)} {v_acts_amounts_j : (Nat → Int)} (t_v_acts_amounts : mA v_acts_amounts = v_acts_amounts_j) {v_acts_kinds : (Nat → Int32)} {v_acts_kinds_j : (Nat → Int)} (t_v_acts_kinds : mA v_acts_kinds = v_acts_kinds_j) {v_acts_shires : (Nat → Int32)} {v_acts_shires_j : (Nat → Int)} (t_v_acts_shires : mA v_acts_shires = v_acts_shires_j) {v_chest_goodWorths : (Nat → Int32)} {v_chest_goodWorths_j : (Nat → Int)} (t_v_chest_goodWorths : mA v_chest_goodWorths = v_chest_goodWorths_j) {v_known_fires : (Nat → Int32)} {v_known_fires_j : (Nat → Int)} (t_v_known_fires : mA v_known_fires = v_known_fires_j) {v_known_firstPayments : (Nat → Int32)} {v_known_firstPayments_j : (Nat → Int)} (t_v_known_firstPayments : mA v_known_firstPayments = v_known_firstPayments_j) {v_known_nextPayments : (Nat → Int32)} {v_known_nextPayments_j : (Nat → Int)} (t_v_known_nextPayments : mA v_known_nextPayments = v_known_nextPayments_j) {v_blanched : Int32} {v_blanched_j : Int} (t_v_blanched : mI v_blanched = v_blanched_j) {v_debt : Int64} {v_debt_j : Int} (t_v_debt : mJ v_debt = v_debt_j) {v_paid : Int64} {v_paid_j : Int} (t_v_paid : mJ v_paid = v_paid_j) {v_shire : Int32} {v_shire_j : Int} (t_v_shire : mI v_shire = v_shire_j) : tl (mP mJ mJ) (iRoll_takeIn N_j a1_j v_acts_count_j v_acts_amounts_j v_acts_kinds_j v_acts_shires_j v_chest_goodWorths_j v_known_fires_j v_known_firstPayments_j v_known_nextPayments_j v_blanched_j v_debt_j v_paid_j v_shire_j) (pRoll_takeIn N a1 v_acts_count v_acts_amounts v_acts_kinds v_acts_shires v_chest_goodWorths v_known_fires v_known_firstPayments v_known_nextPayments v_blanched v_debt v_paid v_shire) := by
  subst t_N
  subst t_a1
  subst t_v_acts_count
  subst t_v_acts_amounts
  subst t_v_acts_kinds
  subst t_v_acts_shires
  subst t_v_chest_goodWorths
  subst t_v_known_fires
  subst t_v_known_firstPayments
  subst t_v_known_nextPayments
  subst t_v_blanched
  subst t_v_debt
  subst t_v_paid
  subst t_v_shire
  unfold iRoll_takeIn pRoll_takeIn
  refine tl_bd1 (t_pKnown_firstPayment (Eq.refl (mI a1)) (Eq.refl (mA v_known_firstPayments))) (fun rc1 => ?_)
  exact (t_pRoll_takeIn_b11 (Eq.refl N) (Eq.refl (mI a1)) (Eq.refl (mI v_acts_count)) (Eq.refl (mA v_acts_amounts)) (Eq.refl (mA v_acts_kinds)) (Eq.refl (mA v_acts_shires)) (Eq.refl (mA v_chest_goodWorths)) (Eq.refl (mA v_known_fires)) (Eq.refl (mA v_known_firstPayments)) (Eq.refl (mA v_known_nextPayments)) (Eq.refl (mI v_blanched)) (Eq.refl (mI v_shire)) (Eq.refl (mJ v_debt)) (fun e13_ => by exact (t_pRoll_takeIn_b75 (Eq.refl N) (Eq.refl (mI a1)) (Eq.refl (mI v_acts_count)) (Eq.refl (mA v_acts_amounts)) (Eq.refl (mA v_acts_kinds)) (Eq.refl (mA v_acts_shires)) (Eq.refl (mA v_chest_goodWorths)) (Eq.refl (mA v_known_fires)) (Eq.refl (mA v_known_firstPayments)) (Eq.refl (mA v_known_nextPayments)) (Eq.refl (mI v_blanched)) (Eq.refl (mI v_shire)) (Eq.refl (mJ v_debt)) (Eq.refl (mJ e13_)))) (Eq.refl N) (Eq.refl (mI rc1)) jlitI_0 (Eq.refl (mJ v_paid)))
theorem t_pRoll_splitDebt_b135_F {N N_j : Nat} (t_N : N = N_j) {a1 : (Option Nat)} {a1_j : (Option Nat)} (t_a1 : mO a1 = a1_j) {a2 : Int32} {a2_j : Int} (t_a2 : mI a2 = a2_j) {v_D : Dyn} {v_D_j : DynI} (t_v_D : mD v_D = v_D_j) {v_paid : Int64} {v_paid_j : Int} (t_v_paid : mJ v_paid = v_paid_j) {v_shire : Int32} {v_shire_j : Int} (t_v_shire : mI v_shire = v_shire_j) {x3 x3_j : Nat} (t_x3 : x3 = x3_j) {x4 : Int32} {x4_j : Int} (t_x4 : mI x4 = x4_j) {x5 : Int32} {x5_j : Int} (t_x5 : mI x5 = x5_j) {x7 : Int32} {x7_j : Int} (t_x7 : mI x7 = x7_j) {x8 : Int64} {x8_j : Int} (t_x8 : mJ x8 = x8_j) {v_judge_debt : Int64} {v_judge_debt_j : Int} (t_v_judge_debt : mJ v_judge_debt = v_judge_debt_j) {v_judge_paid : Int64} {v_judge_paid_j : Int} (t_v_judge_paid : mJ v_judge_paid = v_judge_paid_j) {v_judge_shire : Int32} {v_judge_shire_j : Int} (t_v_judge_shire : mI v_judge_shire = v_judge_shire_j) {v_judge_term : Int32} {v_judge_term_j : Int} (t_v_judge_term : mI v_judge_term = v_judge_term_j) {v_judge_stack : (Nat → Int64)} {v_judge_stack_j : (Nat → Int)} (t_v_judge_stack : mL v_judge_stack = v_judge_stack_j) {v_debt : Int64} {v_debt_j : Int} (t_v_debt : mJ v_debt = v_debt_j) {k165 : (Nat → Int64) → Option R_pRoll_splitDebt} {k165_j : (Nat → Int) → Option R_iRoll_splitDebt} (t_k165 : ∀ (q0_ : (Nat → Int64)), tl (mP mJ (mP mJ (mP mI (mP mI (mP mL (mP mJ mL)))))) (k165_j (mL q0_)) (k165 q0_)) {self : Int32 → (Nat → Int64) → Option R_pRoll_splitDebt} {self_j : Int → (Nat → Int) → Option R_iRoll_splitDebt} (t_self : ∀ (q0_ : Int32) (q1_ : (Nat → Int64)), tl (mP mJ (mP mJ (mP mI (mP mI (mP mL (mP mJ mL)))))) (self_j (mI q0_) (mL q1_)) (self q0_ q1_)) {x10 : Int32} {x10_j : Int} (t_x10 : mI x10 = x10_j) {v_putOff : (Nat → Int64)} {v_putOff_j : (Nat → Int)} (t_v_putOff : mL v_putOff = v_putOff_j) : tl (mP mJ (mP mJ (mP mI (mP mI (mP mL (mP mJ mL)))))) (iRoll_splitDebt_b135_F N_j a1_j a2_j v_D_j v_paid_j v_shire_j x3_j x4_j x5_j x7_j x8_j v_judge_debt_j v_judge_paid_j v_judge_shire_j v_judge_term_j v_judge_stack_j v_debt_j k165_j self_j x10_j v_putOff_j) (pRoll_splitDebt_b135_F N a1 a2 v_D v_paid v_shire x3 x4 x5 x7 x8 v_judge_debt v_judge_paid v_judge_shire v_judge_term v_judge_stack v_debt k165 self x10 v_putOff) := by
  subst t_N
  subst t_a1
  subst t_a2
  subst t_v_D
  subst t_v_paid
  subst t_v_shire
  subst t_x3
  subst t_x4
  subst t_x5
  subst t_x7
  subst t_x8
  subst t_v_judge_debt
  subst t_v_judge_paid
  subst t_v_judge_shire
  subst t_v_judge_term
  subst t_v_judge_stack
  subst t_v_debt
  subst t_x10
  subst t_v_putOff
  unfold iRoll_splitDebt_b135_F pRoll_splitDebt_b135_F
  refine tl_ite (jc_le (Eq.refl (mI x7)) (Eq.refl (mI x10))) ?_ ?_
  · exact (tl_e1 (Eq.refl (mL v_putOff)) (t_k165 _))
  · refine tl_g (fun h1 => ?_)
    refine tl_g (fun h2 => ?_)
    refine tl_gd (jg_ib (ja_add (ja_mul (Eq.refl (mI a2)) jlitI_19 h1) (Eq.refl (mI x10)) h2)) (fun _ => ?_)
    refine tl_g (fun h3 => ?_)
    refine tl_g (fun h4 => ?_)
    exact (tl_e2 (ja_add (Eq.refl (mI x10)) jlitI_1 h3) (jupL (Eq.refl (mL v_putOff)) (jx (ja_add (ja_mul (Eq.refl (mI a2)) jlitI_19 h1) (Eq.refl (mI x10)) h2)) (jL_add (jrdL (Eq.refl (mL v_putOff)) (jx (ja_add (ja_mul (Eq.refl (mI a2)) jlitI_19 h1) (Eq.refl (mI x10)) h2))) (Eq.refl (mJ x8)) h4)) (t_self _ _))
theorem t_pRoll_splitDebt_b135 {N N_j : Nat} (t_N : N = N_j) {a1 : (Option Nat)} {a1_j : (Option Nat)} (t_a1 : mO a1 = a1_j) {a2 : Int32} {a2_j : Int} (t_a2 : mI a2 = a2_j) {v_D : Dyn} {v_D_j : DynI} (t_v_D : mD v_D = v_D_j) {v_paid : Int64} {v_paid_j : Int} (t_v_paid : mJ v_paid = v_paid_j) {v_shire : Int32} {v_shire_j : Int} (t_v_shire : mI v_shire = v_shire_j) {x3 x3_j : Nat} (t_x3 : x3 = x3_j) {x4 : Int32} {x4_j : Int} (t_x4 : mI x4 = x4_j) {x5 : Int32} {x5_j : Int} (t_x5 : mI x5 = x5_j) {x7 : Int32} {x7_j : Int} (t_x7 : mI x7 = x7_j) {x8 : Int64} {x8_j : Int} (t_x8 : mJ x8 = x8_j) {v_judge_debt : Int64} {v_judge_debt_j : Int} (t_v_judge_debt : mJ v_judge_debt = v_judge_debt_j) {v_judge_paid : Int64} {v_judge_paid_j : Int} (t_v_judge_paid : mJ v_judge_paid = v_judge_paid_j) {v_judge_shire : Int32} {v_judge_shire_j : Int} (t_v_judge_shire : mI v_judge_shire = v_judge_shire_j) {v_judge_term : Int32} {v_judge_term_j : Int} (t_v_judge_term : mI v_judge_term = v_judge_term_j) {v_judge_stack : (Nat → Int64)} {v_judge_stack_j : (Nat → Int)} (t_v_judge_stack : mL v_judge_stack = v_judge_stack_j) {v_debt : Int64} {v_debt_j : Int} (t_v_debt : mJ v_debt = v_debt_j) {k165 : (Nat → Int64) → Option R_pRoll_splitDebt} {k165_j : (Nat → Int) → Option R_iRoll_splitDebt} (t_k165 : ∀ (q0_ : (Nat → Int64)), tl (mP mJ (mP mJ (mP mI (mP mI (mP mL (mP mJ mL)))))) (k165_j (mL q0_)) (k165 q0_)) {n n_j : Nat} (t_n : n = n_j) {w0_ : Int32} {w0__j : Int} (t_w0_ : mI w0_ = w0__j) {w1_ : (Nat → Int64)} {w1__j : (Nat → Int)} (t_w1_ : mL w1_ = w1__j) : tl (mP mJ (mP mJ (mP mI (mP mI (mP mL (mP mJ mL)))))) (iRoll_splitDebt_b135 N_j a1_j a2_j v_D_j v_paid_j v_shire_j x3_j x4_j x5_j x7_j x8_j v_judge_debt_j v_judge_paid_j v_judge_shire_j v_judge_term_j v_judge_stack_j v_debt_j k165_j n_j w0__j w1__j) (pRoll_splitDebt_b135 N a1 a2 v_D v_paid v_shire x3 x4 x5 x7 x8 v_judge_debt v_judge_paid v_judge_shire v_judge_term v_judge_stack v_debt k165 n w0_ w1_) := by
  subst t_N
  subst t_a1
  subst t_a2
  subst t_v_D
  subst t_v_paid
  subst t_v_shire
  subst t_x3
  subst t_x4
  subst t_x5
  subst t_x7
  subst t_x8
  subst t_v_judge_debt
  subst t_v_judge_paid
  subst t_v_judge_shire
  subst t_v_judge_term
  subst t_v_judge_stack
  subst t_v_debt
  subst t_n
  subst t_w0_
  subst t_w1_
  exact tl_zlp2 (fun s2 s hs w0_ w1_ => t_pRoll_splitDebt_b135_F (Eq.refl N) (Eq.refl (mO a1)) (Eq.refl (mI a2)) (Eq.refl (mD v_D)) (Eq.refl (mJ v_paid)) (Eq.refl (mI v_shire)) (Eq.refl x3) (Eq.refl (mI x4)) (Eq.refl (mI x5)) (Eq.refl (mI x7)) (Eq.refl (mJ x8)) (Eq.refl (mJ v_judge_debt)) (Eq.refl (mJ v_judge_paid)) (Eq.refl (mI v_judge_shire)) (Eq.refl (mI v_judge_term)) (Eq.refl (mL v_judge_stack)) (Eq.refl (mJ v_debt)) t_k165 hs (Eq.refl (mI w0_)) (Eq.refl (mL w1_))) n w0_ w1_
theorem t_pRoll_splitDebt_b165 {N N_j : Nat} (t_N : N = N_j) {a1 : (Option Nat)} {a1_j : (Option Nat)} (t_a1 : mO a1 = a1_j) {a2 : Int32} {a2_j : Int} (t_a2 : mI a2 = a2_j) {v_D : Dyn} {v_D_j : DynI} (t_v_D : mD v_D = v_D_j) {v_paid : Int64} {v_paid_j : Int} (t_v_paid : mJ v_paid = v_paid_j) {v_shire : Int32} {v_shire_j : Int} (t_v_shire : mI v_shire = v_shire_j) {self : Int32 → Int64 → Int64 → Int32 → Int32 → (Nat → Int64) → Int64 → (Nat → Int64) → Option R_pRoll_splitDebt} {self_j : Int → Int → Int → Int → Int → (Nat → Int) → Int → (Nat → Int) → Option R_iRoll_splitDebt} (t_self : ∀ (q0_ : Int32) (q1_ : Int64) (q2_ : Int64) (q3_ : Int32) (q4_ : Int32) (q5_ : (Nat → Int64)) (q6_ : Int64) (q7_ : (Nat → Int64)), tl (mP mJ (mP mJ (mP mI (mP mI (mP mL (mP mJ mL)))))) (self_j (mI q0_) (mJ q1_) (mJ q2_) (mI q3_) (mI q4_) (mL q5_) (mJ q6_) (mL q7_)) (self q0_ q1_ q2_ q3_ q4_ q5_ q6_ q7_)) {x3 x3_j : Nat} (t_x3 : x3 = x3_j) {x4 : Int32} {x4_j : Int} (t_x4 : mI x4 = x4_j) {x5 : Int32} {x5_j : Int} (t_x5 : mI x5 = x5_j) {x7 : Int32} {x7_j : Int} (t_x7 : mI x7 = x7_j) {x8 : Int64} {x8_j : Int} (t_x8 : mJ x8 = x8_j) {v_judge_debt : Int64} {v_judge_debt_j : Int} (t_v_judge_debt : mJ v_judge_debt = v_judge_debt_j) {v_judge_paid : Int64} {v_judge_paid_j : Int} (t_v_judge_paid : mJ v_judge_paid = v_judge_paid_j) {v_judge_shire : Int32} {v_judge_shire_j : Int} (t_v_judge_shire : mI v_judge_shire = v_judge_shire_j) {v_judge_term : Int32} {v_judge_term_j : Int} (t_v_judge_term : mI v_judge_term = v_judge_term_j) {v_judge_stack : (Nat → Int64)} {v_judge_stack_j : (Nat → Int)} (t_v_judge_stack : mL v_judge_stack = v_judge_stack_j) {v_debt : Int64} {v_debt_j : Int} (t_v_debt : mJ v_debt = v_debt_j) {v_putOff : (Nat → Int64)} {v_putOff_j : (Nat → Int)} (t_v_putOff : mL v_putOff = v_putOff_j) : tl (mP mJ (mP mJ (mP mI (mP mI (mP mL (mP mJ mL)))))) (iRoll_splitDebt_b165 N_j a1_j a2_j v_D_j v_paid_j v_shire_j self_j x3_j x4_j x5_j x7_j x8_j v_judge_debt_j v_judge_paid_j v_judge_shire_j v_judge_term_j v_judge_stack_j v_debt_j v_putOff_j) (pRoll_splitDebt_b165 N a1 a2 v_D v_paid v_shire self x3 x4 x5 x7 x8 v_judge_debt v_judge_paid v_judge_shire v_judge_term v_judge_stack v_debt v_putOff) := by
  subst t_N
  subst t_a1
  subst t_a2
  subst t_v_D
  subst t_v_paid
  subst t_v_shire
  subst t_x3
  subst t_x4
  subst t_x5
  subst t_x7
  subst t_x8
  subst t_v_judge_debt
  subst t_v_judge_paid
  subst t_v_judge_shire
  subst t_v_judge_term
  subst t_v_judge_stack
  subst t_v_debt
  subst t_v_putOff
  unfold iRoll_splitDebt_b165 pRoll_splitDebt_b165
  refine tl_g (fun h1 => ?_)
  refine tl_g (fun h2 => ?_)
  refine tl_g (fun h3 => ?_)
  exact (tl_e8 (ja_add (Eq.refl (mI x5)) jlitI_1 h1) (Eq.refl (mJ v_judge_debt)) (Eq.refl (mJ v_judge_paid)) (Eq.refl (mI v_judge_shire)) (Eq.refl (mI v_judge_term)) (Eq.refl (mL v_judge_stack)) (jL_sub (Eq.refl (mJ v_debt)) (jL_mul (Eq.refl (mJ x8)) (ja_i2l (Eq.refl (mI x7))) h2) h3) (Eq.refl (mL v_putOff)) (t_self _ _ _ _ _ _ _ _))
theorem t_pRoll_splitDebt_b17_F {N N_j : Nat} (t_N : N = N_j) {a1 : (Option Nat)} {a1_j : (Option Nat)} (t_a1 : mO a1 = a1_j) {a2 : Int32} {a2_j : Int} (t_a2 : mI a2 = a2_j) {v_D : Dyn} {v_D_j : DynI} (t_v_D : mD v_D = v_D_j) {v_paid : Int64} {v_paid_j : Int} (t_v_paid : mJ v_paid = v_paid_j) {v_shire : Int32} {v_shire_j : Int} (t_v_shire : mI v_shire = v_shire_j) {x3 x3_j : Nat} (t_x3 : x3 = x3_j) {x4 : Int32} {x4_j : Int} (t_x4 : mI x4 = x4_j) {self : Int32 → Int64 → Int64 → Int32 → Int32 → (Nat → Int64) → Int64 → (Nat → Int64) → Option R_pRoll_splitDebt} {self_j : Int → Int → Int → Int → Int → (Nat → Int) → Int → (Nat → Int) → Option R_iRoll_splitDebt} (t_self : ∀ (q0_ : Int32) (q1_ : Int64) (q2_ : Int64) (q3_ : Int32) (q4_ : Int32) (q5_ : (Nat → Int64)) (q6_ : Int64) (q7_ : (Nat → Int64)), tl (mP mJ (mP mJ (mP mI (mP mI (mP mL (mP mJ mL)))))) (self_j (mI q0_) (mJ q1_) (mJ q2_) (mI q3_) (mI q4_) (mL q5_) (mJ q6_) (mL q7_)) (self q0_ q1_ q2_ q3_ q4_ q5_ q6_ q7_)) {x5 : Int32} {x5_j : Int} (t_x5 : mI x5 = x5_j) {v_judge_debt : Int64} {v_judge_debt_j : Int} (t_v_judge_debt : mJ v_judge_debt = v_judge_debt_j) {v_judge_paid : Int64} {v_judge_paid_j : Int} (t_v_judge_paid : mJ v_judge_paid = v_judge_paid_j) {v_judge_shire : Int32} {v_judge_shire_j : Int} (t_v_judge_shire : mI v_judge_shire = v_judge_shire_j) {v_judge_term : Int32} {v_judge_term_j : Int} (t_v_judge_term : mI v_judge_term = v_judge_term_j) {v_judge_stack : (Nat → Int64)} {v_judge_stack_j : (Nat → Int)} (t_v_judge_stack : mL v_judge_stack = v_judge_stack_j) {v_debt : Int64} {v_debt_j : Int} (t_v_debt : mJ v_debt = v_debt_j) {v_putOff : (Nat → Int64)} {v_putOff_j : (Nat → Int)} (t_v_putOff : mL v_putOff = v_putOff_j) : tl (mP mJ (mP mJ (mP mI (mP mI (mP mL (mP mJ mL)))))) (iRoll_splitDebt_b17_F N_j a1_j a2_j v_D_j v_paid_j v_shire_j x3_j x4_j self_j x5_j v_judge_debt_j v_judge_paid_j v_judge_shire_j v_judge_term_j v_judge_stack_j v_debt_j v_putOff_j) (pRoll_splitDebt_b17_F N a1 a2 v_D v_paid v_shire x3 x4 self x5 v_judge_debt v_judge_paid v_judge_shire v_judge_term v_judge_stack v_debt v_putOff) := by
  subst t_N
  subst t_a1
  subst t_a2
  subst t_v_D
  subst t_v_paid
  subst t_v_shire
  subst t_x3
  subst t_x4
  subst t_x5
  subst t_v_judge_debt
  subst t_v_judge_paid
  subst t_v_judge_shire
  subst t_v_judge_term
  subst t_v_judge_stack
  subst t_v_debt
  subst t_v_putOff
  unfold iRoll_splitDebt_b17_F pRoll_splitDebt_b17_F
  refine tl_ite (jc_le (Eq.refl (mI x4)) (Eq.refl (mI x5))) ?_ ?_
  · exact (tl_some (jp2 (Eq.refl (mJ v_judge_debt)) (jp2 (Eq.refl (mJ v_judge_paid)) (jp2 (Eq.refl (mI v_judge_shire)) (jp2 (Eq.refl (mI v_judge_term)) (jp2 (Eq.refl (mL v_judge_stack)) (jp2 (Eq.refl (mJ v_debt)) (Eq.refl (mL v_putOff)))))))))
  · refine tl_bd1 (jt_AR (Eq.refl (mD v_D)) (Eq.refl (mI x5))) (fun d5 => ?_)
    refine tl_bd1 tl_rfl (fun y6 => ?_)
    refine tl_bd1 (jt_GI (Eq.refl (mD v_D))) (fun d7 => ?_)
    refine tl_ite (jc_eq (Eq.refl (mI d7)) jlitI_4) ?_ ?_
    · refine tl_ite (jk_le (Eq.refl (mJ v_debt)) jlitJ_0) ?_ ?_
      · refine tl_g (fun h1 => ?_)
        exact (tl_e8 (ja_add (Eq.refl (mI x5)) jlitI_1 h1) (Eq.refl (mJ v_judge_debt)) (Eq.refl (mJ v_judge_paid)) (Eq.refl (mI v_judge_shire)) (Eq.refl (mI v_judge_term)) (Eq.refl (mL v_judge_stack)) (Eq.refl (mJ v_debt)) (Eq.refl (mL v_putOff)) (t_self _ _ _ _ _ _ _ _))
      · refine tl_bd1 (jt_GI (Eq.refl (mD v_D))) (fun d8 => ?_)
        refine tl_ite (jc_lt jlitI_0 (Eq.refl (mI d8))) ?_ ?_
        · refine tl_bd4 (t_pJudge_setMoment (Eq.refl (mI v_shire)) (Eq.refl (mI a2)) (Eq.refl (mJ v_debt)) (Eq.refl (mJ v_paid)) (Eq.refl (mJ v_judge_debt)) (Eq.refl (mJ v_judge_paid)) (Eq.refl (mI v_judge_shire)) (Eq.refl (mI v_judge_term))) (fun v_judge_debt_c9 v_judge_paid_c9 v_judge_shire_c9 v_judge_term_c9 => ?_)
          refine tl_bd1 tl_rfl (fun y10 => ?_)
          refine tl_bd1 (jt_GR (Eq.refl (mD v_D))) (fun d11 => ?_)
          refine tl_bd1 (jt_GI (Eq.refl (mD v_D))) (fun d12 => ?_)
          refine tl_bd1 (jt_GI (Eq.refl (mD v_D))) (fun d13 => ?_)
          refine tl_bd2 (t_pJudge_valueOf (Eq.refl N) (Eq.refl (mO d11)) (Eq.refl (mI d12)) (Eq.refl (mI d13)) (Eq.refl (mD v_D)) (Eq.refl (mJ v_judge_debt_c9)) (Eq.refl (mJ v_judge_paid_c9)) (Eq.refl (mI v_judge_shire_c9)) (Eq.refl (mI v_judge_term_c9)) (Eq.refl (mL v_judge_stack))) (fun rc14 v_judge_stack_c14 => ?_)
          refine tl_ite (jk_eq (Eq.refl (mJ rc14)) jlitJ_0) ?_ ?_
          · refine tl_g (fun h2 => ?_)
            exact (tl_e8 (ja_add (Eq.refl (mI x5)) jlitI_1 h2) (Eq.refl (mJ v_judge_debt_c9)) (Eq.refl (mJ v_judge_paid_c9)) (Eq.refl (mI v_judge_shire_c9)) (Eq.refl (mI v_judge_term_c9)) (Eq.refl (mL v_judge_stack_c14)) (Eq.refl (mJ v_debt)) (Eq.refl (mL v_putOff)) (t_self _ _ _ _ _ _ _ _))
          · refine tl_bd1 (jt_GI (Eq.refl (mD v_D))) (fun d15 => ?_)
            refine tl_bd1 (jt_GI (Eq.refl (mD v_D))) (fun d16 => ?_)
            refine tl_gd (jg_nL (ja_i2l (Eq.refl (mI d16)))) (fun _ => ?_)
            refine tl_g (fun h3 => ?_)
            refine tl_g (fun h4 => ?_)
            exact (t_pRoll_splitDebt_b135 (Eq.refl N) (Eq.refl (mO a1)) (Eq.refl (mI a2)) (Eq.refl (mD v_D)) (Eq.refl (mJ v_paid)) (Eq.refl (mI v_shire)) (Eq.refl x3) (Eq.refl (mI x4)) (Eq.refl (mI x5)) (ja_min (ja_sub (Eq.refl (mI d15)) jlitI_1 h3) jlitI_19) (jL_div (Eq.refl (mJ v_debt)) (ja_i2l (Eq.refl (mI d16))) h4) (Eq.refl (mJ v_judge_debt_c9)) (Eq.refl (mJ v_judge_paid_c9)) (Eq.refl (mI v_judge_shire_c9)) (Eq.refl (mI v_judge_term_c9)) (Eq.refl (mL v_judge_stack_c14)) (Eq.refl (mJ v_debt)) (fun e18_ => by exact (t_pRoll_splitDebt_b165 (Eq.refl N) (Eq.refl (mO a1)) (Eq.refl (mI a2)) (Eq.refl (mD v_D)) (Eq.refl (mJ v_paid)) (Eq.refl (mI v_shire)) t_self (Eq.refl x3) (Eq.refl (mI x4)) (Eq.refl (mI x5)) (ja_min (ja_sub (Eq.refl (mI d15)) jlitI_1 h3) jlitI_19) (jL_div (Eq.refl (mJ v_debt)) (ja_i2l (Eq.refl (mI d16))) h4) (Eq.refl (mJ v_judge_debt_c9)) (Eq.refl (mJ v_judge_paid_c9)) (Eq.refl (mI v_judge_shire_c9)) (Eq.refl (mI v_judge_term_c9)) (Eq.refl (mL v_judge_stack_c14)) (Eq.refl (mJ v_debt)) (Eq.refl (mL e18_)))) (Eq.refl N) jlitI_0 (Eq.refl (mL v_putOff)))
        · refine tl_g (fun h5 => ?_)
          exact (tl_e8 (ja_add (Eq.refl (mI x5)) jlitI_1 h5) (Eq.refl (mJ v_judge_debt)) (Eq.refl (mJ v_judge_paid)) (Eq.refl (mI v_judge_shire)) (Eq.refl (mI v_judge_term)) (Eq.refl (mL v_judge_stack)) (Eq.refl (mJ v_debt)) (Eq.refl (mL v_putOff)) (t_self _ _ _ _ _ _ _ _))
    · refine tl_g (fun h6 => ?_)
      exact (tl_e8 (ja_add (Eq.refl (mI x5)) jlitI_1 h6) (Eq.refl (mJ v_judge_debt)) (Eq.refl (mJ v_judge_paid)) (Eq.refl (mI v_judge_shire)) (Eq.refl (mI v_judge_term)) (Eq.refl (mL v_judge_stack)) (Eq.refl (mJ v_debt)) (Eq.refl (mL v_putOff)) (t_self _ _ _ _ _ _ _ _))
theorem t_pRoll_splitDebt_b17 {N N_j : Nat} (t_N : N = N_j) {a1 : (Option Nat)} {a1_j : (Option Nat)} (t_a1 : mO a1 = a1_j) {a2 : Int32} {a2_j : Int} (t_a2 : mI a2 = a2_j) {v_D : Dyn} {v_D_j : DynI} (t_v_D : mD v_D = v_D_j) {v_paid : Int64} {v_paid_j : Int} (t_v_paid : mJ v_paid = v_paid_j) {v_shire : Int32} {v_shire_j : Int} (t_v_shire : mI v_shire = v_shire_j) {x3 x3_j : Nat} (t_x3 : x3 = x3_j) {x4 : Int32} {x4_j : Int} (t_x4 : mI x4 = x4_j) {n n_j : Nat} (t_n : n = n_j) {w0_ : Int32} {w0__j : Int} (t_w0_ : mI w0_ = w0__j) {w1_ : Int64} {w1__j : Int} (t_w1_ : mJ w1_ = w1__j) {w2_ : Int64} {w2__j : Int} (t_w2_ : mJ w2_ = w2__j) {w3_ : Int32} {w3__j : Int} (t_w3_ : mI w3_ = w3__j) {w4_ : Int32} {w4__j : Int} (t_w4_ : mI w4_ = w4__j) {w5_ : (Nat → Int64)} {w5__j : (Nat → Int)} (t_w5_ : mL w5_ = w5__j) {w6_ : Int64} {w6__j : Int} (t_w6_ : mJ w6_ = w6__j) {w7_ : (Nat → Int64)} {w7__j : (Nat → Int)} (t_w7_ : mL w7_ = w7__j) : tl (mP mJ (mP mJ (mP mI (mP mI (mP mL (mP mJ mL)))))) (iRoll_splitDebt_b17 N_j a1_j a2_j v_D_j v_paid_j v_shire_j x3_j x4_j n_j w0__j w1__j w2__j w3__j w4__j w5__j w6__j w7__j) (pRoll_splitDebt_b17 N a1 a2 v_D v_paid v_shire x3 x4 n w0_ w1_ w2_ w3_ w4_ w5_ w6_ w7_) := by
  subst t_N
  subst t_a1
  subst t_a2
  subst t_v_D
  subst t_v_paid
  subst t_v_shire
  subst t_x3
  subst t_x4
  subst t_n
  subst t_w0_
  subst t_w1_
  subst t_w2_
  subst t_w3_
  subst t_w4_
  subst t_w5_
  subst t_w6_
  subst t_w7_
  exact tl_zlp8 (fun s2 s hs w0_ w1_ w2_ w3_ w4_ w5_ w6_ w7_ => t_pRoll_splitDebt_b17_F (Eq.refl N) (Eq.refl (mO a1)) (Eq.refl (mI a2)) (Eq.refl (mD v_D)) (Eq.refl (mJ v_paid)) (Eq.refl (mI v_shire)) (Eq.refl x3) (Eq.refl (mI x4)) hs (Eq.refl (mI w0_)) (Eq.refl (mJ w1_)) (Eq.refl (mJ w2_)) (Eq.refl (mI w3_)) (Eq.refl (mI w4_)) (Eq.refl (mL w5_)) (Eq.refl (mJ w6_)) (Eq.refl (mL w7_))) n w0_ w1_ w2_ w3_ w4_ w5_ w6_ w7_
theorem t_pRoll_splitDebt {N N_j : Nat} (t_N : N = N_j) {a1 : (Option Nat)} {a1_j : (Option Nat)} (t_a1 : mO a1 = a1_j) {a2 : Int32} {a2_j : Int} (t_a2 : mI a2 = a2_j) {v_D : Dyn} {v_D_j : DynI} (t_v_D : mD v_D = v_D_j) {v_judge_debt : Int64} {v_judge_debt_j : Int} (t_v_judge_debt : mJ v_judge_debt = v_judge_debt_j) {v_judge_paid : Int64} {v_judge_paid_j : Int} (t_v_judge_paid : mJ v_judge_paid = v_judge_paid_j) {v_judge_shire : Int32} {v_judge_shire_j : Int} (t_v_judge_shire : mI v_judge_shire = v_judge_shire_j) {v_judge_term : Int32} {v_judge_term_j : Int} (t_v_judge_term : mI v_judge_term = v_judge_term_j) {v_judge_stack : (Nat → Int64)} {v_judge_stack_j : (Nat → Int)} (t_v_judge_stack : mL v_judge_stack = v_judge_stack_j) {v_debt : Int64} {v_debt_j : Int} (t_v_debt : mJ v_debt = v_debt_j) {v_paid : Int64} {v_paid_j : Int} (t_v_paid : mJ v_paid = v_paid_j) {v_shire : Int32} {v_shire_j : Int} (t_v_shire : mI v_shire = v_shire_j) {v_putOff : (Nat → Int64)} {v_putOff_j : (Nat → Int)} (t_v_putOff : mL v_putOff = v_putOff_j) : tl (mP mJ (mP mJ (mP mI (mP mI (mP mL (mP mJ mL)))))) (iRoll_splitDebt N_j a1_j a2_j v_D_j v_judge_debt_j v_judge_paid_j v_judge_shire_j v_judge_term_j v_judge_stack_j v_debt_j v_paid_j v_shire_j v_putOff_j) (pRoll_splitDebt N a1 a2 v_D v_judge_debt v_judge_paid v_judge_shire v_judge_term v_judge_stack v_debt v_paid v_shire v_putOff) := by
  subst t_N
  subst t_a1
  subst t_a2
  subst t_v_D
  subst t_v_judge_debt
  subst t_v_judge_paid
  subst t_v_judge_shire
  subst t_v_judge_term
  subst t_v_judge_stack
  subst t_v_debt
  subst t_v_paid
  subst t_v_shire
  subst t_v_putOff
  unfold iRoll_splitDebt pRoll_splitDebt
  refine tl_opn ?_ (fun y1 => ?_)
  · exact (tl_some (jp2 (Eq.refl (mJ v_judge_debt)) (jp2 (Eq.refl (mJ v_judge_paid)) (jp2 (Eq.refl (mI v_judge_shire)) (jp2 (Eq.refl (mI v_judge_term)) (jp2 (Eq.refl (mL v_judge_stack)) (jp2 (Eq.refl (mJ v_debt)) (Eq.refl (mL v_putOff)))))))))
  · refine tl_bd1 (jt_GR (Eq.refl (mD v_D))) (fun d2 => ?_)
    refine tl_bd1 tl_rfl (fun y3 => ?_)
    refine tl_bd1 (jt_Len (Eq.refl (mD v_D))) (fun n4 => ?_)
    refine tl_g (fun h1 => ?_)
    exact (t_pRoll_splitDebt_b17 (Eq.refl N) (Eq.refl (mO a1)) (Eq.refl (mI a2)) (Eq.refl (mD v_D)) (Eq.refl (mJ v_paid)) (Eq.refl (mI v_shire)) (Eq.refl y3) (ja_of h1) (Eq.refl N) jlitI_0 (Eq.refl (mJ v_judge_debt)) (Eq.refl (mJ v_judge_paid)) (Eq.refl (mI v_judge_shire)) (Eq.refl (mI v_judge_term)) (Eq.refl (mL v_judge_stack)) (Eq.refl (mJ v_debt)) (Eq.refl (mL v_putOff)))
theorem t_pRoll_goTo_b5_F {N N_j : Nat} (t_N : N = N_j) {a1 : Int32} {a1_j : Int} (t_a1 : mI a1 = a1_j) {v_acts_count : Int32} {v_acts_count_j : Int} (t_v_acts_count : mI v_acts_count = v_acts_count_j) {v_acts_amounts : (Nat → Int32)} {v_acts_amounts_j : (Nat → Int)} (t_v_acts_amounts : mA v_acts_amounts = v_acts_amounts_j) {v_acts_kinds : (Nat → Int32)} {v_acts_kinds_j : (Nat → Int)} (t_v_acts_kinds : mA v_acts_kinds = v_acts_kinds_j) {v_acts_shires : (Nat → Int32)} {v_acts_shires_j : (Nat → Int)} (t_v_acts_shires : mA v_acts_shires = v_acts_shires_j) {v_acts_writs : (Nat → Option Nat)} {v_acts_writs_j : (Nat → Option Nat)} (t_v_acts_writs : mO v_acts_writs = v_acts_writs_j) {v_chest_goodWorths : (Nat → Int32)} {v_chest_goodWorths_j : (Nat → Int)} (t_v_chest_goodWorths : mA v_chest_goodWorths = v_chest_goodWorths_j) {v_D : Dyn} {v_D_j : DynI} (t_v_D : mD v_D = v_D_j) {v_known_fires : (Nat → Int32)} {v_known_fires_j : (Nat → Int)} (t_v_known_fires : mA v_known_fires = v_known_fires_j) {v_known_firstPayments : (Nat → Int32)} {v_known_firstPayments_j : (Nat → Int)} (t_v_known_firstPayments : mA v_known_firstPayments = v_known_firstPayments_j) {v_known_nextPayments : (Nat → Int32)} {v_known_nextPayments_j : (Nat → Int)} (t_v_known_nextPayments : mA v_known_nextPayments = v_known_nextPayments_j) {v_known_writs : (Nat → Int32)} {v_known_writs_j : (Nat → Int)} (t_v_known_writs : mA v_known_writs = v_known_writs_j) {v_shire : Int32} {v_shire_j : Int} (t_v_shire : mI v_shire = v_shire_j) {self : Int32 → Int64 → Int64 → Int32 → Int32 → (Nat → Int64) → Int32 → Int64 → Int64 → Int32 → (Nat → Int64) → (Nat → Int64) → (Nat → Int64) → (Nat → Int64) → (Nat → Int64) → (Nat → Int64) → Option R_pRoll_goTo} {self_j : Int → Int → Int → Int → Int → (Nat → Int) → Int → Int → Int → Int → (Nat → Int) → (Nat → Int) → (Nat → Int) → (Nat → Int) → (Nat → Int) → (Nat → Int) → Option R_iRoll_goTo} (t_self : ∀ (q0_ : Int32) (q1_ : Int64) (q2_ : Int64) (q3_ : Int32) (q4_ : Int32) (q5_ : (Nat → Int64)) (q6_ : Int32) (q7_ : Int64) (q8_ : Int64) (q9_ : Int32) (q10_ : (Nat → Int64)) (q11_ : (Nat → Int64)) (q12_ : (Nat → Int64)) (q13_ : (Nat → Int64)) (q14_ : (Nat → Int64)) (q15_ : (Nat → Int64)), tl (mP mJ (mP mJ (mP mI (mP mI (mP mL (mP mI (mP mJ (mP mJ (mP mI (mP mL (mP mL (mP mL (mP mL (mP mL mL)))))))))))))) (self_j (mI q0_) (mJ q1_) (mJ q2_) (mI q3_) (mI q4_) (mL q5_) (mI q6_) (mJ q7_) (mJ q8_) (mI q9_) (mL q10_) (mL q11_) (mL q12_) (mL q13_) (mL q14_) (mL q15_)) (self q0_ q1_ q2_ q3_ q4_ q5_ q6_ q7_ q8_ q9_ q10_ q11_ q12_ q13_ q14_ q15_)) {x2 : Int32} {x2_j : Int} (t_x2 : mI x2 = x2_j) {v_judge_debt : Int64} {v_judge_debt_j : Int} (t_v_judge_debt : mJ v_judge_debt = v_judge_debt_j) {v_judge_paid : Int64} {v_judge_paid_j : Int} (t_v_judge_paid : mJ v_judge_paid = v_judge_paid_j) {v_judge_shire : Int32} {v_judge_shire_j : Int} (t_v_judge_shire : mI v_judge_shire = v_judge_shire_j) {v_judge_term : Int32} {v_judge_term_j : Int} (t_v_judge_term : mI v_judge_term = v_judge_term_j) {v_judge_stack : (Nat → Int64)} {v_judge_stack_j : (Nat → Int)} (t_v_judge_stack : mL v_judge_stack = v_judge_stack_j) {v_blanched : Int32} {v_blanched_j : Int} (t_v_blanched : mI v_blanched = v_blanched_j) {v_debt : Int64} {v_debt_j : Int} (t_v_debt : mJ v_debt = v_debt_j) {v_paid : Int64} {v_paid_j : Int} (t_v_paid : mJ v_paid = v_paid_j) {v_told : Int32} {v_told_j : Int} (t_v_told : mI v_told = v_told_j) {v_allowances : (Nat → Int64)} {v_allowances_j : (Nat → Int)} (t_v_allowances : mL v_allowances = v_allowances_j) {v_debts : (Nat → Int64)} {v_debts_j : (Nat → Int)} (t_v_debts : mL v_debts = v_debts_j) {v_farms : (Nat → Int64)} {v_farms_j : (Nat → Int)} (t_v_farms : mL v_farms = v_farms_j) {v_pardons : (Nat → Int64)} {v_pardons_j : (Nat → Int)} (t_v_pardons : mL v_pardons = v_pardons_j) {v_payments : (Nat → Int64)} {v_payments_j : (Nat → Int)} (t_v_payments : mL v_payments = v_payments_j) {v_putOff : (Nat → Int64)} {v_putOff_j : (Nat → Int)} (t_v_putOff : mL v_putOff = v_putOff_j) : tl (mP mJ (mP mJ (mP mI (mP mI (mP mL (mP mI (mP mJ (mP mJ (mP mI (mP mL (mP mL (mP mL (mP mL (mP mL mL)))))))))))))) (iRoll_goTo_b5_F N_j a1_j v_acts_count_j v_acts_amounts_j v_acts_kinds_j v_acts_shires_j v_acts_writs_j v_chest_goodWorths_j v_D_j v_known_fires_j v_known_firstPayments_j v_known_nextPayments_j v_known_writs_j v_shire_j self_j x2_j v_judge_debt_j v_judge_paid_j v_judge_shire_j v_judge_term_j v_judge_stack_j v_blanched_j v_debt_j v_paid_j v_told_j v_allowances_j v_debts_j v_farms_j v_pardons_j v_payments_j v_putOff_j) (pRoll_goTo_b5_F N a1 v_acts_count v_acts_amounts v_acts_kinds v_acts_shires v_acts_writs v_chest_goodWorths v_D v_known_fires v_known_firstPayments v_known_nextPayments v_known_writs v_shire self x2 v_judge_debt v_judge_paid v_judge_shire v_judge_term v_judge_stack v_blanched v_debt v_paid v_told v_allowances v_debts v_farms v_pardons v_payments v_putOff) := by
  subst t_N
  subst t_a1
  subst t_v_acts_count
  subst t_v_acts_amounts
  subst t_v_acts_kinds
  subst t_v_acts_shires
  subst t_v_acts_writs
  subst t_v_chest_goodWorths
  subst t_v_D
  subst t_v_known_fires
  subst t_v_known_firstPayments
  subst t_v_known_nextPayments
  subst t_v_known_writs
  subst t_v_shire
  subst t_x2
  subst t_v_judge_debt
  subst t_v_judge_paid
  subst t_v_judge_shire
  subst t_v_judge_term
  subst t_v_judge_stack
  subst t_v_blanched
  subst t_v_debt
  subst t_v_paid
  subst t_v_told
  subst t_v_allowances
  subst t_v_debts
  subst t_v_farms
  subst t_v_pardons
  subst t_v_payments
  subst t_v_putOff
  unfold iRoll_goTo_b5_F pRoll_goTo_b5_F
  refine tl_ite (jc_lt (Eq.refl (mI a1)) (Eq.refl (mI x2))) ?_ ?_
  · exact (tl_some (jp2 (Eq.refl (mJ v_judge_debt)) (jp2 (Eq.refl (mJ v_judge_paid)) (jp2 (Eq.refl (mI v_judge_shire)) (jp2 (Eq.refl (mI v_judge_term)) (jp2 (Eq.refl (mL v_judge_stack)) (jp2 (Eq.refl (mI v_blanched)) (jp2 (Eq.refl (mJ v_debt)) (jp2 (Eq.refl (mJ v_paid)) (jp2 (Eq.refl (mI v_told)) (jp2 (Eq.refl (mL v_allowances)) (jp2 (Eq.refl (mL v_debts)) (jp2 (Eq.refl (mL v_farms)) (jp2 (Eq.refl (mL v_pardons)) (jp2 (Eq.refl (mL v_payments)) (Eq.refl (mL v_putOff)))))))))))))))))
  · refine tl_ite (jc_le jlitI_40 (Eq.refl (mI x2))) ?_ ?_
    · exact (tl_some (jp2 (Eq.refl (mJ v_judge_debt)) (jp2 (Eq.refl (mJ v_judge_paid)) (jp2 (Eq.refl (mI v_judge_shire)) (jp2 (Eq.refl (mI v_judge_term)) (jp2 (Eq.refl (mL v_judge_stack)) (jp2 (Eq.refl (mI v_blanched)) (jp2 (Eq.refl (mJ v_debt)) (jp2 (Eq.refl (mJ v_paid)) (jp2 (Eq.refl (mI v_told)) (jp2 (Eq.refl (mL v_allowances)) (jp2 (Eq.refl (mL v_debts)) (jp2 (Eq.refl (mL v_farms)) (jp2 (Eq.refl (mL v_pardons)) (jp2 (Eq.refl (mL v_payments)) (Eq.refl (mL v_putOff)))))))))))))))))
    · refine tl_bd1 (t_pKnown_writOf (Eq.refl (mI x2)) (Eq.refl (mO v_acts_writs)) (Eq.refl (mA v_known_writs))) (fun rc1 => ?_)
      refine tl_bd2 (t_pRoll_comeDue (Eq.refl N) (Eq.refl (mI x2)) (Eq.refl (mJ v_debt)) (Eq.refl (mL v_debts)) (Eq.refl (mL v_putOff))) (fun v_debt_c2 v_putOff_c2 => ?_)
      refine tl_bd8 (t_pRoll_reckon (Eq.refl N) (Eq.refl (mO rc1)) (Eq.refl (mI x2)) jlitI_1 (Eq.refl (mD v_D)) (Eq.refl (mJ v_judge_debt)) (Eq.refl (mJ v_judge_paid)) (Eq.refl (mI v_judge_shire)) (Eq.refl (mI v_judge_term)) (Eq.refl (mL v_judge_stack)) jlitI_0 (Eq.refl (mJ v_debt_c2)) jlitJ_0 (Eq.refl (mI v_shire))) (fun rc3 v_judge_debt_c3 v_judge_paid_c3 v_judge_shire_c3 v_judge_term_c3 v_judge_stack_c3 v_blanched_c3 v_debt_c3 => ?_)
      refine tl_gd (jg_ib (Eq.refl (mI x2))) (fun _ => ?_)
      refine tl_bd8 (t_pRoll_reckon (Eq.refl N) (Eq.refl (mO rc1)) (Eq.refl (mI x2)) jlitI_2 (Eq.refl (mD v_D)) (Eq.refl (mJ v_judge_debt_c3)) (Eq.refl (mJ v_judge_paid_c3)) (Eq.refl (mI v_judge_shire_c3)) (Eq.refl (mI v_judge_term_c3)) (Eq.refl (mL v_judge_stack_c3)) (Eq.refl (mI v_blanched_c3)) (Eq.refl (mJ v_debt_c3)) jlitJ_0 (Eq.refl (mI v_shire))) (fun rc5 v_judge_debt_c5 v_judge_paid_c5 v_judge_shire_c5 v_judge_term_c5 v_judge_stack_c5 v_blanched_c5 v_debt_c5 => ?_)
      refine tl_bd8 (t_pRoll_reckon (Eq.refl N) (Eq.refl (mO rc1)) (Eq.refl (mI x2)) jlitI_3 (Eq.refl (mD v_D)) (Eq.refl (mJ v_judge_debt_c5)) (Eq.refl (mJ v_judge_paid_c5)) (Eq.refl (mI v_judge_shire_c5)) (Eq.refl (mI v_judge_term_c5)) (Eq.refl (mL v_judge_stack_c5)) (Eq.refl (mI v_blanched_c5)) (Eq.refl (mJ v_debt_c5)) jlitJ_0 (Eq.refl (mI v_shire))) (fun rc6 v_judge_debt_c6 v_judge_paid_c6 v_judge_shire_c6 v_judge_term_c6 v_judge_stack_c6 v_blanched_c6 v_debt_c6 => ?_)
      refine tl_bd2 (t_pRoll_takeIn (Eq.refl N) (Eq.refl (mI x2)) (Eq.refl (mI v_acts_count)) (Eq.refl (mA v_acts_amounts)) (Eq.refl (mA v_acts_kinds)) (Eq.refl (mA v_acts_shires)) (Eq.refl (mA v_chest_goodWorths)) (Eq.refl (mA v_known_fires)) (Eq.refl (mA v_known_firstPayments)) (Eq.refl (mA v_known_nextPayments)) (Eq.refl (mI v_blanched_c6)) (Eq.refl (mJ v_debt_c6)) jlitJ_0 (Eq.refl (mI v_shire))) (fun v_debt_c7 v_paid_c7 => ?_)
      refine tl_bd7 (t_pRoll_splitDebt (Eq.refl N) (Eq.refl (mO rc1)) (Eq.refl (mI x2)) (Eq.refl (mD v_D)) (Eq.refl (mJ v_judge_debt_c6)) (Eq.refl (mJ v_judge_paid_c6)) (Eq.refl (mI v_judge_shire_c6)) (Eq.refl (mI v_judge_term_c6)) (Eq.refl (mL v_judge_stack_c6)) (Eq.refl (mJ v_debt_c7)) (Eq.refl (mJ v_paid_c7)) (Eq.refl (mI v_shire)) (Eq.refl (mL v_putOff_c2))) (fun v_judge_debt_c8 v_judge_paid_c8 v_judge_shire_c8 v_judge_term_c8 v_judge_stack_c8 v_debt_c8 v_putOff_c8 => ?_)
      refine tl_g (fun h1 => ?_)
      exact (tl_e16 (ja_add (Eq.refl (mI x2)) jlitI_1 h1) (Eq.refl (mJ v_judge_debt_c8)) (Eq.refl (mJ v_judge_paid_c8)) (Eq.refl (mI v_judge_shire_c8)) (Eq.refl (mI v_judge_term_c8)) (Eq.refl (mL v_judge_stack_c8)) (Eq.refl (mI v_blanched_c6)) (Eq.refl (mJ v_debt_c8)) (Eq.refl (mJ v_paid_c7)) (ja_add (Eq.refl (mI x2)) jlitI_1 h1) (jupL (Eq.refl (mL v_allowances)) (jx (Eq.refl (mI x2))) (Eq.refl (mJ rc5))) (jupL (Eq.refl (mL v_debts)) (jx (Eq.refl (mI x2))) (Eq.refl (mJ v_debt_c8))) (jupL (Eq.refl (mL v_farms)) (jx (Eq.refl (mI x2))) (Eq.refl (mJ rc3))) (jupL (Eq.refl (mL v_pardons)) (jx (Eq.refl (mI x2))) (Eq.refl (mJ rc6))) (jupL (Eq.refl (mL v_payments)) (jx (Eq.refl (mI x2))) (Eq.refl (mJ v_paid_c7))) (Eq.refl (mL v_putOff_c8)) (t_self _ _ _ _ _ _ _ _ _ _ _ _ _ _ _ _))
theorem t_pRoll_goTo_b5 {N N_j : Nat} (t_N : N = N_j) {a1 : Int32} {a1_j : Int} (t_a1 : mI a1 = a1_j) {v_acts_count : Int32} {v_acts_count_j : Int} (t_v_acts_count : mI v_acts_count = v_acts_count_j) {v_acts_amounts : (Nat → Int32)} {v_acts_amounts_j : (Nat → Int)} (t_v_acts_amounts : mA v_acts_amounts = v_acts_amounts_j) {v_acts_kinds : (Nat → Int32)} {v_acts_kinds_j : (Nat → Int)} (t_v_acts_kinds : mA v_acts_kinds = v_acts_kinds_j) {v_acts_shires : (Nat → Int32)} {v_acts_shires_j : (Nat → Int)} (t_v_acts_shires : mA v_acts_shires = v_acts_shires_j) {v_acts_writs : (Nat → Option Nat)} {v_acts_writs_j : (Nat → Option Nat)} (t_v_acts_writs : mO v_acts_writs = v_acts_writs_j) {v_chest_goodWorths : (Nat → Int32)} {v_chest_goodWorths_j : (Nat → Int)} (t_v_chest_goodWorths : mA v_chest_goodWorths = v_chest_goodWorths_j) {v_D : Dyn} {v_D_j : DynI} (t_v_D : mD v_D = v_D_j) {v_known_fires : (Nat → Int32)} {v_known_fires_j : (Nat → Int)} (t_v_known_fires : mA v_known_fires = v_known_fires_j) {v_known_firstPayments : (Nat → Int32)} {v_known_firstPayments_j : (Nat → Int)} (t_v_known_firstPayments : mA v_known_firstPayments = v_known_firstPayments_j) {v_known_nextPayments : (Nat → Int32)} {v_known_nextPayments_j : (Nat → Int)} (t_v_known_nextPayments : mA v_known_nextPayments = v_known_nextPayments_j) {v_known_writs : (Nat → Int32)} {v_known_writs_j : (Nat → Int)} (t_v_known_writs : mA v_known_writs = v_known_writs_j) {v_shire : Int32} {v_shire_j : Int} (t_v_shire : mI v_shire = v_shire_j) {n n_j : Nat} (t_n : n = n_j) {w0_ : Int32} {w0__j : Int} (t_w0_ : mI w0_ = w0__j) {w1_ : Int64} {w1__j : Int} (t_w1_ : mJ w1_ = w1__j) {w2_ : Int64} {w2__j : Int} (t_w2_ : mJ w2_ = w2__j) {w3_ : Int32} {w3__j : Int} (t_w3_ : mI w3_ = w3__j) {w4_ : Int32} {w4__j : Int} (t_w4_ : mI w4_ = w4__j) {w5_ : (Nat → Int64)} {w5__j : (Nat → Int)} (t_w5_ : mL w5_ = w5__j) {w6_ : Int32} {w6__j : Int} (t_w6_ : mI w6_ = w6__j) {w7_ : Int64} {w7__j : Int} (t_w7_ : mJ w7_ = w7__j) {w8_ : Int64} {w8__j : Int} (t_w8_ : mJ w8_ = w8__j) {w9_ : Int32} {w9__j : Int} (t_w9_ : mI w9_ = w9__j) {w10_ : (Nat → Int64)} {w10__j : (Nat → Int)} (t_w10_ : mL w10_ = w10__j) {w11_ : (Nat → Int64)} {w11__j : (Nat → Int)} (t_w11_ : mL w11_ = w11__j) {w12_ : (Nat → Int64)} {w12__j : (Nat → Int)} (t_w12_ : mL w12_ = w12__j) {w13_ : (Nat → Int64)} {w13__j : (Nat → Int)} (t_w13_ : mL w13_ = w13__j) {w14_ : (Nat → Int64)} {w14__j : (Nat → Int)} (t_w14_ : mL w14_ = w14__j) {w15_ : (Nat → Int64)} {w15__j : (Nat → Int)} (t_w15_ : mL w15_ = w15__j) : tl (mP mJ (mP mJ (mP mI (mP mI (mP mL (mP mI (mP mJ (mP mJ (mP mI (mP mL (mP mL (mP mL (mP mL (mP mL mL)))))))))))))) (iRoll_goTo_b5 N_j a1_j v_acts_count_j v_acts_amounts_j v_acts_kinds_j v_acts_shires_j v_acts_writs_j v_chest_goodWorths_j v_D_j v_known_fires_j v_known_firstPayments_j v_known_nextPayments_j v_known_writs_j v_shire_j n_j w0__j w1__j w2__j w3__j w4__j w5__j w6__j w7__j w8__j w9__j w10__j w11__j w12__j w13__j w14__j w15__j) (pRoll_goTo_b5 N a1 v_acts_count v_acts_amounts v_acts_kinds v_acts_shires v_acts_writs v_chest_goodWorths v_D v_known_fires v_known_firstPayments v_known_nextPayments v_known_writs v_shire n w0_ w1_ w2_ w3_ w4_ w5_ w6_ w7_ w8_ w9_ w10_ w11_ w12_ w13_ w14_ w15_) := by
  subst t_N
  subst t_a1
  subst t_v_acts_count
  subst t_v_acts_amounts
  subst t_v_acts_kinds
  subst t_v_acts_shires
  subst t_v_acts_writs
  subst t_v_chest_goodWorths
  subst t_v_D
  subst t_v_known_fires
  subst t_v_known_firstPayments
  subst t_v_known_nextPayments
  subst t_v_known_writs
  subst t_v_shire
  subst t_n
  subst t_w0_
  subst t_w1_
  subst t_w2_
  subst t_w3_
  subst t_w4_
  subst t_w5_
  subst t_w6_
  subst t_w7_
  subst t_w8_
  subst t_w9_
  subst t_w10_
  subst t_w11_
  subst t_w12_
  subst t_w13_
  subst t_w14_
  subst t_w15_
  exact tl_zlp16 (fun s2 s hs w0_ w1_ w2_ w3_ w4_ w5_ w6_ w7_ w8_ w9_ w10_ w11_ w12_ w13_ w14_ w15_ => t_pRoll_goTo_b5_F (Eq.refl N) (Eq.refl (mI a1)) (Eq.refl (mI v_acts_count)) (Eq.refl (mA v_acts_amounts)) (Eq.refl (mA v_acts_kinds)) (Eq.refl (mA v_acts_shires)) (Eq.refl (mO v_acts_writs)) (Eq.refl (mA v_chest_goodWorths)) (Eq.refl (mD v_D)) (Eq.refl (mA v_known_fires)) (Eq.refl (mA v_known_firstPayments)) (Eq.refl (mA v_known_nextPayments)) (Eq.refl (mA v_known_writs)) (Eq.refl (mI v_shire)) hs (Eq.refl (mI w0_)) (Eq.refl (mJ w1_)) (Eq.refl (mJ w2_)) (Eq.refl (mI w3_)) (Eq.refl (mI w4_)) (Eq.refl (mL w5_)) (Eq.refl (mI w6_)) (Eq.refl (mJ w7_)) (Eq.refl (mJ w8_)) (Eq.refl (mI w9_)) (Eq.refl (mL w10_)) (Eq.refl (mL w11_)) (Eq.refl (mL w12_)) (Eq.refl (mL w13_)) (Eq.refl (mL w14_)) (Eq.refl (mL w15_))) n w0_ w1_ w2_ w3_ w4_ w5_ w6_ w7_ w8_ w9_ w10_ w11_ w12_ w13_ w14_ w15_
theorem t_pRoll_goTo {N N_j : Nat} (t_N : N = N_j) {a1 : Int32} {a1_j : Int} (t_a1 : mI a1 = a1_j) {v_acts_count : Int32} {v_acts_count_j : Int} (t_v_acts_count : mI v_acts_count = v_acts_count_j) {v_acts_amounts : (Nat → Int32)} {v_acts_amounts_j : (Nat → Int)} (t_v_acts_amounts : mA v_acts_amounts = v_acts_amounts_j) {v_acts_kinds : (Nat → Int32)} {v_acts_kinds_j : (Nat → Int)} (t_v_acts_kinds : mA v_acts_kinds = v_acts_kinds_j) {v_acts_shires : (Nat → Int32)} {v_acts_shires_j : (Nat → Int)} (t_v_acts_shires : mA v_acts_shires = v_acts_shires_j) {v_acts_writs : (Nat → Option Nat)} {v_acts_writs_j : (Nat → Option Nat)} (t_v_acts_writs : mO v_acts_writs = v_acts_writs_j) {v_chest_goodWorths : (Nat → Int32)} {v_chest_goodWorths_j : (Nat → Int)} (t_v_chest_goodWorths : mA v_chest_goodWorths = v_chest_goodWorths_j) {v_D : Dyn} {v_D_j : DynI} (t_v_D : mD v_D = v_D_j) {v_judge_debt : Int64} {v_judge_debt_j : Int} (t_v_judge_debt : mJ v_judge_debt = v_judge_debt_j) {v_judge_paid : Int64} {v_judge_paid_j : Int} (t_v_judge_paid : mJ v_judge_paid = v_judge_paid_j) {v_judge_shire : Int32} {v_judge_shire_j : Int} (t_v_judge_shire : mI v_judge_shire = v_judge_shire_j) {v_judge_term : Int32} {v_judge_term_j : Int} (t_v_judge_term : mI v_judge_term = v_judge_term_j) {v_judge_stack : (Nat → Int64)} {v_judge_stack_j : (Nat → Int)} (t_v_judge_stack : mL v_judge_stack = v_judge_stack_j) {v_known_fires : (Nat → Int32)} {v_known_fires_j : (Nat → Int)} (t_v_known_fires : mA v_known_fires = v_known_fires_j) {v_known_firstPayments : (Nat → Int32)} {v_known_firstPayments_j : (Nat → Int)} (t_v_known_firstPayments : mA v_known_firstPayments = v_known_firstPayments_j) {v_known_nextPayments : (Nat → Int32)} {v_known_nextPayments_j : (Nat → Int)} (t_v_known_nextPayments : mA v_known_nextPayments = v_known_nextPayments_j) {v_known_writs : (Nat → Int32)} {v_known_writs_j : (Nat → Int)} (t_v_known_writs : mA v_known_writs = v_known_writs_j) {v_blanched : Int32} {v_blanched_j : Int} (t_v_blanched : mI v_blanched = v_blanched_j) {v_debt : Int64} {v_debt_j : Int} (t_v_debt : mJ v_debt = v_debt_j) {v_paid : Int64} {v_paid_j : Int} (t_v_paid : mJ v_paid = v_paid_j) {v_shire : Int32} {v_shire_j : Int} (t_v_shire : mI v_shire = v_shire_j) {v_told : Int32} {v_told_j : Int} (t_v_told : mI v_told = v_told_j) {v_allowances : (Nat → Int64)} {v_allowances_j : (Nat → Int)} (t_v_allowances : mL v_allowances = v_allowances_j) {v_debts : (Nat → Int64)} {v_debts_j : (Nat → Int)} (t_v_debts : mL v_debts = v_debts_j) {v_farms : (Nat → Int64)} {v_farms_j : (Nat → Int)} (t_v_farms : mL v_farms = v_farms_j) {v_pardons : (Nat → Int64)} {v_pardons_j : (Nat → Int)} (t_v_pardons : mL v_pardons = v_pardons_j) {v_payments : (Nat → Int64)} {v_payments_j : (Nat → Int)} (t_v_payments : mL v_payments = v_payments_j) {v_putOff : (Nat → Int64)} {v_putOff_j : (Nat → Int)} (t_v_putOff : mL v_putOff = v_putOff_j) : tl (mP mJ (mP mJ (mP mI (mP mI (mP mL (mP mI (mP mJ (mP mJ (mP mI (mP mL (mP mL (mP mL (mP mL (mP mL mL)))))))))))))) (iRoll_goTo N_j a1_j v_acts_count_j v_acts_amounts_j v_acts_kinds_j v_acts_shires_j v_acts_writs_j v_chest_goodWorths_j v_D_j v_judge_debt_j v_judge_paid_j v_judge_shire_j v_judge_term_j v_judge_stack_j v_known_fires_j v_known_firstPayments_j v_known_nextPayments_j v_known_writs_j v_blanched_j v_debt_j v_paid_j v_shire_j v_told_j v_allowances_j v_debts_j v_farms_j v_pardons_j v_payments_j v_putOff_j) (pRoll_goTo N a1 v_acts_count v_acts_amounts v_acts_kinds v_acts_shires v_acts_writs v_chest_goodWorths v_D v_judge_debt v_judge_paid v_judge_shire v_judge_term v_judge_stack v_known_fires v_known_firstPayments v_known_nextPayments v_known_writs v_blanched v_debt v_paid v_shire v_told v_allowances v_debts v_farms v_pardons v_payments v_putOff) := by
  subst t_N
  subst t_a1
  subst t_v_acts_count
  subst t_v_acts_amounts
  subst t_v_acts_kinds
  subst t_v_acts_shires
  subst t_v_acts_writs
  subst t_v_chest_goodWorths
  subst t_v_D
  subst t_v_judge_debt
  subst t_v_judge_paid
  subst t_v_judge_shire
  subst t_v_judge_term
  subst t_v_judge_stack
  subst t_v_known_fires
  subst t_v_known_firstPayments
  subst t_v_known_nextPayments
  subst t_v_known_writs
  subst t_v_blanched
  subst t_v_debt
  subst t_v_paid
  subst t_v_shire
  subst t_v_told
  subst t_v_allowances
  subst t_v_debts
  subst t_v_farms
  subst t_v_pardons
  subst t_v_payments
  subst t_v_putOff
  unfold iRoll_goTo pRoll_goTo
  exact (t_pRoll_goTo_b5 (Eq.refl N) (Eq.refl (mI a1)) (Eq.refl (mI v_acts_count)) (Eq.refl (mA v_acts_amounts)) (Eq.refl (mA v_acts_kinds)) (Eq.refl (mA v_acts_shires)) (Eq.refl (mO v_acts_writs)) (Eq.refl (mA v_chest_goodWorths)) (Eq.refl (mD v_D)) (Eq.refl (mA v_known_fires)) (Eq.refl (mA v_known_firstPayments)) (Eq.refl (mA v_known_nextPayments)) (Eq.refl (mA v_known_writs)) (Eq.refl (mI v_shire)) (Eq.refl N) (Eq.refl (mI v_told)) (Eq.refl (mJ v_judge_debt)) (Eq.refl (mJ v_judge_paid)) (Eq.refl (mI v_judge_shire)) (Eq.refl (mI v_judge_term)) (Eq.refl (mL v_judge_stack)) (Eq.refl (mI v_blanched)) (Eq.refl (mJ v_debt)) (Eq.refl (mJ v_paid)) (Eq.refl (mI v_told)) (Eq.refl (mL v_allowances)) (Eq.refl (mL v_debts)) (Eq.refl (mL v_farms)) (Eq.refl (mL v_pardons)) (Eq.refl (mL v_payments)) (Eq.refl (mL v_putOff)))
theorem t_pRoll_putOffAfter_b8_F {N N_j : Nat} (t_N : N = N_j) {a1 : Int32} {a1_j : Int} (t_a1 : mI a1 = a1_j) {v_putOff : (Nat → Int64)} {v_putOff_j : (Nat → Int)} (t_v_putOff : mL v_putOff = v_putOff_j) {self : Int64 → Int32 → Option R_pRoll_putOffAfter} {self_j : Int → Int → Option Int} (t_self : ∀ (q0_ : Int64) (q1_ : Int32), tl (mJ) (self_j (mJ q0_) (mI q1_)) (self q0_ q1_)) {x2 : Int64} {x2_j : Int} (t_x2 : mJ x2 = x2_j) {x4 : Int32} {x4_j : Int} (t_x4 : mI x4 = x4_j) : tl (mJ) (iRoll_putOffAfter_b8_F N_j a1_j v_putOff_j self_j x2_j x4_j) (pRoll_putOffAfter_b8_F N a1 v_putOff self x2 x4) := by
  subst t_N
  subst t_a1
  subst t_v_putOff
  subst t_x2
  subst t_x4
  unfold iRoll_putOffAfter_b8_F pRoll_putOffAfter_b8_F
  refine tl_g (fun h1 => ?_)
  refine tl_g (fun h2 => ?_)
  refine tl_ite (jc_le (ja_mul (ja_add (Eq.refl (mI a1)) jlitI_1 h1) jlitI_19 h2) (Eq.refl (mI x4))) ?_ ?_
  · exact (tl_some (Eq.refl (mJ x2)))
  · refine tl_gd (jg_ib (Eq.refl (mI x4))) (fun _ => ?_)
    refine tl_g (fun h3 => ?_)
    refine tl_g (fun h4 => ?_)
    exact (tl_e2 (jL_add (Eq.refl (mJ x2)) (jrdL (Eq.refl (mL v_putOff)) (jx (Eq.refl (mI x4)))) h3) (ja_add (Eq.refl (mI x4)) jlitI_1 h4) (t_self _ _))
theorem t_pRoll_putOffAfter_b8 {N N_j : Nat} (t_N : N = N_j) {a1 : Int32} {a1_j : Int} (t_a1 : mI a1 = a1_j) {v_putOff : (Nat → Int64)} {v_putOff_j : (Nat → Int)} (t_v_putOff : mL v_putOff = v_putOff_j) {n n_j : Nat} (t_n : n = n_j) {w0_ : Int64} {w0__j : Int} (t_w0_ : mJ w0_ = w0__j) {w1_ : Int32} {w1__j : Int} (t_w1_ : mI w1_ = w1__j) : tl (mJ) (iRoll_putOffAfter_b8 N_j a1_j v_putOff_j n_j w0__j w1__j) (pRoll_putOffAfter_b8 N a1 v_putOff n w0_ w1_) := by
  subst t_N
  subst t_a1
  subst t_v_putOff
  subst t_n
  subst t_w0_
  subst t_w1_
  exact tl_zlp2 (fun s2 s hs w0_ w1_ => t_pRoll_putOffAfter_b8_F (Eq.refl N) (Eq.refl (mI a1)) (Eq.refl (mL v_putOff)) hs (Eq.refl (mJ w0_)) (Eq.refl (mI w1_))) n w0_ w1_
theorem t_pRoll_putOffAfter {N N_j : Nat} (t_N : N = N_j) {a1 : Int32} {a1_j : Int} (t_a1 : mI a1 = a1_j) {v_putOff : (Nat → Int64)} {v_putOff_j : (Nat → Int)} (t_v_putOff : mL v_putOff = v_putOff_j) : tl (mJ) (iRoll_putOffAfter N_j a1_j v_putOff_j) (pRoll_putOffAfter N a1 v_putOff) := by
  subst t_N
  subst t_a1
  subst t_v_putOff
  unfold iRoll_putOffAfter pRoll_putOffAfter
  refine tl_g (fun h1 => ?_)
  exact (t_pRoll_putOffAfter_b8 (Eq.refl N) (Eq.refl (mI a1)) (Eq.refl (mL v_putOff)) (Eq.refl N) jlitJ_0 (ja_mul (Eq.refl (mI a1)) jlitI_19 h1))
theorem t_pRoll_entry {N N_j : Nat} (t_N : N = N_j) {a1 : Int32} {a1_j : Int} (t_a1 : mI a1 = a1_j) {a2 : Int32} {a2_j : Int} (t_a2 : mI a2 = a2_j) {v_allowances : (Nat → Int64)} {v_allowances_j : (Nat → Int)} (t_v_allowances : mL v_allowances = v_allowances_j) {v_debts : (Nat → Int64)} {v_debts_j : (Nat → Int)} (t_v_debts : mL v_debts = v_debts_j) {v_farms : (Nat → Int64)} {v_farms_j : (Nat → Int)} (t_v_farms : mL v_farms = v_farms_j) {v_pardons : (Nat → Int64)} {v_pardons_j : (Nat → Int)} (t_v_pardons : mL v_pardons = v_pardons_j) {v_payments : (Nat → Int64)} {v_payments_j : (Nat → Int)} (t_v_payments : mL v_payments = v_payments_j) {v_putOff : (Nat → Int64)} {v_putOff_j : (Nat → Int)} (t_v_putOff : mL v_putOff = v_putOff_j) : tl (mJ) (iRoll_entry N_j a1_j a2_j v_allowances_j v_debts_j v_farms_j v_pardons_j v_payments_j v_putOff_j) (pRoll_entry N a1 a2 v_allowances v_debts v_farms v_pardons v_payments v_putOff) := by
  subst t_N
  subst t_a1
  subst t_a2
  subst t_v_allowances
  subst t_v_debts
  subst t_v_farms
  subst t_v_pardons
  subst t_v_payments
  subst t_v_putOff
  unfold iRoll_entry pRoll_entry
  refine tl_bd1 (t_pK_isTerm (Eq.refl (mI a1))) (fun rc1 => ?_)
  refine tl_ite (jc_eq (Eq.refl (mI rc1)) jlitI_0) ?_ ?_
  · exact (tl_some jlitJ_m2000000000000)
  · refine tl_ite (jc_eq (Eq.refl (mI a2)) jlitI_0) ?_ ?_
    · refine tl_gd (jg_ib (Eq.refl (mI a1))) (fun _ => ?_)
      exact (tl_some (jrdL (Eq.refl (mL v_debts)) (jx (Eq.refl (mI a1)))))
    · refine tl_ite (jc_eq (Eq.refl (mI a2)) jlitI_1) ?_ ?_
      · refine tl_bd1 (t_pRoll_putOffAfter (Eq.refl N) (Eq.refl (mI a1)) (Eq.refl (mL v_putOff))) (fun rc3 => ?_)
        exact (tl_some (Eq.refl (mJ rc3)))
      · refine tl_ite (jc_eq (Eq.refl (mI a2)) jlitI_2) ?_ ?_
        · refine tl_gd (jg_ib (Eq.refl (mI a1))) (fun _ => ?_)
          exact (tl_some (jrdL (Eq.refl (mL v_farms)) (jx (Eq.refl (mI a1)))))
        · refine tl_ite (jc_eq (Eq.refl (mI a2)) jlitI_3) ?_ ?_
          · refine tl_gd (jg_ib (Eq.refl (mI a1))) (fun _ => ?_)
            exact (tl_some (jrdL (Eq.refl (mL v_allowances)) (jx (Eq.refl (mI a1)))))
          · refine tl_ite (jc_eq (Eq.refl (mI a2)) jlitI_4) ?_ ?_
            · refine tl_gd (jg_ib (Eq.refl (mI a1))) (fun _ => ?_)
              exact (tl_some (jrdL (Eq.refl (mL v_pardons)) (jx (Eq.refl (mI a1)))))
            · refine tl_ite (jc_eq (Eq.refl (mI a2)) jlitI_5) ?_ ?_
              · refine tl_gd (jg_ib (Eq.refl (mI a1))) (fun _ => ?_)
                exact (tl_some (jrdL (Eq.refl (mL v_payments)) (jx (Eq.refl (mI a1)))))
              · refine tl_ite (jc_eq (Eq.refl (mI a2)) jlitI_6) ?_ ?_
                · refine tl_gd (jg_ib (Eq.refl (mI a1))) (fun _ => ?_)
                  refine tl_ite (jk_gt (jrdL (Eq.refl (mL v_debts)) (jx (Eq.refl (mI a1)))) jlitJ_0) ?_ ?_
                  · exact (tl_some jlitJ_0)
                  · refine tl_bd1 (t_pRoll_putOffAfter (Eq.refl N) (Eq.refl (mI a1)) (Eq.refl (mL v_putOff))) (fun rc9 => ?_)
                    refine tl_ite (jk_eq (Eq.refl (mJ rc9)) jlitJ_0) ?_ ?_
                    · exact (tl_some jlitJ_1)
                    · exact (tl_some jlitJ_0)
                · exact (tl_some jlitJ_m2000000000000)
theorem t_pRoll_shireOf {v_shire : Int32} {v_shire_j : Int} (t_v_shire : mI v_shire = v_shire_j) : tl (mI) (iRoll_shireOf v_shire_j) (pRoll_shireOf v_shire) := by
  subst t_v_shire
  unfold iRoll_shireOf pRoll_shireOf
  exact (tl_some (Eq.refl (mI v_shire)))
theorem t_pRoll_beginLike {a2 : Int32} {a2_j : Int} (t_a2 : mI a2 = a2_j) {v_a1_shire : Int32} {v_a1_shire_j : Int} (t_v_a1_shire : mI v_a1_shire = v_a1_shire_j) {v_a1_told : Int32} {v_a1_told_j : Int} (t_v_a1_told : mI v_a1_told = v_a1_told_j) {v_a1_debts : (Nat → Int64)} {v_a1_debts_j : (Nat → Int)} (t_v_a1_debts : mL v_a1_debts = v_a1_debts_j) {v_a1_putOff : (Nat → Int64)} {v_a1_putOff_j : (Nat → Int)} (t_v_a1_putOff : mL v_a1_putOff = v_a1_putOff_j) {v_shire : Int32} {v_shire_j : Int} (t_v_shire : mI v_shire = v_shire_j) {v_told : Int32} {v_told_j : Int} (t_v_told : mI v_told = v_told_j) {v_debts : (Nat → Int64)} {v_debts_j : (Nat → Int)} (t_v_debts : mL v_debts = v_debts_j) {v_putOff : (Nat → Int64)} {v_putOff_j : (Nat → Int)} (t_v_putOff : mL v_putOff = v_putOff_j) : tl (mP mI (mP mI (mP mL mL))) (iRoll_beginLike a2_j v_a1_shire_j v_a1_told_j v_a1_debts_j v_a1_putOff_j v_shire_j v_told_j v_debts_j v_putOff_j) (pRoll_beginLike a2 v_a1_shire v_a1_told v_a1_debts v_a1_putOff v_shire v_told v_debts v_putOff) := by
  subst t_a2
  subst t_v_a1_shire
  subst t_v_a1_told
  subst t_v_a1_debts
  subst t_v_a1_putOff
  subst t_v_shire
  subst t_v_told
  subst t_v_debts
  subst t_v_putOff
  unfold iRoll_beginLike pRoll_beginLike
  refine tl_gd (jg_cp jlitI_0 jlitI_0 (ja_max jlitI_0 (ja_min (Eq.refl (mI a2)) (Eq.refl (mI v_a1_told))))) (fun _ => ?_)
  refine tl_g (fun h1 => ?_)
  refine tl_gd (jg_cp jlitI_0 jlitI_0 (ja_mul (ja_max jlitI_0 (ja_min (Eq.refl (mI a2)) (Eq.refl (mI v_a1_told)))) jlitI_19 h1)) (fun _ => ?_)
  exact (tl_some (jp2 (Eq.refl (mI v_a1_shire)) (jp2 (ja_max jlitI_0 (ja_min (Eq.refl (mI a2)) (Eq.refl (mI v_a1_told)))) (jp2 (jcpL (Eq.refl (mL v_a1_debts)) (Eq.refl (mL v_debts)) (jx jlitI_0) (jx jlitI_0) (jx (ja_max jlitI_0 (ja_min (Eq.refl (mI a2)) (Eq.refl (mI v_a1_told)))))) (jcpL (Eq.refl (mL v_a1_putOff)) (Eq.refl (mL v_putOff)) (jx jlitI_0) (jx jlitI_0) (jx (ja_mul (ja_max jlitI_0 (ja_min (Eq.refl (mI a2)) (Eq.refl (mI v_a1_told)))) jlitI_19 h1)))))))
theorem t_pRoll_nextTerm {v_told : Int32} {v_told_j : Int} (t_v_told : mI v_told = v_told_j) : tl (mI) (iRoll_nextTerm v_told_j) (pRoll_nextTerm v_told) := by
  subst t_v_told
  unfold iRoll_nextTerm pRoll_nextTerm
  exact (tl_some (Eq.refl (mI v_told)))
theorem t_pRoll_isLike_b30_F {N N_j : Nat} (t_N : N = N_j) {a2 : Int32} {a2_j : Int} (t_a2 : mI a2 = a2_j) {v_a1_debts : (Nat → Int64)} {v_a1_debts_j : (Nat → Int)} (t_v_a1_debts : mL v_a1_debts = v_a1_debts_j) {v_a1_putOff : (Nat → Int64)} {v_a1_putOff_j : (Nat → Int)} (t_v_a1_putOff : mL v_a1_putOff = v_a1_putOff_j) {v_debts : (Nat → Int64)} {v_debts_j : (Nat → Int)} (t_v_debts : mL v_debts = v_debts_j) {v_putOff : (Nat → Int64)} {v_putOff_j : (Nat → Int)} (t_v_putOff : mL v_putOff = v_putOff_j) {self : Int32 → Option R_pRoll_isLike} {self_j : Int → Option Int} (t_self : ∀ (q0_ : Int32), tl (mI) (self_j (mI q0_)) (self q0_)) {x3 : Int32} {x3_j : Int} (t_x3 : mI x3 = x3_j) : tl (mI) (iRoll_isLike_b30_F N_j a2_j v_a1_debts_j v_a1_putOff_j v_debts_j v_putOff_j self_j x3_j) (pRoll_isLike_b30_F N a2 v_a1_debts v_a1_putOff v_debts v_putOff self x3) := by
  subst t_N
  subst t_a2
  subst t_v_a1_debts
  subst t_v_a1_putOff
  subst t_v_debts
  subst t_v_putOff
  subst t_x3
  unfold iRoll_isLike_b30_F pRoll_isLike_b30_F
  refine tl_g (fun h1 => ?_)
  refine tl_g (fun h2 => ?_)
  refine tl_ite (jc_le (ja_mul (ja_add (Eq.refl (mI a2)) jlitI_1 h1) jlitI_19 h2) (Eq.refl (mI x3))) ?_ ?_
  · exact (tl_some jlitI_1)
  · refine tl_gd (jg_ib (Eq.refl (mI x3))) (fun _ => ?_)
    refine tl_ite (jk_eq (jrdL (Eq.refl (mL v_putOff)) (jx (Eq.refl (mI x3)))) (jrdL (Eq.refl (mL v_a1_putOff)) (jx (Eq.refl (mI x3))))) ?_ ?_
    · refine tl_g (fun h3 => ?_)
      exact (tl_e1 (ja_add (Eq.refl (mI x3)) jlitI_1 h3) (t_self _))
    · exact (tl_some jlitI_0)
theorem t_pRoll_isLike_b30 {N N_j : Nat} (t_N : N = N_j) {a2 : Int32} {a2_j : Int} (t_a2 : mI a2 = a2_j) {v_a1_debts : (Nat → Int64)} {v_a1_debts_j : (Nat → Int)} (t_v_a1_debts : mL v_a1_debts = v_a1_debts_j) {v_a1_putOff : (Nat → Int64)} {v_a1_putOff_j : (Nat → Int)} (t_v_a1_putOff : mL v_a1_putOff = v_a1_putOff_j) {v_debts : (Nat → Int64)} {v_debts_j : (Nat → Int)} (t_v_debts : mL v_debts = v_debts_j) {v_putOff : (Nat → Int64)} {v_putOff_j : (Nat → Int)} (t_v_putOff : mL v_putOff = v_putOff_j) {n n_j : Nat} (t_n : n = n_j) {w0_ : Int32} {w0__j : Int} (t_w0_ : mI w0_ = w0__j) : tl (mI) (iRoll_isLike_b30 N_j a2_j v_a1_debts_j v_a1_putOff_j v_debts_j v_putOff_j n_j w0__j) (pRoll_isLike_b30 N a2 v_a1_debts v_a1_putOff v_debts v_putOff n w0_) := by
  subst t_N
  subst t_a2
  subst t_v_a1_debts
  subst t_v_a1_putOff
  subst t_v_debts
  subst t_v_putOff
  subst t_n
  subst t_w0_
  exact tl_zlp1 (fun s2 s hs w0_ => t_pRoll_isLike_b30_F (Eq.refl N) (Eq.refl (mI a2)) (Eq.refl (mL v_a1_debts)) (Eq.refl (mL v_a1_putOff)) (Eq.refl (mL v_debts)) (Eq.refl (mL v_putOff)) hs (Eq.refl (mI w0_))) n w0_
theorem t_pRoll_isLike {N N_j : Nat} (t_N : N = N_j) {a2 : Int32} {a2_j : Int} (t_a2 : mI a2 = a2_j) {v_a1_debts : (Nat → Int64)} {v_a1_debts_j : (Nat → Int)} (t_v_a1_debts : mL v_a1_debts = v_a1_debts_j) {v_a1_putOff : (Nat → Int64)} {v_a1_putOff_j : (Nat → Int)} (t_v_a1_putOff : mL v_a1_putOff = v_a1_putOff_j) {v_debts : (Nat → Int64)} {v_debts_j : (Nat → Int)} (t_v_debts : mL v_debts = v_debts_j) {v_putOff : (Nat → Int64)} {v_putOff_j : (Nat → Int)} (t_v_putOff : mL v_putOff = v_putOff_j) : tl (mI) (iRoll_isLike N_j a2_j v_a1_debts_j v_a1_putOff_j v_debts_j v_putOff_j) (pRoll_isLike N a2 v_a1_debts v_a1_putOff v_debts v_putOff) := by
  subst t_N
  subst t_a2
  subst t_v_a1_debts
  subst t_v_a1_putOff
  subst t_v_debts
  subst t_v_putOff
  unfold iRoll_isLike pRoll_isLike
  refine tl_bd1 (t_pK_isTerm (Eq.refl (mI a2))) (fun rc1 => ?_)
  refine tl_ite (jc_eq (Eq.refl (mI rc1)) jlitI_0) ?_ ?_
  · exact (tl_some jlitI_0)
  · refine tl_gd (jg_ib (Eq.refl (mI a2))) (fun _ => ?_)
    refine tl_ite (jk_eq (jrdL (Eq.refl (mL v_debts)) (jx (Eq.refl (mI a2)))) (jrdL (Eq.refl (mL v_a1_debts)) (jx (Eq.refl (mI a2))))) ?_ ?_
    · refine tl_g (fun h1 => ?_)
      exact (t_pRoll_isLike_b30 (Eq.refl N) (Eq.refl (mI a2)) (Eq.refl (mL v_a1_debts)) (Eq.refl (mL v_a1_putOff)) (Eq.refl (mL v_debts)) (Eq.refl (mL v_putOff)) (Eq.refl N) (ja_mul (Eq.refl (mI a2)) jlitI_19 h1))
    · exact (tl_some jlitI_0)
theorem t_pRoll_goBack {a1 : Int32} {a1_j : Int} (t_a1 : mI a1 = a1_j) {v_told : Int32} {v_told_j : Int} (t_v_told : mI v_told = v_told_j) : tl (mI) (iRoll_goBack a1_j v_told_j) (pRoll_goBack a1 v_told) := by
  subst t_a1
  subst t_v_told
  unfold iRoll_goBack pRoll_goBack
  exact (tl_some (ja_max jlitI_0 (ja_min (Eq.refl (mI a1)) (Eq.refl (mI v_told)))))
