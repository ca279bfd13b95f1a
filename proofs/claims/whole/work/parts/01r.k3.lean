set_option maxHeartbeats 4000000
set_option maxRecDepth 100000
abbrev R_pActs_isFull : Type := Int32
def pActs_isFull (v_count : Int32) : Option R_pActs_isFull :=
  if v_count < 200 then
    some 0
  else
    some 1
abbrev R_pActs_add : Type := Int32 × Int32 × (Nat → Int32) × (Nat → Int32) × (Nat → Int32) × (Nat → Int32)
def pActs_add (a1 : Int32) (a2 : Int32) (a3 : Int32) (a4 : Int32) (v_count : Int32) (v_amounts : (Nat → Int32)) (v_kinds : (Nat → Int32)) (v_shires : (Nat → Int32)) (v_terms : (Nat → Int32)) : Option R_pActs_add :=
  bd1 (pActs_isFull v_count) fun rc1 =>
  if rc1 = 0 then
    gd (ib (v_count + 1) 201) <|
    some ((v_count + 1), (v_count + 1), (upd v_amounts (ix (v_count + 1)) a4), (upd v_kinds (ix (v_count + 1)) a1), (upd v_shires (ix (v_count + 1)) a2), (upd v_terms (ix (v_count + 1)) a3))
  else
    some ((-1), v_count, v_amounts, v_kinds, v_shires, v_terms)
abbrev R_pActs_addWrit : Type := Int32 × Int32 × (Nat → Int32) × (Nat → Int32) × (Nat → Int32) × (Nat → Int32) × (Nat → Option Nat)
def pActs_addWrit (a1 : Int32) (a2 : (Option Nat)) (v_D : Dyn) (v_count : Int32) (v_amounts : (Nat → Int32)) (v_kinds : (Nat → Int32)) (v_shires : (Nat → Int32)) (v_terms : (Nat → Int32)) (v_writs : (Nat → Option Nat)) : Option R_pActs_addWrit :=
  bd6 (pActs_add 1 (-1) a1 0 v_count v_amounts v_kinds v_shires v_terms) fun rc1 v_count_c1 v_amounts_c1 v_kinds_c1 v_shires_c1 v_terms_c1 =>
  if rc1 = (-1) then
    some (rc1, v_count_c1, v_amounts_c1, v_kinds_c1, v_shires_c1, v_terms_c1, v_writs)
  else
    gd (dRt v_D a2 1) <|
    gd (ib rc1 201) <|
    some (rc1, v_count_c1, v_amounts_c1, v_kinds_c1, v_shires_c1, v_terms_c1, (va_up v_writs (ix rc1) a2))
abbrev R_pActs_size : Type := Int32
def pActs_size (v_count : Int32) : Option R_pActs_size :=
  some v_count
abbrev R_pActs_isAct : Type := Int32
def pActs_isAct (a1 : Int32) (v_count : Int32) : Option R_pActs_isAct :=
  if a1 < 1 then
    some 0
  else
    if v_count < a1 then
      some 0
    else
      some 1
abbrev R_pActs_isKnown : Type := Int32
def pActs_isKnown (a1 : Int32) (a2 : Int32) (v_count : Int32) (v_kinds : (Nat → Int32)) (v_voidedBy : (Nat → Int32)) : Option R_pActs_isKnown :=
  bd1 (pActs_isAct a1 v_count) fun rc1 =>
  if rc1 = 0 then
    some 0
  else
    if a2 < a1 then
      some 0
    else
      gd (ib a1 201) <|
      if (v_kinds (ix a1)) = 5 then
        some 0
      else
        if (v_voidedBy (ix a1)) = 0 then
          some 1
        else
          if (v_voidedBy (ix a1)) ≤ a2 then
            some 0
          else
            some 1
abbrev R_pActs_isPayment : Type := Int32
def pActs_isPayment (a1 : Int32) (v_count : Int32) (v_kinds : (Nat → Int32)) : Option R_pActs_isPayment :=
  bd1 (pActs_isAct a1 v_count) fun rc1 =>
  if rc1 = 0 then
    some 0
  else
    gd (ib a1 201) <|
    if (v_kinds (ix a1)) = 2 then
      some 1
    else
      if (v_kinds (ix a1)) = 3 then
        some 1
      else
        some 0
abbrev R_pActs_addPayment : Type := Int32 × Int32 × Int32 × (Nat → Int32) × (Nat → Int32) × (Nat → Int32) × (Nat → Int32)
def pActs_addPayment (a1 : Int32) (a2 : Int32) (a3 : Int32) (a4 : Int32) (v_count : Int32) (v_payments : Int32) (v_amounts : (Nat → Int32)) (v_kinds : (Nat → Int32)) (v_shires : (Nat → Int32)) (v_terms : (Nat → Int32)) : Option R_pActs_addPayment :=
  if 60 ≤ v_payments then
    some ((-1), v_count, v_payments, v_amounts, v_kinds, v_shires, v_terms)
  else
    bd1 (pActs_isFull v_count) fun rc1 =>
    if rc1 = 0 then
      bd6 (pActs_add a1 a2 a3 a4 v_count v_amounts v_kinds v_shires v_terms) fun rc2 v_count_c2 v_amounts_c2 v_kinds_c2 v_shires_c2 v_terms_c2 =>
      some (rc2, v_count_c2, (v_payments + 1), v_amounts_c2, v_kinds_c2, v_shires_c2, v_terms_c2)
    else
      some ((-1), v_count, v_payments, v_amounts, v_kinds, v_shires, v_terms)
abbrev R_pActs_addVoid : Type := Int32 × Int32 × (Nat → Int32) × (Nat → Int32) × (Nat → Int32) × (Nat → Int32) × (Nat → Int32)
def pActs_addVoid (a1 : Int32) (v_count : Int32) (v_amounts : (Nat → Int32)) (v_kinds : (Nat → Int32)) (v_shires : (Nat → Int32)) (v_terms : (Nat → Int32)) (v_voidedBy : (Nat → Int32)) : Option R_pActs_addVoid :=
  bd1 (pActs_isAct a1 v_count) fun rc1 =>
  if rc1 = 0 then
    some ((-1), v_count, v_amounts, v_kinds, v_shires, v_terms, v_voidedBy)
  else
    gd (ib a1 201) <|
    if (v_kinds (ix a1)) = 5 then
      some ((-1), v_count, v_amounts, v_kinds, v_shires, v_terms, v_voidedBy)
    else
      if (v_voidedBy (ix a1)) = 0 then
        bd1 (pActs_isFull v_count) fun rc3 =>
        if rc3 = 0 then
          bd6 (pActs_add 5 (v_shires (ix a1)) (v_terms (ix a1)) a1 v_count v_amounts v_kinds v_shires v_terms) fun rc4 v_count_c4 v_amounts_c4 v_kinds_c4 v_shires_c4 v_terms_c4 =>
          some (((upd v_voidedBy (ix a1) rc4) (ix a1)), v_count_c4, v_amounts_c4, v_kinds_c4, v_shires_c4, v_terms_c4, (upd v_voidedBy (ix a1) rc4))
        else
          some ((-1), v_count, v_amounts, v_kinds, v_shires, v_terms, v_voidedBy)
      else
        some ((-1), v_count, v_amounts, v_kinds, v_shires, v_terms, v_voidedBy)
abbrev R_pActs_canTouch : Type := Int32
def pActs_canTouch (a1 : Int32) (a2 : Int32) (a3 : Int32) (v_count : Int32) (v_shires : (Nat → Int32)) (v_terms : (Nat → Int32)) : Option R_pActs_canTouch :=
  bd1 (pActs_isAct a1 v_count) fun rc1 =>
  if rc1 = 0 then
    some 0
  else
    gd (ib a1 201) <|
    if a3 < (v_terms (ix a1)) then
      some 0
    else
      if (v_shires (ix a1)) = (-1) then
        some 1
      else
        if (v_shires (ix a1)) = a2 then
          some 1
        else
          some 0
abbrev R_pJudge_setMoment : Type := Int64 × Int64 × Int32 × Int32
def pJudge_setMoment (a1 : Int32) (a2 : Int32) (a3 : Int64) (a5 : Int64) (v_debt : Int64) (v_paid : Int64) (v_shire : Int32) (v_term : Int32) : Option R_pJudge_setMoment :=
  some ((m_minL 1000000000 (m_maxL (-1000000000) a3)), (m_minL 1000000000 (m_maxL (-1000000000) a5)), a1, a2)
abbrev R_pJudge_present : Type := Int64
def pJudge_present (a1 : Int32) (v_debt : Int64) (v_paid : Int64) (v_term : Int32) : Option R_pJudge_present :=
  if a1 = (-3) then
    some v_debt
  else if a1 = (-2) then
    some (i2l (v_term / 2))
  else if a1 = (-1) then
    some (i2l v_term)
  else
    some v_paid
abbrev R_pJudge_together : Type := Int64
def pJudge_together (a0 : Int32) (a1 : Int64) (a3 : Int64) : Option R_pJudge_together :=
  if a0 = (-17) then
    some (m_maxL a1 a3)
  else if a0 = (-16) then
    some (m_minL a1 a3)
  else if a0 = (-14) then
    if (lg_cmp a1 a3) ≤ 0 then
      some 0
    else
      some 1
  else if a0 = (-13) then
    if 0 ≤ (lg_cmp a1 a3) then
      some 0
    else
      some 1
  else if a0 = (-12) then
    some (m_maxL a1 a3)
  else if a0 = (-11) then
    some (m_minL a1 a3)
  else if a0 = (-10) then
    if (lg_cmp a3 0) = 0 then
      some 0
    else
      bd1 (pJMath_floorDivL a1 a3) fun rc1 =>
      some rc1
  else if a0 = (-9) then
    some (m_minL 1000000000 (m_maxL (-1000000000) (a1 * a3)))
  else if a0 = (-8) then
    some (m_minL 1000000000 (m_maxL (-1000000000) (a1 - a3)))
  else if a0 = (-7) then
    some (m_minL 1000000000 (m_maxL (-1000000000) (a1 + a3)))
  else
    if (lg_cmp a1 a3) = 0 then
      some 1
    else
      some 0
abbrev R_pJudge_valueOf : Type := Int64 × (Nat → Int64)
def pJudge_valueOf_b127 (N : Nat) (a1 : (Option Nat)) (a2 : Int32) (a3 : Int32) (v_D : Dyn) (v_debt : Int64) (v_paid : Int64) (v_shire : Int32) (v_term : Int32) (self : Int32 → Int32 → (Nat → Int64) → Option R_pJudge_valueOf) (k176 : Int32 → (Nat → Int64) → Option R_pJudge_valueOf) (x4 : Int32) (x5 : Int32) (s1 : Int32) (s2 : Int64) (v_stack : (Nat → Int64)) : Option R_pJudge_valueOf :=
  gd (ib s1 64) <|
  self x4 (x5 + 1) (vp_updL v_stack (ix s1) s2)
def pJudge_valueOf_b117 (N : Nat) (a1 : (Option Nat)) (a2 : Int32) (a3 : Int32) (v_D : Dyn) (v_debt : Int64) (v_paid : Int64) (v_shire : Int32) (v_term : Int32) (self : Int32 → Int32 → (Nat → Int64) → Option R_pJudge_valueOf) (k176 : Int32 → (Nat → Int64) → Option R_pJudge_valueOf) (x4 : Int32) (x5 : Int32) (s1 : Int32) (s2 : Int64) (s3 : Int32) (v_stack : (Nat → Int64)) : Option R_pJudge_valueOf :=
  if (lg_cmp s2 (i2l s3)) = 0 then
    pJudge_valueOf_b127 N a1 a2 a3 v_D v_debt v_paid v_shire v_term self k176 x4 x5 s1 1 v_stack
  else
    pJudge_valueOf_b127 N a1 a2 a3 v_D v_debt v_paid v_shire v_term self k176 x4 x5 s1 0 v_stack
def pJudge_valueOf_b66 (N : Nat) (a1 : (Option Nat)) (a2 : Int32) (a3 : Int32) (v_D : Dyn) (v_debt : Int64) (v_paid : Int64) (v_shire : Int32) (v_term : Int32) (self : Int32 → Int32 → (Nat → Int64) → Option R_pJudge_valueOf) (k176 : Int32 → (Nat → Int64) → Option R_pJudge_valueOf) (x4 : Int32) (x5 : Int32) (s1 : Int32) (s2 : Int64) (v_stack : (Nat → Int64)) : Option R_pJudge_valueOf :=
  gd (ib s1 64) <|
  self (x4 + 1) (x5 + 1) (vp_updL v_stack (ix s1) s2)
def pJudge_valueOf_b10_F (N : Nat) (a1 : (Option Nat)) (a2 : Int32) (a3 : Int32) (v_D : Dyn) (v_debt : Int64) (v_paid : Int64) (v_shire : Int32) (v_term : Int32) (k176 : Int32 → (Nat → Int64) → Option R_pJudge_valueOf) (self : Int32 → Int32 → (Nat → Int64) → Option R_pJudge_valueOf) (x4 : Int32) (x5 : Int32) (v_stack : (Nat → Int64)) : Option R_pJudge_valueOf :=
  if a3 ≤ x5 then
    k176 x4 v_stack
  else
    bd1 a1 fun y1 =>
    bd1 (dLen v_D y1 3) fun n2 =>
    if (Int32.ofNat n2) ≤ x5 then
      k176 x4 v_stack
    else
      bd1 (dAI v_D y1 x5) fun d3 =>
      if d3 < (-4) then
        if d3 < (-6) then
          if x4 ≤ 1 then
            self x4 (x5 + 1) v_stack
          else
            gd (ib ((x4 + (-1)) - 1) 64) <|
            gd (ib (x4 + (-1)) 64) <|
            bd1 (pJudge_together d3 (v_stack (ix ((x4 + (-1)) - 1))) (v_stack (ix (x4 + (-1))))) fun rc6 =>
            self (x4 + (-1)) (x5 + 1) (vp_updL v_stack (ix ((x4 + (-1)) - 1)) rc6)
        else
          if x4 ≤ 0 then
            self x4 (x5 + 1) v_stack
          else
            gd (ib (x4 - 1) 64) <|
            if d3 = (-6) then
              pJudge_valueOf_b117 N a1 a2 a3 v_D v_debt v_paid v_shire v_term self k176 x4 x5 (x4 - 1) (v_stack (ix (x4 - 1))) v_shire v_stack
            else
              pJudge_valueOf_b117 N a1 a2 a3 v_D v_debt v_paid v_shire v_term self k176 x4 x5 (x4 - 1) (v_stack (ix (x4 - 1))) 0 v_stack
      else
        if 64 ≤ x4 then
          self x4 (x5 + 1) v_stack
        else
          if d3 < 0 then
            bd1 (pJudge_present d3 v_debt v_paid v_term) fun rc8 =>
            pJudge_valueOf_b66 N a1 a2 a3 v_D v_debt v_paid v_shire v_term self k176 x4 x5 x4 rc8 v_stack
          else
            pJudge_valueOf_b66 N a1 a2 a3 v_D v_debt v_paid v_shire v_term self k176 x4 x5 x4 (i2l d3) v_stack
def pJudge_valueOf_b10 (N : Nat) (a1 : (Option Nat)) (a2 : Int32) (a3 : Int32) (v_D : Dyn) (v_debt : Int64) (v_paid : Int64) (v_shire : Int32) (v_term : Int32) (k176 : Int32 → (Nat → Int64) → Option R_pJudge_valueOf) : Nat → Int32 → Int32 → (Nat → Int64) → Option R_pJudge_valueOf := zlp3 (pJudge_valueOf_b10_F N a1 a2 a3 v_D v_debt v_paid v_shire v_term k176)
def pJudge_valueOf_b176 (N : Nat) (a1 : (Option Nat)) (a2 : Int32) (a3 : Int32) (v_D : Dyn) (v_debt : Int64) (v_paid : Int64) (v_shire : Int32) (v_term : Int32) (x4 : Int32) (v_stack : (Nat → Int64)) : Option R_pJudge_valueOf :=
  if x4 ≤ 0 then
    some (0, v_stack)
  else
    some ((v_stack (ix 0)), v_stack)
def pJudge_valueOf (N : Nat) (a1 : (Option Nat)) (a2 : Int32) (a3 : Int32) (v_D : Dyn) (v_debt : Int64) (v_paid : Int64) (v_shire : Int32) (v_term : Int32) (v_stack : (Nat → Int64)) : Option R_pJudge_valueOf :=
  pJudge_valueOf_b10 N a1 a2 a3 v_D v_debt v_paid v_shire v_term (pJudge_valueOf_b176 N a1 a2 a3 v_D v_debt v_paid v_shire v_term) N 0 (m_max a2 0) v_stack
abbrev R_pKnown_addPayment : Type := (Nat → Int32) × (Nat → Int32)
def pKnown_addPayment (a1 : Int32) (a2 : Int32) (v_acts_count : Int32) (v_acts_kinds : (Nat → Int32)) (v_firstPayments : (Nat → Int32)) (v_nextPayments : (Nat → Int32)) : Option R_pKnown_addPayment :=
  bd1 (pActs_isPayment a1 v_acts_count v_acts_kinds) fun rc1 =>
  if rc1 = 0 then
    some (v_firstPayments, v_nextPayments)
  else
    bd1 (pK_isTerm a2) fun rc2 =>
    if rc2 = 0 then
      some (v_firstPayments, v_nextPayments)
    else
      gd (ib a2 40) <|
      gd (ib a1 201) <|
      some ((upd v_firstPayments (ix a2) a1), (upd v_nextPayments (ix a1) (v_firstPayments (ix a2))))
abbrev R_pKnown_note : Type := (Nat → Int32) × (Nat → Int32) × (Nat → Int32) × (Nat → Int32)
def pKnown_note (a1 : Int32) (a2 : Int32) (v_acts_count : Int32) (v_acts_kinds : (Nat → Int32)) (v_fires : (Nat → Int32)) (v_firstPayments : (Nat → Int32)) (v_nextPayments : (Nat → Int32)) (v_writs : (Nat → Int32)) : Option R_pKnown_note :=
  bd1 (pK_isTerm a2) fun rc1 =>
  if rc1 = 0 then
    some (v_fires, v_firstPayments, v_nextPayments, v_writs)
  else
    gd (ib a1 201) <|
    if (v_acts_kinds (ix a1)) = 1 then
      gd (ib a2 40) <|
      some (v_fires, v_firstPayments, v_nextPayments, (upd v_writs (ix a2) (m_max (v_writs (ix a2)) a1)))
    else
      if (v_acts_kinds (ix a1)) = 4 then
        gd (ib a2 40) <|
        some ((upd v_fires (ix a2) (m_max (v_fires (ix a2)) a1)), v_firstPayments, v_nextPayments, v_writs)
      else
        bd2 (pKnown_addPayment a1 a2 v_acts_count v_acts_kinds v_firstPayments v_nextPayments) fun v_firstPayments_c3 v_nextPayments_c3 =>
        some (v_fires, v_firstPayments_c3, v_nextPayments_c3, v_writs)
abbrev R_pKnown_setAt : Type := (Nat → Int32) × (Nat → Int32) × (Nat → Int32) × (Nat → Int32)
def pKnown_setAt_b36_F (N : Nat) (a1 : Int32) (a2 : Int32) (v_acts_count : Int32) (v_acts_kinds : (Nat → Int32)) (v_acts_terms : (Nat → Int32)) (v_acts_voidedBy : (Nat → Int32)) (k78 : (Nat → Int32) → (Nat → Int32) → (Nat → Int32) → (Nat → Int32) → Option R_pKnown_setAt) (self : Int32 → (Nat → Int32) → (Nat → Int32) → (Nat → Int32) → (Nat → Int32) → Option R_pKnown_setAt) (x3 : Int32) (v_fires : (Nat → Int32)) (v_firstPayments : (Nat → Int32)) (v_nextPayments : (Nat → Int32)) (v_writs : (Nat → Int32)) : Option R_pKnown_setAt :=
  if x3 < 1 then
    k78 v_fires v_firstPayments v_nextPayments v_writs
  else
    if x3 = a2 then
      self (x3 + (-1)) v_fires v_firstPayments v_nextPayments v_writs
    else
      bd1 (pActs_isKnown x3 a1 v_acts_count v_acts_kinds v_acts_voidedBy) fun rc2 =>
      if rc2 = 0 then
        self (x3 + (-1)) v_fires v_firstPayments v_nextPayments v_writs
      else
        gd (ib x3 201) <|
        bd4 (pKnown_note x3 (v_acts_terms (ix x3)) v_acts_count v_acts_kinds v_fires v_firstPayments v_nextPayments v_writs) fun v_fires_c4 v_firstPayments_c4 v_nextPayments_c4 v_writs_c4 =>
        self (x3 + (-1)) v_fires_c4 v_firstPayments_c4 v_nextPayments_c4 v_writs_c4
def pKnown_setAt_b36 (N : Nat) (a1 : Int32) (a2 : Int32) (v_acts_count : Int32) (v_acts_kinds : (Nat → Int32)) (v_acts_terms : (Nat → Int32)) (v_acts_voidedBy : (Nat → Int32)) (k78 : (Nat → Int32) → (Nat → Int32) → (Nat → Int32) → (Nat → Int32) → Option R_pKnown_setAt) : Nat → Int32 → (Nat → Int32) → (Nat → Int32) → (Nat → Int32) → (Nat → Int32) → Option R_pKnown_setAt := zlp5 (pKnown_setAt_b36_F N a1 a2 v_acts_count v_acts_kinds v_acts_terms v_acts_voidedBy k78)
def pKnown_setAt_b117 (N : Nat) (a1 : Int32) (a2 : Int32) (v_acts_count : Int32) (v_acts_kinds : (Nat → Int32)) (v_acts_terms : (Nat → Int32)) (v_acts_voidedBy : (Nat → Int32)) (self : Int32 → (Nat → Int32) → Option R_pKnown_setAt) (x3 : Int32) (s1 : Int32) (s2 : Int32) (v_fires : (Nat → Int32)) (v_firstPayments : (Nat → Int32)) (v_nextPayments : (Nat → Int32)) (v_writs : (Nat → Int32)) : Option R_pKnown_setAt :=
  gd (ib s1 40) <|
  self (x3 + 1) (upd v_writs (ix s1) s2)
def pKnown_setAt_b80_F (N : Nat) (a1 : Int32) (a2 : Int32) (v_acts_count : Int32) (v_acts_kinds : (Nat → Int32)) (v_acts_terms : (Nat → Int32)) (v_acts_voidedBy : (Nat → Int32)) (v_fires : (Nat → Int32)) (v_firstPayments : (Nat → Int32)) (v_nextPayments : (Nat → Int32)) (self : Int32 → (Nat → Int32) → Option R_pKnown_setAt) (x3 : Int32) (v_writs : (Nat → Int32)) : Option R_pKnown_setAt :=
  if 40 ≤ x3 then
    some (v_fires, v_firstPayments, v_nextPayments, v_writs)
  else
    gd (ib x3 40) <|
    if (v_writs (ix x3)) = 0 then
      gd (ib (x3 - 1) 40) <|
      pKnown_setAt_b117 N a1 a2 v_acts_count v_acts_kinds v_acts_terms v_acts_voidedBy self x3 x3 (v_writs (ix (x3 - 1))) v_fires v_firstPayments v_nextPayments v_writs
    else
      pKnown_setAt_b117 N a1 a2 v_acts_count v_acts_kinds v_acts_terms v_acts_voidedBy self x3 x3 (v_writs (ix x3)) v_fires v_firstPayments v_nextPayments v_writs
def pKnown_setAt_b80 (N : Nat) (a1 : Int32) (a2 : Int32) (v_acts_count : Int32) (v_acts_kinds : (Nat → Int32)) (v_acts_terms : (Nat → Int32)) (v_acts_voidedBy : (Nat → Int32)) (v_fires : (Nat → Int32)) (v_firstPayments : (Nat → Int32)) (v_nextPayments : (Nat → Int32)) : Nat → Int32 → (Nat → Int32) → Option R_pKnown_setAt := zlp2 (pKnown_setAt_b80_F N a1 a2 v_acts_count v_acts_kinds v_acts_terms v_acts_voidedBy v_fires v_firstPayments v_nextPayments)
def pKnown_setAt_b78 (N : Nat) (a1 : Int32) (a2 : Int32) (v_acts_count : Int32) (v_acts_kinds : (Nat → Int32)) (v_acts_terms : (Nat → Int32)) (v_acts_voidedBy : (Nat → Int32)) (v_fires : (Nat → Int32)) (v_firstPayments : (Nat → Int32)) (v_nextPayments : (Nat → Int32)) (v_writs : (Nat → Int32)) : Option R_pKnown_setAt :=
  pKnown_setAt_b80 N a1 a2 v_acts_count v_acts_kinds v_acts_terms v_acts_voidedBy v_fires v_firstPayments v_nextPayments N 1 v_writs
def pKnown_setAt (N : Nat) (a1 : Int32) (a2 : Int32) (v_acts_count : Int32) (v_acts_kinds : (Nat → Int32)) (v_acts_terms : (Nat → Int32)) (v_acts_voidedBy : (Nat → Int32)) (v_fires : (Nat → Int32)) (v_firstPayments : (Nat → Int32)) (v_nextPayments : (Nat → Int32)) (v_writs : (Nat → Int32)) : Option R_pKnown_setAt :=
  bd1 (pActs_size v_acts_count) fun rc1 =>
  pKnown_setAt_b36 N a1 a2 v_acts_count v_acts_kinds v_acts_terms v_acts_voidedBy (pKnown_setAt_b78 N a1 a2 v_acts_count v_acts_kinds v_acts_terms v_acts_voidedBy) N (m_min a1 rc1) (fun _ => 0) (fun _ => 0) v_nextPayments (fun _ => 0)
abbrev R_pKnown_writOf : Type := (Option Nat)
def pKnown_writOf (a1 : Int32) (v_acts_writs : (Nat → Option Nat)) (v_writs : (Nat → Int32)) : Option R_pKnown_writOf :=
  bd1 (pK_isTerm a1) fun rc1 =>
  if rc1 = 0 then
    some none
  else
    gd (ib a1 40) <|
    gd (ib (v_writs (ix a1)) 201) <|
    some (v_acts_writs (ix (v_writs (ix a1))))
abbrev R_pKnown_firstPayment : Type := Int32
def pKnown_firstPayment (a1 : Int32) (v_firstPayments : (Nat → Int32)) : Option R_pKnown_firstPayment :=
  bd1 (pK_isTerm a1) fun rc1 =>
  if rc1 = 0 then
    some 0
  else
    gd (ib a1 40) <|
    some (v_firstPayments (ix a1))
abbrev R_pKnown_fireOf : Type := Int32
def pKnown_fireOf (a1 : Int32) (v_acts_amounts : (Nat → Int32)) (v_fires : (Nat → Int32)) : Option R_pKnown_fireOf :=
  bd1 (pK_isTerm a1) fun rc1 =>
  if rc1 = 0 then
    some 0
  else
    gd (ib a1 40) <|
    if (v_fires (ix a1)) ≤ 0 then
      some 0
    else
      gd (ib (v_fires (ix a1)) 201) <|
      some (v_acts_amounts (ix (v_fires (ix a1))))
abbrev R_pKnown_nextPayment : Type := Int32
def pKnown_nextPayment (a1 : Int32) (v_nextPayments : (Nat → Int32)) : Option R_pKnown_nextPayment :=
  if a1 < 1 then
    some 0
  else
    if 200 < a1 then
      some 0
    else
      gd (ib a1 201) <|
      some (v_nextPayments (ix a1))
abbrev R_pKnown_dropFirstPayment : Type := (Nat → Int32)
def pKnown_dropFirstPayment (a1 : Int32) (v_firstPayments : (Nat → Int32)) (v_nextPayments : (Nat → Int32)) : Option R_pKnown_dropFirstPayment :=
  bd1 (pK_isTerm a1) fun rc1 =>
  if rc1 = 0 then
    some v_firstPayments
  else
    gd (ib a1 40) <|
    bd1 (pKnown_nextPayment (v_firstPayments (ix a1)) v_nextPayments) fun rc3 =>
    some (upd v_firstPayments (ix a1) rc3)
abbrev R_pRoll_begin : Type := Int32 × Int32
def pRoll_begin (a1 : Int32) (v_shire : Int32) (v_told : Int32) : Option R_pRoll_begin :=
  some (a1, 0)
abbrev R_pRoll_comeDue : Type := Int64 × (Nat → Int64)
def pRoll_comeDue_b16_F (N : Nat) (a1 : Int32) (v_debts : (Nat → Int64)) (v_debt : Int64) (k35 : (Nat → Int64) → Option R_pRoll_comeDue) (self : Int32 → (Nat → Int64) → Option R_pRoll_comeDue) (x3 : Int32) (v_putOff : (Nat → Int64)) : Option R_pRoll_comeDue :=
  if 19 ≤ x3 then
    k35 v_putOff
  else
    gd (ib x3 760) <|
    self (x3 + 1) (vp_updL v_putOff (ix x3) 0)
def pRoll_comeDue_b16 (N : Nat) (a1 : Int32) (v_debts : (Nat → Int64)) (v_debt : Int64) (k35 : (Nat → Int64) → Option R_pRoll_comeDue) : Nat → Int32 → (Nat → Int64) → Option R_pRoll_comeDue := zlp2 (pRoll_comeDue_b16_F N a1 v_debts v_debt k35)
def pRoll_comeDue_b35 (N : Nat) (a1 : Int32) (v_debts : (Nat → Int64)) (v_debt : Int64) (v_putOff : (Nat → Int64)) : Option R_pRoll_comeDue :=
  some (v_debt, v_putOff)
def pRoll_comeDue (N : Nat) (a1 : Int32) (v_debt : Int64) (v_debts : (Nat → Int64)) (v_putOff : (Nat → Int64)) : Option R_pRoll_comeDue :=
  if a1 = 0 then
    pRoll_comeDue_b16 N a1 v_debts 0 (pRoll_comeDue_b35 N a1 v_debts 0) N 0 v_putOff
  else
    gd (ib (a1 - 1) 40) <|
    gd (ib ((a1 * 19) - 19) 760) <|
    gd (cpok (((a1 * 19) - 19) + 1) 760 (a1 * 19) 760 18) <|
    gd (ib (((a1 * 19) + 19) - 1) 760) <|
    some (((v_debts (ix (a1 - 1))) + (v_putOff (ix ((a1 * 19) - 19)))), (vp_updL (va_cpy v_putOff v_putOff (ix (((a1 * 19) - 19) + 1)) (ix (a1 * 19)) (ix 18)) (ix (((a1 * 19) + 19) - 1)) 0))
abbrev R_pRoll_pardoned : Type := Int64
def pRoll_pardoned_b21 (a1 : (Option Nat)) (v_D : Dyn) (v_debt : Int64) (s0 : Int32) : Option R_pRoll_pardoned :=
  if s0 = 0 then
    some 0
  else
    bd1 a1 fun y3 =>
    bd1 (dGI v_D y3 0 2) fun d4 =>
    bd1 (dGI v_D y3 0 3) fun d5 =>
    gd (!((i2l d5) == 0)) <|
    some ((v_debt * (i2l d4)) / (i2l d5))
def pRoll_pardoned (a1 : (Option Nat)) (v_D : Dyn) (v_debt : Int64) : Option R_pRoll_pardoned :=
  if (lg_cmp v_debt 0) ≤ 0 then
    pRoll_pardoned_b21 a1 v_D v_debt 0
  else
    bd1 a1 fun y1 =>
    bd1 (dGI v_D y1 0 3) fun d2 =>
    if d2 ≤ 0 then
      pRoll_pardoned_b21 a1 v_D v_debt 0
    else
      pRoll_pardoned_b21 a1 v_D v_debt 1
abbrev R_pRoll_reckon : Type := Int64 × Int64 × Int64 × Int32 × Int32 × (Nat → Int64) × Int32 × Int64
def pRoll_reckon_b186 (N : Nat) (a1 : (Option Nat)) (a2 : Int32) (a3 : Int32) (v_D : Dyn) (v_paid : Int64) (v_shire : Int32) (self : Int64 → Int32 → Int64 → Int64 → Int32 → Int32 → (Nat → Int64) → Int32 → Int64 → Option R_pRoll_reckon) (x4 : Int64) (x6 : Nat) (x7 : Int32) (x8 : Int32) (s1 : Int32) (v_judge_debt : Int64) (v_judge_paid : Int64) (v_judge_shire : Int32) (v_judge_term : Int32) (v_judge_stack : (Nat → Int64)) (v_blanched : Int32) (v_debt : Int64) : Option R_pRoll_reckon :=
  gd (isB s1) <|
  self x4 (x8 + 1) v_judge_debt v_judge_paid v_judge_shire v_judge_term v_judge_stack s1 v_debt
def pRoll_reckon_b161 (N : Nat) (a1 : (Option Nat)) (a2 : Int32) (a3 : Int32) (v_D : Dyn) (v_paid : Int64) (v_shire : Int32) (self : Int64 → Int32 → Int64 → Int64 → Int32 → Int32 → (Nat → Int64) → Int32 → Int64 → Option R_pRoll_reckon) (x4 : Int64) (x6 : Nat) (x7 : Int32) (x8 : Int32) (x9 : Nat) (s1 : Int64) (s2 : Int64) (v_judge_debt : Int64) (v_judge_paid : Int64) (v_judge_shire : Int32) (v_judge_term : Int32) (v_judge_stack : (Nat → Int64)) (v_blanched : Int32) (v_debt : Int64) : Option R_pRoll_reckon :=
  if v_blanched = 0 then
    bd1 (dGI v_D x9 0 1) fun d19 =>
    if d19 = 0 then
      pRoll_reckon_b186 N a1 a2 a3 v_D v_paid v_shire self x4 x6 x7 x8 0 v_judge_debt v_judge_paid v_judge_shire v_judge_term v_judge_stack v_blanched (s1 + s2)
    else
      pRoll_reckon_b186 N a1 a2 a3 v_D v_paid v_shire self x4 x6 x7 x8 1 v_judge_debt v_judge_paid v_judge_shire v_judge_term v_judge_stack v_blanched (s1 + s2)
  else
    pRoll_reckon_b186 N a1 a2 a3 v_D v_paid v_shire self x4 x6 x7 x8 1 v_judge_debt v_judge_paid v_judge_shire v_judge_term v_judge_stack v_blanched (s1 + s2)
def pRoll_reckon_b134 (N : Nat) (a1 : (Option Nat)) (a2 : Int32) (a3 : Int32) (v_D : Dyn) (v_paid : Int64) (v_shire : Int32) (self : Int64 → Int32 → Int64 → Int64 → Int32 → Int32 → (Nat → Int64) → Int32 → Int64 → Option R_pRoll_reckon) (x4 : Int64) (x6 : Nat) (x7 : Int32) (x8 : Int32) (x9 : Nat) (s0 : Int64) (v_judge_debt : Int64) (v_judge_paid : Int64) (v_judge_shire : Int32) (v_judge_term : Int32) (v_judge_stack : (Nat → Int64)) (v_blanched : Int32) (v_debt : Int64) : Option R_pRoll_reckon :=
  if a3 = 1 then
    pRoll_reckon_b161 N a1 a2 a3 v_D v_paid v_shire self (x4 + s0) x6 x7 x8 x9 v_debt s0 v_judge_debt v_judge_paid v_judge_shire v_judge_term v_judge_stack v_blanched v_debt
  else
    pRoll_reckon_b161 N a1 a2 a3 v_D v_paid v_shire self (x4 + s0) x6 x7 x8 x9 v_debt (-s0) v_judge_debt v_judge_paid v_judge_shire v_judge_term v_judge_stack v_blanched v_debt
def pRoll_reckon_b23_F (N : Nat) (a1 : (Option Nat)) (a2 : Int32) (a3 : Int32) (v_D : Dyn) (v_paid : Int64) (v_shire : Int32) (x6 : Nat) (x7 : Int32) (self : Int64 → Int32 → Int64 → Int64 → Int32 → Int32 → (Nat → Int64) → Int32 → Int64 → Option R_pRoll_reckon) (x4 : Int64) (x8 : Int32) (v_judge_debt : Int64) (v_judge_paid : Int64) (v_judge_shire : Int32) (v_judge_term : Int32) (v_judge_stack : (Nat → Int64)) (v_blanched : Int32) (v_debt : Int64) : Option R_pRoll_reckon :=
  if x7 ≤ x8 then
    some (x4, v_judge_debt, v_judge_paid, v_judge_shire, v_judge_term, v_judge_stack, v_blanched, v_debt)
  else
    bd1 (dAR v_D x6 x8) fun d5 =>
    bd1 d5 fun y6 =>
    bd1 (dGI v_D y6 0 0) fun d7 =>
    if d7 = a3 then
      bd4 (pJudge_setMoment v_shire a2 v_debt v_paid v_judge_debt v_judge_paid v_judge_shire v_judge_term) fun v_judge_debt_c8 v_judge_paid_c8 v_judge_shire_c8 v_judge_term_c8 =>
      bd1 a1 fun y9 =>
      bd1 (dGR v_D y9 1 1) fun d10 =>
      bd1 (dGI v_D y6 0 5) fun d11 =>
      bd1 (dGI v_D y6 0 6) fun d12 =>
      bd2 (pJudge_valueOf N d10 d11 d12 v_D v_judge_debt_c8 v_judge_paid_c8 v_judge_shire_c8 v_judge_term_c8 v_judge_stack) fun rc13 v_judge_stack_c13 =>
      if (lg_cmp rc13 0) = 0 then
        self x4 (x8 + 1) v_judge_debt_c8 v_judge_paid_c8 v_judge_shire_c8 v_judge_term_c8 v_judge_stack_c13 v_blanched v_debt
      else
        if a3 = 3 then
          bd1 (pRoll_pardoned (some y6) v_D v_debt) fun rc18 =>
          pRoll_reckon_b134 N a1 a2 a3 v_D v_paid v_shire self x4 x6 x7 x8 y6 rc18 v_judge_debt_c8 v_judge_paid_c8 v_judge_shire_c8 v_judge_term_c8 v_judge_stack_c13 v_blanched v_debt
        else
          bd1 (dGR v_D y9 1 1) fun d14 =>
          bd1 (dGI v_D y6 0 4) fun d15 =>
          bd1 (dGI v_D y6 0 5) fun d16 =>
          bd2 (pJudge_valueOf N d14 d15 d16 v_D v_judge_debt_c8 v_judge_paid_c8 v_judge_shire_c8 v_judge_term_c8 v_judge_stack_c13) fun rc17 v_judge_stack_c17 =>
          pRoll_reckon_b134 N a1 a2 a3 v_D v_paid v_shire self x4 x6 x7 x8 y6 (m_maxL 0 rc17) v_judge_debt_c8 v_judge_paid_c8 v_judge_shire_c8 v_judge_term_c8 v_judge_stack_c17 v_blanched v_debt
    else
      self x4 (x8 + 1) v_judge_debt v_judge_paid v_judge_shire v_judge_term v_judge_stack v_blanched v_debt
def pRoll_reckon_b23 (N : Nat) (a1 : (Option Nat)) (a2 : Int32) (a3 : Int32) (v_D : Dyn) (v_paid : Int64) (v_shire : Int32) (x6 : Nat) (x7 : Int32) : Nat → Int64 → Int32 → Int64 → Int64 → Int32 → Int32 → (Nat → Int64) → Int32 → Int64 → Option R_pRoll_reckon := zlp9 (pRoll_reckon_b23_F N a1 a2 a3 v_D v_paid v_shire x6 x7)
def pRoll_reckon (N : Nat) (a1 : (Option Nat)) (a2 : Int32) (a3 : Int32) (v_D : Dyn) (v_judge_debt : Int64) (v_judge_paid : Int64) (v_judge_shire : Int32) (v_judge_term : Int32) (v_judge_stack : (Nat → Int64)) (v_blanched : Int32) (v_debt : Int64) (v_paid : Int64) (v_shire : Int32) : Option R_pRoll_reckon :=
  opn a1 (
    some (0, v_judge_debt, v_judge_paid, v_judge_shire, v_judge_term, v_judge_stack, v_blanched, v_debt)) fun y1 =>
    bd1 (dGR v_D y1 1 0) fun d2 =>
    bd1 d2 fun y3 =>
    bd1 (dLen v_D y3 2) fun n4 =>
    pRoll_reckon_b23 N a1 a2 a3 v_D v_paid v_shire y3 (Int32.ofNat n4) N 0 0 v_judge_debt v_judge_paid v_judge_shire v_judge_term v_judge_stack v_blanched v_debt
abbrev R_pRoll_worthOf : Type := Int64
def pRoll_worthOf (a1 : Int32) (a2 : Int32) (v_acts_amounts : (Nat → Int32)) (v_acts_kinds : (Nat → Int32)) (v_chest_goodWorths : (Nat → Int32)) (v_known_fires : (Nat → Int32)) (v_blanched : Int32) : Option R_pRoll_worthOf :=
  gd (ib a1 201) <|
  if (v_acts_kinds (ix a1)) = 3 then
    bd1 (pChest_goodWorth (v_acts_amounts (ix a1)) v_chest_goodWorths) fun rc3 =>
    some (i2l rc3)
  else
    if v_blanched = 0 then
      some (i2l (v_acts_amounts (ix a1)))
    else
      bd1 (pKnown_fireOf a2 v_acts_amounts v_known_fires) fun rc2 =>
      some ((i2l (v_acts_amounts (ix a1))) - (((i2l (v_acts_amounts (ix a1))) * (i2l rc2)) / 240))
abbrev R_pRoll_takeIn : Type := Int64 × Int64
def pRoll_takeIn_b60 (N : Nat) (a1 : Int32) (v_acts_count : Int32) (v_acts_amounts : (Nat → Int32)) (v_acts_kinds : (Nat → Int32)) (v_acts_shires : (Nat → Int32)) (v_chest_goodWorths : (Nat → Int32)) (v_known_fires : (Nat → Int32)) (v_known_firstPayments : (Nat → Int32)) (v_known_nextPayments : (Nat → Int32)) (v_blanched : Int32) (v_shire : Int32) (self : Int32 → Int32 → Int64 → Option R_pRoll_takeIn) (k75 : Int64 → Option R_pRoll_takeIn) (x2 : Int32) (x3 : Int32) (v_debt : Int64) (v_paid : Int64) : Option R_pRoll_takeIn :=
  bd1 (pKnown_nextPayment x2 v_known_nextPayments) fun rc5 =>
  self rc5 (x3 + 1) v_paid
def pRoll_takeIn_b11_F (N : Nat) (a1 : Int32) (v_acts_count : Int32) (v_acts_amounts : (Nat → Int32)) (v_acts_kinds : (Nat → Int32)) (v_acts_shires : (Nat → Int32)) (v_chest_goodWorths : (Nat → Int32)) (v_known_fires : (Nat → Int32)) (v_known_firstPayments : (Nat → Int32)) (v_known_nextPayments : (Nat → Int32)) (v_blanched : Int32) (v_shire : Int32) (v_debt : Int64) (k75 : Int64 → Option R_pRoll_takeIn) (self : Int32 → Int32 → Int64 → Option R_pRoll_takeIn) (x2 : Int32) (x3 : Int32) (v_paid : Int64) : Option R_pRoll_takeIn :=
  if 200 ≤ x3 then
    k75 v_paid
  else
    bd1 (pActs_isPayment x2 v_acts_count v_acts_kinds) fun rc2 =>
    if rc2 = 0 then
      k75 v_paid
    else
      gd (ib x2 201) <|
      if (v_acts_shires (ix x2)) = v_shire then
        bd1 (pRoll_worthOf x2 a1 v_acts_amounts v_acts_kinds v_chest_goodWorths v_known_fires v_blanched) fun rc4 =>
        pRoll_takeIn_b60 N a1 v_acts_count v_acts_amounts v_acts_kinds v_acts_shires v_chest_goodWorths v_known_fires v_known_firstPayments v_known_nextPayments v_blanched v_shire self k75 x2 x3 v_debt (v_paid + rc4)
      else
        pRoll_takeIn_b60 N a1 v_acts_count v_acts_amounts v_acts_kinds v_acts_shires v_chest_goodWorths v_known_fires v_known_firstPayments v_known_nextPayments v_blanched v_shire self k75 x2 x3 v_debt v_paid
def pRoll_takeIn_b11 (N : Nat) (a1 : Int32) (v_acts_count : Int32) (v_acts_amounts : (Nat → Int32)) (v_acts_kinds : (Nat → Int32)) (v_acts_shires : (Nat → Int32)) (v_chest_goodWorths : (Nat → Int32)) (v_known_fires : (Nat → Int32)) (v_known_firstPayments : (Nat → Int32)) (v_known_nextPayments : (Nat → Int32)) (v_blanched : Int32) (v_shire : Int32) (v_debt : Int64) (k75 : Int64 → Option R_pRoll_takeIn) : Nat → Int32 → Int32 → Int64 → Option R_pRoll_takeIn := zlp3 (pRoll_takeIn_b11_F N a1 v_acts_count v_acts_amounts v_acts_kinds v_acts_shires v_chest_goodWorths v_known_fires v_known_firstPayments v_known_nextPayments v_blanched v_shire v_debt k75)
def pRoll_takeIn_b75 (N : Nat) (a1 : Int32) (v_acts_count : Int32) (v_acts_amounts : (Nat → Int32)) (v_acts_kinds : (Nat → Int32)) (v_acts_shires : (Nat → Int32)) (v_chest_goodWorths : (Nat → Int32)) (v_known_fires : (Nat → Int32)) (v_known_firstPayments : (Nat → Int32)) (v_known_nextPayments : (Nat → Int32)) (v_blanched : Int32) (v_shire : Int32) (v_debt : Int64) (v_paid : Int64) : Option R_pRoll_takeIn :=
  some ((v_debt - v_paid), v_paid)
def pRoll_takeIn (N : Nat) (a1 : Int32) (v_acts_count : Int32) (v_acts_amounts : (Nat → Int32)) (v_acts_kinds : (Nat → Int32)) (v_acts_shires : (Nat → Int32)) (v_chest_goodWorths : (Nat → Int32)) (v_known_fires : (Nat → Int32)) (v_known_firstPayments : (Nat → Int32)) (v_known_nextPayments : (Nat → Int32)) (v_blanched : Int32) (v_debt : Int64) (v_paid : Int64) (v_shire : Int32) : Option R_pRoll_takeIn :=
  bd1 (pKnown_firstPayment a1 v_known_firstPayments) fun rc1 =>
  pRoll_takeIn_b11 N a1 v_acts_count v_acts_amounts v_acts_kinds v_acts_shires v_chest_goodWorths v_known_fires v_known_firstPayments v_known_nextPayments v_blanched v_shire v_debt (pRoll_takeIn_b75 N a1 v_acts_count v_acts_amounts v_acts_kinds v_acts_shires v_chest_goodWorths v_known_fires v_known_firstPayments v_known_nextPayments v_blanched v_shire v_debt) N rc1 0 v_paid
abbrev R_pRoll_splitDebt : Type := Int64 × Int64 × Int32 × Int32 × (Nat → Int64) × Int64 × (Nat → Int64)
def pRoll_splitDebt_b135_F (N : Nat) (a1 : (Option Nat)) (a2 : Int32) (v_D : Dyn) (v_paid : Int64) (v_shire : Int32) (x3 : Nat) (x4 : Int32) (x5 : Int32) (x7 : Int32) (x8 : Int64) (v_judge_debt : Int64) (v_judge_paid : Int64) (v_judge_shire : Int32) (v_judge_term : Int32) (v_judge_stack : (Nat → Int64)) (v_debt : Int64) (k165 : (Nat → Int64) → Option R_pRoll_splitDebt) (self : Int32 → (Nat → Int64) → Option R_pRoll_splitDebt) (x10 : Int32) (v_putOff : (Nat → Int64)) : Option R_pRoll_splitDebt :=
  if x7 ≤ x10 then
    k165 v_putOff
  else
    gd (ib ((a2 * 19) + x10) 760) <|
    self (x10 + 1) (vp_updL v_putOff (ix ((a2 * 19) + x10)) ((v_putOff (ix ((a2 * 19) + x10))) + x8))
def pRoll_splitDebt_b135 (N : Nat) (a1 : (Option Nat)) (a2 : Int32) (v_D : Dyn) (v_paid : Int64) (v_shire : Int32) (x3 : Nat) (x4 : Int32) (x5 : Int32) (x7 : Int32) (x8 : Int64) (v_judge_debt : Int64) (v_judge_paid : Int64) (v_judge_shire : Int32) (v_judge_term : Int32) (v_judge_stack : (Nat → Int64)) (v_debt : Int64) (k165 : (Nat → Int64) → Option R_pRoll_splitDebt) : Nat → Int32 → (Nat → Int64) → Option R_pRoll_splitDebt := zlp2 (pRoll_splitDebt_b135_F N a1 a2 v_D v_paid v_shire x3 x4 x5 x7 x8 v_judge_debt v_judge_paid v_judge_shire v_judge_term v_judge_stack v_debt k165)
def pRoll_splitDebt_b165 (N : Nat) (a1 : (Option Nat)) (a2 : Int32) (v_D : Dyn) (v_paid : Int64) (v_shire : Int32) (self : Int32 → Int64 → Int64 → Int32 → Int32 → (Nat → Int64) → Int64 → (Nat → Int64) → Option R_pRoll_splitDebt) (x3 : Nat) (x4 : Int32) (x5 : Int32) (x7 : Int32) (x8 : Int64) (v_judge_debt : Int64) (v_judge_paid : Int64) (v_judge_shire : Int32) (v_judge_term : Int32) (v_judge_stack : (Nat → Int64)) (v_debt : Int64) (v_putOff : (Nat → Int64)) : Option R_pRoll_splitDebt :=
  self (x5 + 1) v_judge_debt v_judge_paid v_judge_shire v_judge_term v_judge_stack (v_debt - (x8 * (i2l x7))) v_putOff
def pRoll_splitDebt_b17_F (N : Nat) (a1 : (Option Nat)) (a2 : Int32) (v_D : Dyn) (v_paid : Int64) (v_shire : Int32) (x3 : Nat) (x4 : Int32) (self : Int32 → Int64 → Int64 → Int32 → Int32 → (Nat → Int64) → Int64 → (Nat → Int64) → Option R_pRoll_splitDebt) (x5 : Int32) (v_judge_debt : Int64) (v_judge_paid : Int64) (v_judge_shire : Int32) (v_judge_term : Int32) (v_judge_stack : (Nat → Int64)) (v_debt : Int64) (v_putOff : (Nat → Int64)) : Option R_pRoll_splitDebt :=
  if x4 ≤ x5 then
    some (v_judge_debt, v_judge_paid, v_judge_shire, v_judge_term, v_judge_stack, v_debt, v_putOff)
  else
    bd1 (dAR v_D x3 x5) fun d5 =>
    bd1 d5 fun y6 =>
    bd1 (dGI v_D y6 0 0) fun d7 =>
    if d7 = 4 then
      if (lg_cmp v_debt 0) ≤ 0 then
        self (x5 + 1) v_judge_debt v_judge_paid v_judge_shire v_judge_term v_judge_stack v_debt v_putOff
      else
        bd1 (dGI v_D y6 0 2) fun d8 =>
        if 0 < d8 then
          bd4 (pJudge_setMoment v_shire a2 v_debt v_paid v_judge_debt v_judge_paid v_judge_shire v_judge_term) fun v_judge_debt_c9 v_judge_paid_c9 v_judge_shire_c9 v_judge_term_c9 =>
          bd1 a1 fun y10 =>
          bd1 (dGR v_D y10 1 1) fun d11 =>
          bd1 (dGI v_D y6 0 5) fun d12 =>
          bd1 (dGI v_D y6 0 6) fun d13 =>
          bd2 (pJudge_valueOf N d11 d12 d13 v_D v_judge_debt_c9 v_judge_paid_c9 v_judge_shire_c9 v_judge_term_c9 v_judge_stack) fun rc14 v_judge_stack_c14 =>
          if (lg_cmp rc14 0) = 0 then
            self (x5 + 1) v_judge_debt_c9 v_judge_paid_c9 v_judge_shire_c9 v_judge_term_c9 v_judge_stack_c14 v_debt v_putOff
          else
            bd1 (dGI v_D y6 0 2) fun d15 =>
            bd1 (dGI v_D y6 0 2) fun d16 =>
            gd (!((i2l d16) == 0)) <|
            pRoll_splitDebt_b135 N a1 a2 v_D v_paid v_shire x3 x4 x5 (m_min (d15 - 1) 19) (v_debt / (i2l d16)) v_judge_debt_c9 v_judge_paid_c9 v_judge_shire_c9 v_judge_term_c9 v_judge_stack_c14 v_debt (pRoll_splitDebt_b165 N a1 a2 v_D v_paid v_shire self x3 x4 x5 (m_min (d15 - 1) 19) (v_debt / (i2l d16)) v_judge_debt_c9 v_judge_paid_c9 v_judge_shire_c9 v_judge_term_c9 v_judge_stack_c14 v_debt) N 0 v_putOff
        else
          self (x5 + 1) v_judge_debt v_judge_paid v_judge_shire v_judge_term v_judge_stack v_debt v_putOff
    else
      self (x5 + 1) v_judge_debt v_judge_paid v_judge_shire v_judge_term v_judge_stack v_debt v_putOff
def pRoll_splitDebt_b17 (N : Nat) (a1 : (Option Nat)) (a2 : Int32) (v_D : Dyn) (v_paid : Int64) (v_shire : Int32) (x3 : Nat) (x4 : Int32) : Nat → Int32 → Int64 → Int64 → Int32 → Int32 → (Nat → Int64) → Int64 → (Nat → Int64) → Option R_pRoll_splitDebt := zlp8 (pRoll_splitDebt_b17_F N a1 a2 v_D v_paid v_shire x3 x4)
def pRoll_splitDebt (N : Nat) (a1 : (Option Nat)) (a2 : Int32) (v_D : Dyn) (v_judge_debt : Int64) (v_judge_paid : Int64) (v_judge_shire : Int32) (v_judge_term : Int32) (v_judge_stack : (Nat → Int64)) (v_debt : Int64) (v_paid : Int64) (v_shire : Int32) (v_putOff : (Nat → Int64)) : Option R_pRoll_splitDebt :=
  opn a1 (
    some (v_judge_debt, v_judge_paid, v_judge_shire, v_judge_term, v_judge_stack, v_debt, v_putOff)) fun y1 =>
    bd1 (dGR v_D y1 1 0) fun d2 =>
    bd1 d2 fun y3 =>
    bd1 (dLen v_D y3 2) fun n4 =>
    pRoll_splitDebt_b17 N a1 a2 v_D v_paid v_shire y3 (Int32.ofNat n4) N 0 v_judge_debt v_judge_paid v_judge_shire v_judge_term v_judge_stack v_debt v_putOff
abbrev R_pRoll_goTo : Type := Int64 × Int64 × Int32 × Int32 × (Nat → Int64) × Int32 × Int64 × Int64 × Int32 × (Nat → Int64) × (Nat → Int64) × (Nat → Int64) × (Nat → Int64) × (Nat → Int64) × (Nat → Int64)
def pRoll_goTo_b5_F (N : Nat) (a1 : Int32) (v_acts_count : Int32) (v_acts_amounts : (Nat → Int32)) (v_acts_kinds : (Nat → Int32)) (v_acts_shires : (Nat → Int32)) (v_acts_writs : (Nat → Option Nat)) (v_chest_goodWorths : (Nat → Int32)) (v_D : Dyn) (v_known_fires : (Nat → Int32)) (v_known_firstPayments : (Nat → Int32)) (v_known_nextPayments : (Nat → Int32)) (v_known_writs : (Nat → Int32)) (v_shire : Int32) (self : Int32 → Int64 → Int64 → Int32 → Int32 → (Nat → Int64) → Int32 → Int64 → Int64 → Int32 → (Nat → Int64) → (Nat → Int64) → (Nat → Int64) → (Nat → Int64) → (Nat → Int64) → (Nat → Int64) → Option R_pRoll_goTo) (x2 : Int32) (v_judge_debt : Int64) (v_judge_paid : Int64) (v_judge_shire : Int32) (v_judge_term : Int32) (v_judge_stack : (Nat → Int64)) (v_blanched : Int32) (v_debt : Int64) (v_paid : Int64) (v_told : Int32) (v_allowances : (Nat → Int64)) (v_debts : (Nat → Int64)) (v_farms : (Nat → Int64)) (v_pardons : (Nat → Int64)) (v_payments : (Nat → Int64)) (v_putOff : (Nat → Int64)) : Option R_pRoll_goTo :=
  if a1 < x2 then
    some (v_judge_debt, v_judge_paid, v_judge_shire, v_judge_term, v_judge_stack, v_blanched, v_debt, v_paid, v_told, v_allowances, v_debts, v_farms, v_pardons, v_payments, v_putOff)
  else
    if 40 ≤ x2 then
      some (v_judge_debt, v_judge_paid, v_judge_shire, v_judge_term, v_judge_stack, v_blanched, v_debt, v_paid, v_told, v_allowances, v_debts, v_farms, v_pardons, v_payments, v_putOff)
    else
      bd1 (pKnown_writOf x2 v_acts_writs v_known_writs) fun rc1 =>
      bd2 (pRoll_comeDue N x2 v_debt v_debts v_putOff) fun v_debt_c2 v_putOff_c2 =>
      bd8 (pRoll_reckon N rc1 x2 1 v_D v_judge_debt v_judge_paid v_judge_shire v_judge_term v_judge_stack 0 v_debt_c2 0 v_shire) fun rc3 v_judge_debt_c3 v_judge_paid_c3 v_judge_shire_c3 v_judge_term_c3 v_judge_stack_c3 v_blanched_c3 v_debt_c3 =>
      gd (ib x2 40) <|
      bd8 (pRoll_reckon N rc1 x2 2 v_D v_judge_debt_c3 v_judge_paid_c3 v_judge_shire_c3 v_judge_term_c3 v_judge_stack_c3 v_blanched_c3 v_debt_c3 0 v_shire) fun rc5 v_judge_debt_c5 v_judge_paid_c5 v_judge_shire_c5 v_judge_term_c5 v_judge_stack_c5 v_blanched_c5 v_debt_c5 =>
      bd8 (pRoll_reckon N rc1 x2 3 v_D v_judge_debt_c5 v_judge_paid_c5 v_judge_shire_c5 v_judge_term_c5 v_judge_stack_c5 v_blanched_c5 v_debt_c5 0 v_shire) fun rc6 v_judge_debt_c6 v_judge_paid_c6 v_judge_shire_c6 v_judge_term_c6 v_judge_stack_c6 v_blanched_c6 v_debt_c6 =>
      bd2 (pRoll_takeIn N x2 v_acts_count v_acts_amounts v_acts_kinds v_acts_shires v_chest_goodWorths v_known_fires v_known_firstPayments v_known_nextPayments v_blanched_c6 v_debt_c6 0 v_shire) fun v_debt_c7 v_paid_c7 =>
      bd7 (pRoll_splitDebt N rc1 x2 v_D v_judge_debt_c6 v_judge_paid_c6 v_judge_shire_c6 v_judge_term_c6 v_judge_stack_c6 v_debt_c7 v_paid_c7 v_shire v_putOff_c2) fun v_judge_debt_c8 v_judge_paid_c8 v_judge_shire_c8 v_judge_term_c8 v_judge_stack_c8 v_debt_c8 v_putOff_c8 =>
      self (x2 + 1) v_judge_debt_c8 v_judge_paid_c8 v_judge_shire_c8 v_judge_term_c8 v_judge_stack_c8 v_blanched_c6 v_debt_c8 v_paid_c7 (x2 + 1) (vp_updL v_allowances (ix x2) rc5) (vp_updL v_debts (ix x2) v_debt_c8) (vp_updL v_farms (ix x2) rc3) (vp_updL v_pardons (ix x2) rc6) (vp_updL v_payments (ix x2) v_paid_c7) v_putOff_c8
def pRoll_goTo_b5 (N : Nat) (a1 : Int32) (v_acts_count : Int32) (v_acts_amounts : (Nat → Int32)) (v_acts_kinds : (Nat → Int32)) (v_acts_shires : (Nat → Int32)) (v_acts_writs : (Nat → Option Nat)) (v_chest_goodWorths : (Nat → Int32)) (v_D : Dyn) (v_known_fires : (Nat → Int32)) (v_known_firstPayments : (Nat → Int32)) (v_known_nextPayments : (Nat → Int32)) (v_known_writs : (Nat → Int32)) (v_shire : Int32) : Nat → Int32 → Int64 → Int64 → Int32 → Int32 → (Nat → Int64) → Int32 → Int64 → Int64 → Int32 → (Nat → Int64) → (Nat → Int64) → (Nat → Int64) → (Nat → Int64) → (Nat → Int64) → (Nat → Int64) → Option R_pRoll_goTo := zlp16 (pRoll_goTo_b5_F N a1 v_acts_count v_acts_amounts v_acts_kinds v_acts_shires v_acts_writs v_chest_goodWorths v_D v_known_fires v_known_firstPayments v_known_nextPayments v_known_writs v_shire)
def pRoll_goTo (N : Nat) (a1 : Int32) (v_acts_count : Int32) (v_acts_amounts : (Nat → Int32)) (v_acts_kinds : (Nat → Int32)) (v_acts_shires : (Nat → Int32)) (v_acts_writs : (Nat → Option Nat)) (v_chest_goodWorths : (Nat → Int32)) (v_D : Dyn) (v_judge_debt : Int64) (v_judge_paid : Int64) (v_judge_shire : Int32) (v_judge_term : Int32) (v_judge_stack : (Nat → Int64)) (v_known_fires : (Nat → Int32)) (v_known_firstPayments : (Nat → Int32)) (v_known_nextPayments : (Nat → Int32)) (v_known_writs : (Nat → Int32)) (v_blanched : Int32) (v_debt : Int64) (v_paid : Int64) (v_shire : Int32) (v_told : Int32) (v_allowances : (Nat → Int64)) (v_debts : (Nat → Int64)) (v_farms : (Nat → Int64)) (v_pardons : (Nat → Int64)) (v_payments : (Nat → Int64)) (v_putOff : (Nat → Int64)) : Option R_pRoll_goTo :=
  pRoll_goTo_b5 N a1 v_acts_count v_acts_amounts v_acts_kinds v_acts_shires v_acts_writs v_chest_goodWorths v_D v_known_fires v_known_firstPayments v_known_nextPayments v_known_writs v_shire N v_told v_judge_debt v_judge_paid v_judge_shire v_judge_term v_judge_stack v_blanched v_debt v_paid v_told v_allowances v_debts v_farms v_pardons v_payments v_putOff
abbrev R_pRoll_putOffAfter : Type := Int64
def pRoll_putOffAfter_b8_F (N : Nat) (a1 : Int32) (v_putOff : (Nat → Int64)) (self : Int64 → Int32 → Option R_pRoll_putOffAfter) (x2 : Int64) (x4 : Int32) : Option R_pRoll_putOffAfter :=
  if ((a1 + 1) * 19) ≤ x4 then
    some x2
  else
    gd (ib x4 760) <|
    self (x2 + (v_putOff (ix x4))) (x4 + 1)
def pRoll_putOffAfter_b8 (N : Nat) (a1 : Int32) (v_putOff : (Nat → Int64)) : Nat → Int64 → Int32 → Option R_pRoll_putOffAfter := zlp2 (pRoll_putOffAfter_b8_F N a1 v_putOff)
def pRoll_putOffAfter (N : Nat) (a1 : Int32) (v_putOff : (Nat → Int64)) : Option R_pRoll_putOffAfter :=
  pRoll_putOffAfter_b8 N a1 v_putOff N 0 (a1 * 19)
abbrev R_pRoll_entry : Type := Int64
def pRoll_entry (N : Nat) (a1 : Int32) (a2 : Int32) (v_allowances : (Nat → Int64)) (v_debts : (Nat → Int64)) (v_farms : (Nat → Int64)) (v_pardons : (Nat → Int64)) (v_payments : (Nat → Int64)) (v_putOff : (Nat → Int64)) : Option R_pRoll_entry :=
  bd1 (pK_isTerm a1) fun rc1 =>
  if rc1 = 0 then
    some (-2000000000000)
  else
    if a2 = 0 then
      gd (ib a1 40) <|
      some (v_debts (ix a1))
    else if a2 = 1 then
      bd1 (pRoll_putOffAfter N a1 v_putOff) fun rc3 =>
      some rc3
    else if a2 = 2 then
      gd (ib a1 40) <|
      some (v_farms (ix a1))
    else if a2 = 3 then
      gd (ib a1 40) <|
      some (v_allowances (ix a1))
    else if a2 = 4 then
      gd (ib a1 40) <|
      some (v_pardons (ix a1))
    else if a2 = 5 then
      gd (ib a1 40) <|
      some (v_payments (ix a1))
    else if a2 = 6 then
      gd (ib a1 40) <|
      if 0 < (lg_cmp (v_debts (ix a1)) 0) then
        some 0
      else
        bd1 (pRoll_putOffAfter N a1 v_putOff) fun rc9 =>
        if (lg_cmp rc9 0) = 0 then
          some 1
        else
          some 0
    else
      some (-2000000000000)
abbrev R_pRoll_shireOf : Type := Int32
def pRoll_shireOf (v_shire : Int32) : Option R_pRoll_shireOf :=
  some v_shire
abbrev R_pRoll_beginLike : Type := Int32 × Int32 × (Nat → Int64) × (Nat → Int64)
def pRoll_beginLike (a2 : Int32) (v_a1_shire : Int32) (v_a1_told : Int32) (v_a1_debts : (Nat → Int64)) (v_a1_putOff : (Nat → Int64)) (v_shire : Int32) (v_told : Int32) (v_debts : (Nat → Int64)) (v_putOff : (Nat → Int64)) : Option R_pRoll_beginLike :=
  gd (cpok 0 40 0 40 (m_max 0 (m_min a2 v_a1_told))) <|
  gd (cpok 0 760 0 760 ((m_max 0 (m_min a2 v_a1_told)) * 19)) <|
  some (v_a1_shire, (m_max 0 (m_min a2 v_a1_told)), (va_cpy v_a1_debts v_debts (ix 0) (ix 0) (ix (m_max 0 (m_min a2 v_a1_told)))), (va_cpy v_a1_putOff v_putOff (ix 0) (ix 0) (ix ((m_max 0 (m_min a2 v_a1_told)) * 19))))
abbrev R_pRoll_nextTerm : Type := Int32
def pRoll_nextTerm (v_told : Int32) : Option R_pRoll_nextTerm :=
  some v_told
abbrev R_pRoll_isLike : Type := Int32
def pRoll_isLike_b30_F (N : Nat) (a2 : Int32) (v_a1_debts : (Nat → Int64)) (v_a1_putOff : (Nat → Int64)) (v_debts : (Nat → Int64)) (v_putOff : (Nat → Int64)) (self : Int32 → Option R_pRoll_isLike) (x3 : Int32) : Option R_pRoll_isLike :=
  if ((a2 + 1) * 19) ≤ x3 then
    some 1
  else
    gd (ib x3 760) <|
    if (lg_cmp (v_putOff (ix x3)) (v_a1_putOff (ix x3))) = 0 then
      self (x3 + 1)
    else
      some 0
def pRoll_isLike_b30 (N : Nat) (a2 : Int32) (v_a1_debts : (Nat → Int64)) (v_a1_putOff : (Nat → Int64)) (v_debts : (Nat → Int64)) (v_putOff : (Nat → Int64)) : Nat → Int32 → Option R_pRoll_isLike := zlp1 (pRoll_isLike_b30_F N a2 v_a1_debts v_a1_putOff v_debts v_putOff)
def pRoll_isLike (N : Nat) (a2 : Int32) (v_a1_debts : (Nat → Int64)) (v_a1_putOff : (Nat → Int64)) (v_debts : (Nat → Int64)) (v_putOff : (Nat → Int64)) : Option R_pRoll_isLike :=
  bd1 (pK_isTerm a2) fun rc1 =>
  if rc1 = 0 then
    some 0
  else
    gd (ib a2 40) <|
    if (lg_cmp (v_debts (ix a2)) (v_a1_debts (ix a2))) = 0 then
      pRoll_isLike_b30 N a2 v_a1_debts v_a1_putOff v_debts v_putOff N (a2 * 19)
    else
      some 0
abbrev R_pRoll_goBack : Type := Int32
def pRoll_goBack (a1 : Int32) (v_told : Int32) : Option R_pRoll_goBack :=
  some (m_max 0 (m_min a1 v_told))
