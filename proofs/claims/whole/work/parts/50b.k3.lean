set_option maxHeartbeats 4000000
set_option maxRecDepth 100000
def iActs_isFull (v_count : Int) : Option Int :=
  if v_count < 200 then
    some 0
  else
    some 1
abbrev R_iActs_add : Type := Int × Int × (Nat → Int) × (Nat → Int) × (Nat → Int) × (Nat → Int)
def iActs_add (a1 : Int) (a2 : Int) (a3 : Int) (a4 : Int) (v_count : Int) (v_amounts : (Nat → Int)) (v_kinds : (Nat → Int)) (v_shires : (Nat → Int)) (v_terms : (Nat → Int)) : Option R_iActs_add :=
  bd1 (iActs_isFull v_count) fun rc1 =>
  if rc1 = 0 then
    gd (jr (v_count + 1)) <|
    gd (jb (v_count + 1) 201) <|
    some (v_count + 1, v_count + 1, va_up v_amounts ((v_count + 1).toNat) a4, va_up v_kinds ((v_count + 1).toNat) a1, va_up v_shires ((v_count + 1).toNat) a2, va_up v_terms ((v_count + 1).toNat) a3)
  else
    some ((-1), v_count, v_amounts, v_kinds, v_shires, v_terms)
abbrev R_iActs_addWrit : Type := Int × Int × (Nat → Int) × (Nat → Int) × (Nat → Int) × (Nat → Int) × (Nat → Option Nat)
def iActs_addWrit (a1 : Int) (a2 : (Option Nat)) (v_D : DynI) (v_count : Int) (v_amounts : (Nat → Int)) (v_kinds : (Nat → Int)) (v_shires : (Nat → Int)) (v_terms : (Nat → Int)) (v_writs : (Nat → Option Nat)) : Option R_iActs_addWrit :=
  bd6 (iActs_add 1 (-1) a1 0 v_count v_amounts v_kinds v_shires v_terms) fun rc1 v_count_c1 v_amounts_c1 v_kinds_c1 v_shires_c1 v_terms_c1 =>
  if rc1 = (-1) then
    some (rc1, v_count_c1, v_amounts_c1, v_kinds_c1, v_shires_c1, v_terms_c1, v_writs)
  else
    gd (jRt v_D a2 1) <|
    gd (jb rc1 201) <|
    some (rc1, v_count_c1, v_amounts_c1, v_kinds_c1, v_shires_c1, v_terms_c1, va_up v_writs rc1.toNat a2)
def iActs_size (v_count : Int) : Option Int :=
  some v_count
def iActs_isAct (a1 : Int) (v_count : Int) : Option Int :=
  if a1 < 1 then
    some 0
  else
    if v_count < a1 then
      some 0
    else
      some 1
def iActs_isKnown (a1 : Int) (a2 : Int) (v_count : Int) (v_kinds : (Nat → Int)) (v_voidedBy : (Nat → Int)) : Option Int :=
  bd1 (iActs_isAct a1 v_count) fun rc1 =>
  if rc1 = 0 then
    some 0
  else
    if a2 < a1 then
      some 0
    else
      gd (jb a1 201) <|
      if v_kinds a1.toNat = 5 then
        some 0
      else
        if v_voidedBy a1.toNat = 0 then
          some 1
        else
          if v_voidedBy a1.toNat ≤ a2 then
            some 0
          else
            some 1
def iActs_isPayment (a1 : Int) (v_count : Int) (v_kinds : (Nat → Int)) : Option Int :=
  bd1 (iActs_isAct a1 v_count) fun rc1 =>
  if rc1 = 0 then
    some 0
  else
    gd (jb a1 201) <|
    if v_kinds a1.toNat = 2 then
      some 1
    else
      if v_kinds a1.toNat = 3 then
        some 1
      else
        some 0
abbrev R_iActs_addPayment : Type := Int × Int × Int × (Nat → Int) × (Nat → Int) × (Nat → Int) × (Nat → Int)
def iActs_addPayment (a1 : Int) (a2 : Int) (a3 : Int) (a4 : Int) (v_count : Int) (v_payments : Int) (v_amounts : (Nat → Int)) (v_kinds : (Nat → Int)) (v_shires : (Nat → Int)) (v_terms : (Nat → Int)) : Option R_iActs_addPayment :=
  if 60 ≤ v_payments then
    some ((-1), v_count, v_payments, v_amounts, v_kinds, v_shires, v_terms)
  else
    bd1 (iActs_isFull v_count) fun rc1 =>
    if rc1 = 0 then
      bd6 (iActs_add a1 a2 a3 a4 v_count v_amounts v_kinds v_shires v_terms) fun rc2 v_count_c2 v_amounts_c2 v_kinds_c2 v_shires_c2 v_terms_c2 =>
      gd (jr (v_payments + 1)) <|
      some (rc2, v_count_c2, v_payments + 1, v_amounts_c2, v_kinds_c2, v_shires_c2, v_terms_c2)
    else
      some ((-1), v_count, v_payments, v_amounts, v_kinds, v_shires, v_terms)
abbrev R_iActs_addVoid : Type := Int × Int × (Nat → Int) × (Nat → Int) × (Nat → Int) × (Nat → Int) × (Nat → Int)
def iActs_addVoid (a1 : Int) (v_count : Int) (v_amounts : (Nat → Int)) (v_kinds : (Nat → Int)) (v_shires : (Nat → Int)) (v_terms : (Nat → Int)) (v_voidedBy : (Nat → Int)) : Option R_iActs_addVoid :=
  bd1 (iActs_isAct a1 v_count) fun rc1 =>
  if rc1 = 0 then
    some ((-1), v_count, v_amounts, v_kinds, v_shires, v_terms, v_voidedBy)
  else
    gd (jb a1 201) <|
    if v_kinds a1.toNat = 5 then
      some ((-1), v_count, v_amounts, v_kinds, v_shires, v_terms, v_voidedBy)
    else
      if v_voidedBy a1.toNat = 0 then
        bd1 (iActs_isFull v_count) fun rc3 =>
        if rc3 = 0 then
          bd6 (iActs_add 5 (v_shires a1.toNat) (v_terms a1.toNat) a1 v_count v_amounts v_kinds v_shires v_terms) fun rc4 v_count_c4 v_amounts_c4 v_kinds_c4 v_shires_c4 v_terms_c4 =>
          some ((va_up v_voidedBy a1.toNat rc4) a1.toNat, v_count_c4, v_amounts_c4, v_kinds_c4, v_shires_c4, v_terms_c4, va_up v_voidedBy a1.toNat rc4)
        else
          some ((-1), v_count, v_amounts, v_kinds, v_shires, v_terms, v_voidedBy)
      else
        some ((-1), v_count, v_amounts, v_kinds, v_shires, v_terms, v_voidedBy)
def iActs_canTouch (a1 : Int) (a2 : Int) (a3 : Int) (v_count : Int) (v_shires : (Nat → Int)) (v_terms : (Nat → Int)) : Option Int :=
  bd1 (iActs_isAct a1 v_count) fun rc1 =>
  if rc1 = 0 then
    some 0
  else
    gd (jb a1 201) <|
    if a3 < v_terms a1.toNat then
      some 0
    else
      if v_shires a1.toNat = (-1) then
        some 1
      else
        if v_shires a1.toNat = a2 then
          some 1
        else
          some 0
abbrev R_iJudge_setMoment : Type := Int × Int × Int × Int
def iJudge_setMoment (a1 : Int) (a2 : Int) (a3 : Int) (a5 : Int) (v_debt : Int) (v_paid : Int) (v_shire : Int) (v_term : Int) : Option R_iJudge_setMoment :=
  some (jmin 1000000000 (jmax (-1000000000) a3), jmin 1000000000 (jmax (-1000000000) a5), a1, a2)
def iJudge_present (a1 : Int) (v_debt : Int) (v_paid : Int) (v_term : Int) : Option Int :=
  if a1 = (-3) then
    some v_debt
  else
    if a1 = (-2) then
      gd (jr ((v_term).tdiv 2)) <|
      some ((v_term).tdiv 2)
    else
      if a1 = (-1) then
        some v_term
      else
        some v_paid
def iJudge_together (a0 : Int) (a1 : Int) (a3 : Int) : Option Int :=
  if a0 = (-17) then
    some (jmax a1 a3)
  else
    if a0 = (-16) then
      some (jmin a1 a3)
    else
      if a0 = (-14) then
        if a1 ≤ a3 then
          some 0
        else
          some 1
      else
        if a0 = (-13) then
          if a3 ≤ a1 then
            some 0
          else
            some 1
        else
          if a0 = (-12) then
            some (jmax a1 a3)
          else
            if a0 = (-11) then
              some (jmin a1 a3)
            else
              if a0 = (-10) then
                if a3 = 0 then
                  some 0
                else
                  bd1 (iJMath_floorDivL a1 a3) fun rc1 =>
                  some rc1
              else
                if a0 = (-9) then
                  gd (jR (a1 * a3)) <|
                  some (jmin 1000000000 (jmax (-1000000000) (a1 * a3)))
                else
                  if a0 = (-8) then
                    gd (jR (a1 - a3)) <|
                    some (jmin 1000000000 (jmax (-1000000000) (a1 - a3)))
                  else
                    if a0 = (-7) then
                      gd (jR (a1 + a3)) <|
                      some (jmin 1000000000 (jmax (-1000000000) (a1 + a3)))
                    else
                      if a1 = a3 then
                        some 1
                      else
                        some 0
abbrev R_iJudge_valueOf : Type := Int × (Nat → Int)
def iJudge_valueOf_b127 (N : Nat) (a1 : (Option Nat)) (a2 : Int) (a3 : Int) (v_D : DynI) (v_debt : Int) (v_paid : Int) (v_shire : Int) (v_term : Int) (self : Int → Int → (Nat → Int) → Option R_iJudge_valueOf) (k176 : Int → (Nat → Int) → Option R_iJudge_valueOf) (x4 : Int) (x5 : Int) (s1 : Int) (s2 : Int) (v_stack : (Nat → Int)) : Option R_iJudge_valueOf :=
  gd (jb s1 64) <|
  gd (jr (x5 + 1)) <|
  self x4 (x5 + 1) (va_up v_stack s1.toNat s2)
def iJudge_valueOf_b117 (N : Nat) (a1 : (Option Nat)) (a2 : Int) (a3 : Int) (v_D : DynI) (v_debt : Int) (v_paid : Int) (v_shire : Int) (v_term : Int) (self : Int → Int → (Nat → Int) → Option R_iJudge_valueOf) (k176 : Int → (Nat → Int) → Option R_iJudge_valueOf) (x4 : Int) (x5 : Int) (s1 : Int) (s2 : Int) (s3 : Int) (v_stack : (Nat → Int)) : Option R_iJudge_valueOf :=
  if s2 = s3 then
    iJudge_valueOf_b127 N a1 a2 a3 v_D v_debt v_paid v_shire v_term self k176 x4 x5 s1 1 v_stack
  else
    iJudge_valueOf_b127 N a1 a2 a3 v_D v_debt v_paid v_shire v_term self k176 x4 x5 s1 0 v_stack
def iJudge_valueOf_b66 (N : Nat) (a1 : (Option Nat)) (a2 : Int) (a3 : Int) (v_D : DynI) (v_debt : Int) (v_paid : Int) (v_shire : Int) (v_term : Int) (self : Int → Int → (Nat → Int) → Option R_iJudge_valueOf) (k176 : Int → (Nat → Int) → Option R_iJudge_valueOf) (x4 : Int) (x5 : Int) (s1 : Int) (s2 : Int) (v_stack : (Nat → Int)) : Option R_iJudge_valueOf :=
  gd (jb s1 64) <|
  gd (jr (x4 + 1)) <|
  gd (jr (x5 + 1)) <|
  self (x4 + 1) (x5 + 1) (va_up v_stack s1.toNat s2)
def iJudge_valueOf_b10_F (N : Nat) (a1 : (Option Nat)) (a2 : Int) (a3 : Int) (v_D : DynI) (v_debt : Int) (v_paid : Int) (v_shire : Int) (v_term : Int) (k176 : Int → (Nat → Int) → Option R_iJudge_valueOf) (self : Int → Int → (Nat → Int) → Option R_iJudge_valueOf) (x4 : Int) (x5 : Int) (v_stack : (Nat → Int)) : Option R_iJudge_valueOf :=
  if a3 ≤ x5 then
    k176 x4 v_stack
  else
    bd1 (a1) fun y1 =>
    bd1 (jLen v_D y1 3) fun n2 =>
    gd (jr ((n2 : Nat) : Int)) <|
    if ((n2 : Nat) : Int) ≤ x5 then
      k176 x4 v_stack
    else
      bd1 (jAI v_D y1 x5) fun d3 =>
      if d3 < (-4) then
        if d3 < (-6) then
          if x4 ≤ 1 then
            gd (jr (x5 + 1)) <|
            self x4 (x5 + 1) v_stack
          else
            gd (jr (x4 + (-1))) <|
            gd (jr ((x4 + (-1)) - 1)) <|
            gd (jb ((x4 + (-1)) - 1) 64) <|
            gd (jb (x4 + (-1)) 64) <|
            bd1 (iJudge_together d3 (v_stack (((x4 + (-1)) - 1).toNat)) (v_stack ((x4 + (-1)).toNat))) fun rc6 =>
            gd (jr (x5 + 1)) <|
            self (x4 + (-1)) (x5 + 1) (va_up v_stack (((x4 + (-1)) - 1).toNat) rc6)
        else
          if x4 ≤ 0 then
            gd (jr (x5 + 1)) <|
            self x4 (x5 + 1) v_stack
          else
            gd (jr (x4 - 1)) <|
            gd (jb (x4 - 1) 64) <|
            if d3 = (-6) then
              iJudge_valueOf_b117 N a1 a2 a3 v_D v_debt v_paid v_shire v_term self k176 x4 x5 (x4 - 1) (v_stack ((x4 - 1).toNat)) v_shire v_stack
            else
              iJudge_valueOf_b117 N a1 a2 a3 v_D v_debt v_paid v_shire v_term self k176 x4 x5 (x4 - 1) (v_stack ((x4 - 1).toNat)) 0 v_stack
      else
        if 64 ≤ x4 then
          gd (jr (x5 + 1)) <|
          self x4 (x5 + 1) v_stack
        else
          if d3 < 0 then
            bd1 (iJudge_present d3 v_debt v_paid v_term) fun rc8 =>
            iJudge_valueOf_b66 N a1 a2 a3 v_D v_debt v_paid v_shire v_term self k176 x4 x5 x4 rc8 v_stack
          else
            iJudge_valueOf_b66 N a1 a2 a3 v_D v_debt v_paid v_shire v_term self k176 x4 x5 x4 d3 v_stack
def iJudge_valueOf_b10 (N : Nat) (a1 : (Option Nat)) (a2 : Int) (a3 : Int) (v_D : DynI) (v_debt : Int) (v_paid : Int) (v_shire : Int) (v_term : Int) (k176 : Int → (Nat → Int) → Option R_iJudge_valueOf) : Nat → Int → Int → (Nat → Int) → Option R_iJudge_valueOf := zlp3 (iJudge_valueOf_b10_F N a1 a2 a3 v_D v_debt v_paid v_shire v_term k176)
def iJudge_valueOf_b176 (N : Nat) (a1 : (Option Nat)) (a2 : Int) (a3 : Int) (v_D : DynI) (v_debt : Int) (v_paid : Int) (v_shire : Int) (v_term : Int) (x4 : Int) (v_stack : (Nat → Int)) : Option R_iJudge_valueOf :=
  if x4 ≤ 0 then
    some (0, v_stack)
  else
    some (v_stack 0, v_stack)
def iJudge_valueOf (N : Nat) (a1 : (Option Nat)) (a2 : Int) (a3 : Int) (v_D : DynI) (v_debt : Int) (v_paid : Int) (v_shire : Int) (v_term : Int) (v_stack : (Nat → Int)) : Option R_iJudge_valueOf :=
  iJudge_valueOf_b10 N a1 a2 a3 v_D v_debt v_paid v_shire v_term (fun e9_ e10_ => iJudge_valueOf_b176 N a1 a2 a3 v_D v_debt v_paid v_shire v_term e9_ e10_) N 0 (jmax a2 0) v_stack
abbrev R_iKnown_addPayment : Type := (Nat → Int) × (Nat → Int)
def iKnown_addPayment (a1 : Int) (a2 : Int) (v_acts_count : Int) (v_acts_kinds : (Nat → Int)) (v_firstPayments : (Nat → Int)) (v_nextPayments : (Nat → Int)) : Option R_iKnown_addPayment :=
  bd1 (iActs_isPayment a1 v_acts_count v_acts_kinds) fun rc1 =>
  if rc1 = 0 then
    some (v_firstPayments, v_nextPayments)
  else
    bd1 (iK_isTerm a2) fun rc2 =>
    if rc2 = 0 then
      some (v_firstPayments, v_nextPayments)
    else
      gd (jb a2 40) <|
      gd (jb a1 201) <|
      some (va_up v_firstPayments a2.toNat a1, va_up v_nextPayments a1.toNat (v_firstPayments a2.toNat))
abbrev R_iKnown_note : Type := (Nat → Int) × (Nat → Int) × (Nat → Int) × (Nat → Int)
def iKnown_note (a1 : Int) (a2 : Int) (v_acts_count : Int) (v_acts_kinds : (Nat → Int)) (v_fires : (Nat → Int)) (v_firstPayments : (Nat → Int)) (v_nextPayments : (Nat → Int)) (v_writs : (Nat → Int)) : Option R_iKnown_note :=
  bd1 (iK_isTerm a2) fun rc1 =>
  if rc1 = 0 then
    some (v_fires, v_firstPayments, v_nextPayments, v_writs)
  else
    gd (jb a1 201) <|
    if v_acts_kinds a1.toNat = 1 then
      gd (jb a2 40) <|
      some (v_fires, v_firstPayments, v_nextPayments, va_up v_writs a2.toNat (jmax (v_writs a2.toNat) a1))
    else
      if v_acts_kinds a1.toNat = 4 then
        gd (jb a2 40) <|
        some (va_up v_fires a2.toNat (jmax (v_fires a2.toNat) a1), v_firstPayments, v_nextPayments, v_writs)
      else
        bd2 (iKnown_addPayment a1 a2 v_acts_count v_acts_kinds v_firstPayments v_nextPayments) fun v_firstPayments_c3 v_nextPayments_c3 =>
        some (v_fires, v_firstPayments_c3, v_nextPayments_c3, v_writs)
abbrev R_iKnown_setAt : Type := (Nat → Int) × (Nat → Int) × (Nat → Int) × (Nat → Int)
def iKnown_setAt_b36_F (N : Nat) (a1 : Int) (a2 : Int) (v_acts_count : Int) (v_acts_kinds : (Nat → Int)) (v_acts_terms : (Nat → Int)) (v_acts_voidedBy : (Nat → Int)) (k78 : (Nat → Int) → (Nat → Int) → (Nat → Int) → (Nat → Int) → Option R_iKnown_setAt) (self : Int → (Nat → Int) → (Nat → Int) → (Nat → Int) → (Nat → Int) → Option R_iKnown_setAt) (x3 : Int) (v_fires : (Nat → Int)) (v_firstPayments : (Nat → Int)) (v_nextPayments : (Nat → Int)) (v_writs : (Nat → Int)) : Option R_iKnown_setAt :=
  if x3 < 1 then
    k78 v_fires v_firstPayments v_nextPayments v_writs
  else
    if x3 = a2 then
      gd (jr (x3 + (-1))) <|
      self (x3 + (-1)) v_fires v_firstPayments v_nextPayments v_writs
    else
      bd1 (iActs_isKnown x3 a1 v_acts_count v_acts_kinds v_acts_voidedBy) fun rc2 =>
      if rc2 = 0 then
        gd (jr (x3 + (-1))) <|
        self (x3 + (-1)) v_fires v_firstPayments v_nextPayments v_writs
      else
        gd (jb x3 201) <|
        bd4 (iKnown_note x3 (v_acts_terms x3.toNat) v_acts_count v_acts_kinds v_fires v_firstPayments v_nextPayments v_writs) fun v_fires_c4 v_firstPayments_c4 v_nextPayments_c4 v_writs_c4 =>
        gd (jr (x3 + (-1))) <|
        self (x3 + (-1)) v_fires_c4 v_firstPayments_c4 v_nextPayments_c4 v_writs_c4
def iKnown_setAt_b36 (N : Nat) (a1 : Int) (a2 : Int) (v_acts_count : Int) (v_acts_kinds : (Nat → Int)) (v_acts_terms : (Nat → Int)) (v_acts_voidedBy : (Nat → Int)) (k78 : (Nat → Int) → (Nat → Int) → (Nat → Int) → (Nat → Int) → Option R_iKnown_setAt) : Nat → Int → (Nat → Int) → (Nat → Int) → (Nat → Int) → (Nat → Int) → Option R_iKnown_setAt := zlp5 (iKnown_setAt_b36_F N a1 a2 v_acts_count v_acts_kinds v_acts_terms v_acts_voidedBy k78)
def iKnown_setAt_b117 (N : Nat) (a1 : Int) (a2 : Int) (v_acts_count : Int) (v_acts_kinds : (Nat → Int)) (v_acts_terms : (Nat → Int)) (v_acts_voidedBy : (Nat → Int)) (self : Int → (Nat → Int) → Option R_iKnown_setAt) (x3 : Int) (s1 : Int) (s2 : Int) (v_fires : (Nat → Int)) (v_firstPayments : (Nat → Int)) (v_nextPayments : (Nat → Int)) (v_writs : (Nat → Int)) : Option R_iKnown_setAt :=
  gd (jb s1 40) <|
  gd (jr (x3 + 1)) <|
  self (x3 + 1) (va_up v_writs s1.toNat s2)
def iKnown_setAt_b80_F (N : Nat) (a1 : Int) (a2 : Int) (v_acts_count : Int) (v_acts_kinds : (Nat → Int)) (v_acts_terms : (Nat → Int)) (v_acts_voidedBy : (Nat → Int)) (v_fires : (Nat → Int)) (v_firstPayments : (Nat → Int)) (v_nextPayments : (Nat → Int)) (self : Int → (Nat → Int) → Option R_iKnown_setAt) (x3 : Int) (v_writs : (Nat → Int)) : Option R_iKnown_setAt :=
  if 40 ≤ x3 then
    some (v_fires, v_firstPayments, v_nextPayments, v_writs)
  else
    gd (jb x3 40) <|
    if v_writs x3.toNat = 0 then
      gd (jr (x3 - 1)) <|
      gd (jb (x3 - 1) 40) <|
      iKnown_setAt_b117 N a1 a2 v_acts_count v_acts_kinds v_acts_terms v_acts_voidedBy self x3 x3 (v_writs ((x3 - 1).toNat)) v_fires v_firstPayments v_nextPayments v_writs
    else
      iKnown_setAt_b117 N a1 a2 v_acts_count v_acts_kinds v_acts_terms v_acts_voidedBy self x3 x3 (v_writs x3.toNat) v_fires v_firstPayments v_nextPayments v_writs
def iKnown_setAt_b80 (N : Nat) (a1 : Int) (a2 : Int) (v_acts_count : Int) (v_acts_kinds : (Nat → Int)) (v_acts_terms : (Nat → Int)) (v_acts_voidedBy : (Nat → Int)) (v_fires : (Nat → Int)) (v_firstPayments : (Nat → Int)) (v_nextPayments : (Nat → Int)) : Nat → Int → (Nat → Int) → Option R_iKnown_setAt := zlp2 (iKnown_setAt_b80_F N a1 a2 v_acts_count v_acts_kinds v_acts_terms v_acts_voidedBy v_fires v_firstPayments v_nextPayments)
def iKnown_setAt_b78 (N : Nat) (a1 : Int) (a2 : Int) (v_acts_count : Int) (v_acts_kinds : (Nat → Int)) (v_acts_terms : (Nat → Int)) (v_acts_voidedBy : (Nat → Int)) (v_fires : (Nat → Int)) (v_firstPayments : (Nat → Int)) (v_nextPayments : (Nat → Int)) (v_writs : (Nat → Int)) : Option R_iKnown_setAt :=
  iKnown_setAt_b80 N a1 a2 v_acts_count v_acts_kinds v_acts_terms v_acts_voidedBy v_fires v_firstPayments v_nextPayments N 1 v_writs
def iKnown_setAt (N : Nat) (a1 : Int) (a2 : Int) (v_acts_count : Int) (v_acts_kinds : (Nat → Int)) (v_acts_terms : (Nat → Int)) (v_acts_voidedBy : (Nat → Int)) (v_fires : (Nat → Int)) (v_firstPayments : (Nat → Int)) (v_nextPayments : (Nat → Int)) (v_writs : (Nat → Int)) : Option R_iKnown_setAt :=
  bd1 (iActs_size v_acts_count) fun rc1 =>
  iKnown_setAt_b36 N a1 a2 v_acts_count v_acts_kinds v_acts_terms v_acts_voidedBy (fun e7_ e8_ e9_ e10_ => iKnown_setAt_b78 N a1 a2 v_acts_count v_acts_kinds v_acts_terms v_acts_voidedBy e7_ e8_ e9_ e10_) N (jmin a1 rc1) (fun _ => 0) (fun _ => 0) v_nextPayments (fun _ => 0)
def iKnown_writOf (a1 : Int) (v_acts_writs : (Nat → Option Nat)) (v_writs : (Nat → Int)) : Option (Option Nat) :=
  bd1 (iK_isTerm a1) fun rc1 =>
  if rc1 = 0 then
    some none
  else
    gd (jb a1 40) <|
    gd (jb (v_writs a1.toNat) 201) <|
    some (v_acts_writs ((v_writs a1.toNat).toNat))
def iKnown_firstPayment (a1 : Int) (v_firstPayments : (Nat → Int)) : Option Int :=
  bd1 (iK_isTerm a1) fun rc1 =>
  if rc1 = 0 then
    some 0
  else
    gd (jb a1 40) <|
    some (v_firstPayments a1.toNat)
def iKnown_fireOf (a1 : Int) (v_acts_amounts : (Nat → Int)) (v_fires : (Nat → Int)) : Option Int :=
  bd1 (iK_isTerm a1) fun rc1 =>
  if rc1 = 0 then
    some 0
  else
    gd (jb a1 40) <|
    if v_fires a1.toNat ≤ 0 then
      some 0
    else
      gd (jb (v_fires a1.toNat) 201) <|
      some (v_acts_amounts ((v_fires a1.toNat).toNat))
def iKnown_nextPayment (a1 : Int) (v_nextPayments : (Nat → Int)) : Option Int :=
  if a1 < 1 then
    some 0
  else
    if 200 < a1 then
      some 0
    else
      gd (jb a1 201) <|
      some (v_nextPayments a1.toNat)
def iKnown_dropFirstPayment (a1 : Int) (v_firstPayments : (Nat → Int)) (v_nextPayments : (Nat → Int)) : Option (Nat → Int) :=
  bd1 (iK_isTerm a1) fun rc1 =>
  if rc1 = 0 then
    some v_firstPayments
  else
    gd (jb a1 40) <|
    bd1 (iKnown_nextPayment (v_firstPayments a1.toNat) v_nextPayments) fun rc3 =>
    some (va_up v_firstPayments a1.toNat rc3)
abbrev R_iRoll_begin : Type := Int × Int
def iRoll_begin (a1 : Int) (v_shire : Int) (v_told : Int) : Option R_iRoll_begin :=
  some (a1, 0)
abbrev R_iRoll_comeDue : Type := Int × (Nat → Int)
def iRoll_comeDue_b16_F (N : Nat) (a1 : Int) (v_debts : (Nat → Int)) (v_debt : Int) (k35 : (Nat → Int) → Option R_iRoll_comeDue) (self : Int → (Nat → Int) → Option R_iRoll_comeDue) (x3 : Int) (v_putOff : (Nat → Int)) : Option R_iRoll_comeDue :=
  if 19 ≤ x3 then
    k35 v_putOff
  else
    gd (jb x3 760) <|
    gd (jr (x3 + 1)) <|
    self (x3 + 1) (va_up v_putOff x3.toNat 0)
def iRoll_comeDue_b16 (N : Nat) (a1 : Int) (v_debts : (Nat → Int)) (v_debt : Int) (k35 : (Nat → Int) → Option R_iRoll_comeDue) : Nat → Int → (Nat → Int) → Option R_iRoll_comeDue := zlp2 (iRoll_comeDue_b16_F N a1 v_debts v_debt k35)
def iRoll_comeDue_b35 (N : Nat) (a1 : Int) (v_debts : (Nat → Int)) (v_debt : Int) (v_putOff : (Nat → Int)) : Option R_iRoll_comeDue :=
  some (v_debt, v_putOff)
def iRoll_comeDue (N : Nat) (a1 : Int) (v_debt : Int) (v_debts : (Nat → Int)) (v_putOff : (Nat → Int)) : Option R_iRoll_comeDue :=
  if a1 = 0 then
    iRoll_comeDue_b16 N a1 v_debts 0 (fun e4_ => iRoll_comeDue_b35 N a1 v_debts 0 e4_) N 0 v_putOff
  else
    gd (jr (a1 - 1)) <|
    gd (jb (a1 - 1) 40) <|
    gd (jr (a1 * 19)) <|
    gd (jr ((a1 * 19) - 19)) <|
    gd (jb ((a1 * 19) - 19) 760) <|
    gd (jr (((a1 * 19) - 19) + 1)) <|
    gd (jcp (((a1 * 19) - 19) + 1) 760 (a1 * 19) 760 18) <|
    gd (jr ((a1 * 19) + 19)) <|
    gd (jr (((a1 * 19) + 19) - 1)) <|
    gd (jb (((a1 * 19) + 19) - 1) 760) <|
    gd (jR ((v_debts ((a1 - 1).toNat)) + (v_putOff (((a1 * 19) - 19).toNat)))) <|
    some ((v_debts ((a1 - 1).toNat)) + (v_putOff (((a1 * 19) - 19).toNat)), va_up (va_cpy v_putOff v_putOff ((((a1 * 19) - 19) + 1).toNat) ((a1 * 19).toNat) 18) ((((a1 * 19) + 19) - 1).toNat) 0)
def iRoll_pardoned_b21 (a1 : (Option Nat)) (v_D : DynI) (v_debt : Int) (s0 : Int) : Option Int :=
  if s0 = 0 then
    some 0
  else
    bd1 (a1) fun y3 =>
    bd1 (jGI v_D y3 0 2) fun d4 =>
    bd1 (jGI v_D y3 0 3) fun d5 =>
    gd (jn d5) <|
    gd (jR (v_debt * d4)) <|
    gd (jR ((v_debt * d4).tdiv d5)) <|
    some ((v_debt * d4).tdiv d5)
def iRoll_pardoned (a1 : (Option Nat)) (v_D : DynI) (v_debt : Int) : Option Int :=
  if v_debt ≤ 0 then
    iRoll_pardoned_b21 a1 v_D v_debt 0
  else
    bd1 (a1) fun y1 =>
    bd1 (jGI v_D y1 0 3) fun d2 =>
    if d2 ≤ 0 then
      iRoll_pardoned_b21 a1 v_D v_debt 0
    else
      iRoll_pardoned_b21 a1 v_D v_debt 1
abbrev R_iRoll_reckon : Type := Int × Int × Int × Int × Int × (Nat → Int) × Int × Int
def iRoll_reckon_b186 (N : Nat) (a1 : (Option Nat)) (a2 : Int) (a3 : Int) (v_D : DynI) (v_paid : Int) (v_shire : Int) (self : Int → Int → Int → Int → Int → Int → (Nat → Int) → Int → Int → Option R_iRoll_reckon) (x4 : Int) (x6 : Nat) (x7 : Int) (x8 : Int) (s1 : Int) (v_judge_debt : Int) (v_judge_paid : Int) (v_judge_shire : Int) (v_judge_term : Int) (v_judge_stack : (Nat → Int)) (v_blanched : Int) (v_debt : Int) : Option R_iRoll_reckon :=
  gd (jB s1) <|
  gd (jr (x8 + 1)) <|
  self x4 (x8 + 1) v_judge_debt v_judge_paid v_judge_shire v_judge_term v_judge_stack s1 v_debt
def iRoll_reckon_b161 (N : Nat) (a1 : (Option Nat)) (a2 : Int) (a3 : Int) (v_D : DynI) (v_paid : Int) (v_shire : Int) (self : Int → Int → Int → Int → Int → Int → (Nat → Int) → Int → Int → Option R_iRoll_reckon) (x4 : Int) (x6 : Nat) (x7 : Int) (x8 : Int) (x9 : Nat) (s1 : Int) (s2 : Int) (v_judge_debt : Int) (v_judge_paid : Int) (v_judge_shire : Int) (v_judge_term : Int) (v_judge_stack : (Nat → Int)) (v_blanched : Int) (v_debt : Int) : Option R_iRoll_reckon :=
  if v_blanched = 0 then
    bd1 (jGI v_D x9 0 1) fun d19 =>
    if d19 = 0 then
      gd (jR (s1 + s2)) <|
      iRoll_reckon_b186 N a1 a2 a3 v_D v_paid v_shire self x4 x6 x7 x8 0 v_judge_debt v_judge_paid v_judge_shire v_judge_term v_judge_stack v_blanched (s1 + s2)
    else
      gd (jR (s1 + s2)) <|
      iRoll_reckon_b186 N a1 a2 a3 v_D v_paid v_shire self x4 x6 x7 x8 1 v_judge_debt v_judge_paid v_judge_shire v_judge_term v_judge_stack v_blanched (s1 + s2)
  else
    gd (jR (s1 + s2)) <|
    iRoll_reckon_b186 N a1 a2 a3 v_D v_paid v_shire self x4 x6 x7 x8 1 v_judge_debt v_judge_paid v_judge_shire v_judge_term v_judge_stack v_blanched (s1 + s2)
def iRoll_reckon_b134 (N : Nat) (a1 : (Option Nat)) (a2 : Int) (a3 : Int) (v_D : DynI) (v_paid : Int) (v_shire : Int) (self : Int → Int → Int → Int → Int → Int → (Nat → Int) → Int → Int → Option R_iRoll_reckon) (x4 : Int) (x6 : Nat) (x7 : Int) (x8 : Int) (x9 : Nat) (s0 : Int) (v_judge_debt : Int) (v_judge_paid : Int) (v_judge_shire : Int) (v_judge_term : Int) (v_judge_stack : (Nat → Int)) (v_blanched : Int) (v_debt : Int) : Option R_iRoll_reckon :=
  if a3 = 1 then
    gd (jR (x4 + s0)) <|
    iRoll_reckon_b161 N a1 a2 a3 v_D v_paid v_shire self (x4 + s0) x6 x7 x8 x9 v_debt s0 v_judge_debt v_judge_paid v_judge_shire v_judge_term v_judge_stack v_blanched v_debt
  else
    gd (jR (x4 + s0)) <|
    gd (jR (-s0)) <|
    iRoll_reckon_b161 N a1 a2 a3 v_D v_paid v_shire self (x4 + s0) x6 x7 x8 x9 v_debt (-s0) v_judge_debt v_judge_paid v_judge_shire v_judge_term v_judge_stack v_blanched v_debt
def iRoll_reckon_b23_F (N : Nat) (a1 : (Option Nat)) (a2 : Int) (a3 : Int) (v_D : DynI) (v_paid : Int) (v_shire : Int) (x6 : Nat) (x7 : Int) (self : Int → Int → Int → Int → Int → Int → (Nat → Int) → Int → Int → Option R_iRoll_reckon) (x4 : Int) (x8 : Int) (v_judge_debt : Int) (v_judge_paid : Int) (v_judge_shire : Int) (v_judge_term : Int) (v_judge_stack : (Nat → Int)) (v_blanched : Int) (v_debt : Int) : Option R_iRoll_reckon :=
  if x7 ≤ x8 then
    some (x4, v_judge_debt, v_judge_paid, v_judge_shire, v_judge_term, v_judge_stack, v_blanched, v_debt)
  else
    bd1 (jAR v_D x6 x8) fun d5 =>
    bd1 (d5) fun y6 =>
    bd1 (jGI v_D y6 0 0) fun d7 =>
    if d7 = a3 then
      bd4 (iJudge_setMoment v_shire a2 v_debt v_paid v_judge_debt v_judge_paid v_judge_shire v_judge_term) fun v_judge_debt_c8 v_judge_paid_c8 v_judge_shire_c8 v_judge_term_c8 =>
      bd1 (a1) fun y9 =>
      bd1 (jGR v_D y9 1 1) fun d10 =>
      bd1 (jGI v_D y6 0 5) fun d11 =>
      bd1 (jGI v_D y6 0 6) fun d12 =>
      bd2 (iJudge_valueOf N d10 d11 d12 v_D v_judge_debt_c8 v_judge_paid_c8 v_judge_shire_c8 v_judge_term_c8 v_judge_stack) fun rc13 v_judge_stack_c13 =>
      if rc13 = 0 then
        gd (jr (x8 + 1)) <|
        self x4 (x8 + 1) v_judge_debt_c8 v_judge_paid_c8 v_judge_shire_c8 v_judge_term_c8 v_judge_stack_c13 v_blanched v_debt
      else
        if a3 = 3 then
          bd1 (iRoll_pardoned (some y6) v_D v_debt) fun rc18 =>
          iRoll_reckon_b134 N a1 a2 a3 v_D v_paid v_shire self x4 x6 x7 x8 y6 rc18 v_judge_debt_c8 v_judge_paid_c8 v_judge_shire_c8 v_judge_term_c8 v_judge_stack_c13 v_blanched v_debt
        else
          bd1 (jGR v_D y9 1 1) fun d14 =>
          bd1 (jGI v_D y6 0 4) fun d15 =>
          bd1 (jGI v_D y6 0 5) fun d16 =>
          bd2 (iJudge_valueOf N d14 d15 d16 v_D v_judge_debt_c8 v_judge_paid_c8 v_judge_shire_c8 v_judge_term_c8 v_judge_stack_c13) fun rc17 v_judge_stack_c17 =>
          iRoll_reckon_b134 N a1 a2 a3 v_D v_paid v_shire self x4 x6 x7 x8 y6 (jmax 0 rc17) v_judge_debt_c8 v_judge_paid_c8 v_judge_shire_c8 v_judge_term_c8 v_judge_stack_c17 v_blanched v_debt
    else
      gd (jr (x8 + 1)) <|
      self x4 (x8 + 1) v_judge_debt v_judge_paid v_judge_shire v_judge_term v_judge_stack v_blanched v_debt
def iRoll_reckon_b23 (N : Nat) (a1 : (Option Nat)) (a2 : Int) (a3 : Int) (v_D : DynI) (v_paid : Int) (v_shire : Int) (x6 : Nat) (x7 : Int) : Nat → Int → Int → Int → Int → Int → Int → (Nat → Int) → Int → Int → Option R_iRoll_reckon := zlp9 (iRoll_reckon_b23_F N a1 a2 a3 v_D v_paid v_shire x6 x7)
def iRoll_reckon (N : Nat) (a1 : (Option Nat)) (a2 : Int) (a3 : Int) (v_D : DynI) (v_judge_debt : Int) (v_judge_paid : Int) (v_judge_shire : Int) (v_judge_term : Int) (v_judge_stack : (Nat → Int)) (v_blanched : Int) (v_debt : Int) (v_paid : Int) (v_shire : Int) : Option R_iRoll_reckon :=
  opn a1 (
    some (0, v_judge_debt, v_judge_paid, v_judge_shire, v_judge_term, v_judge_stack, v_blanched, v_debt)) fun y1 =>
  bd1 (jGR v_D y1 1 0) fun d2 =>
  bd1 (d2) fun y3 =>
  bd1 (jLen v_D y3 2) fun n4 =>
  gd (jr ((n4 : Nat) : Int)) <|
  iRoll_reckon_b23 N a1 a2 a3 v_D v_paid v_shire y3 ((n4 : Nat) : Int) N 0 0 v_judge_debt v_judge_paid v_judge_shire v_judge_term v_judge_stack v_blanched v_debt
def iRoll_worthOf (a1 : Int) (a2 : Int) (v_acts_amounts : (Nat → Int)) (v_acts_kinds : (Nat → Int)) (v_chest_goodWorths : (Nat → Int)) (v_known_fires : (Nat → Int)) (v_blanched : Int) : Option Int :=
  gd (jb a1 201) <|
  if v_acts_kinds a1.toNat = 3 then
    bd1 (iChest_goodWorth (v_acts_amounts a1.toNat) v_chest_goodWorths) fun rc3 =>
    some rc3
  else
    if v_blanched = 0 then
      some (v_acts_amounts a1.toNat)
    else
      bd1 (iKnown_fireOf a2 v_acts_amounts v_known_fires) fun rc2 =>
      gd (jR ((v_acts_amounts a1.toNat) * rc2)) <|
      gd (jR (((v_acts_amounts a1.toNat) * rc2).tdiv 240)) <|
      gd (jR ((v_acts_amounts a1.toNat) - (((v_acts_amounts a1.toNat) * rc2).tdiv 240))) <|
      some ((v_acts_amounts a1.toNat) - (((v_acts_amounts a1.toNat) * rc2).tdiv 240))
abbrev R_iRoll_takeIn : Type := Int × Int
def iRoll_takeIn_b60 (N : Nat) (a1 : Int) (v_acts_count : Int) (v_acts_amounts : (Nat → Int)) (v_acts_kinds : (Nat → Int)) (v_acts_shires : (Nat → Int)) (v_chest_goodWorths : (Nat → Int)) (v_known_fires : (Nat → Int)) (v_known_firstPayments : (Nat → Int)) (v_known_nextPayments : (Nat → Int)) (v_blanched : Int) (v_shire : Int) (self : Int → Int → Int → Option R_iRoll_takeIn) (k75 : Int → Option R_iRoll_takeIn) (x2 : Int) (x3 : Int) (v_debt : Int) (v_paid : Int) : Option R_iRoll_takeIn :=
  bd1 (iKnown_nextPayment x2 v_known_nextPayments) fun rc5 =>
  gd (jr (x3 + 1)) <|
  self rc5 (x3 + 1) v_paid
def iRoll_takeIn_b11_F (N : Nat) (a1 : Int) (v_acts_count : Int) (v_acts_amounts : (Nat → Int)) (v_acts_kinds : (Nat → Int)) (v_acts_shires : (Nat → Int)) (v_chest_goodWorths : (Nat → Int)) (v_known_fires : (Nat → Int)) (v_known_firstPayments : (Nat → Int)) (v_known_nextPayments : (Nat → Int)) (v_blanched : Int) (v_shire : Int) (v_debt : Int) (k75 : Int → Option R_iRoll_takeIn) (self : Int → Int → Int → Option R_iRoll_takeIn) (x2 : Int) (x3 : Int) (v_paid : Int) : Option R_iRoll_takeIn :=
  if 200 ≤ x3 then
    k75 v_paid
  else
    bd1 (iActs_isPayment x2 v_acts_count v_acts_kinds) fun rc2 =>
    if rc2 = 0 then
      k75 v_paid
    else
      gd (jb x2 201) <|
      if v_acts_shires x2.toNat = v_shire then
        bd1 (iRoll_worthOf x2 a1 v_acts_amounts v_acts_kinds v_chest_goodWorths v_known_fires v_blanched) fun rc4 =>
        gd (jR (v_paid + rc4)) <|
        iRoll_takeIn_b60 N a1 v_acts_count v_acts_amounts v_acts_kinds v_acts_shires v_chest_goodWorths v_known_fires v_known_firstPayments v_known_nextPayments v_blanched v_shire self k75 x2 x3 v_debt (v_paid + rc4)
      else
        iRoll_takeIn_b60 N a1 v_acts_count v_acts_amounts v_acts_kinds v_acts_shires v_chest_goodWorths v_known_fires v_known_firstPayments v_known_nextPayments v_blanched v_shire self k75 x2 x3 v_debt v_paid
def iRoll_takeIn_b11 (N : Nat) (a1 : Int) (v_acts_count : Int) (v_acts_amounts : (Nat → Int)) (v_acts_kinds : (Nat → Int)) (v_acts_shires : (Nat → Int)) (v_chest_goodWorths : (Nat → Int)) (v_known_fires : (Nat → Int)) (v_known_firstPayments : (Nat → Int)) (v_known_nextPayments : (Nat → Int)) (v_blanched : Int) (v_shire : Int) (v_debt : Int) (k75 : Int → Option R_iRoll_takeIn) : Nat → Int → Int → Int → Option R_iRoll_takeIn := zlp3 (iRoll_takeIn_b11_F N a1 v_acts_count v_acts_amounts v_acts_kinds v_acts_shires v_chest_goodWorths v_known_fires v_known_firstPayments v_known_nextPayments v_blanched v_shire v_debt k75)
def iRoll_takeIn_b75 (N : Nat) (a1 : Int) (v_acts_count : Int) (v_acts_amounts : (Nat → Int)) (v_acts_kinds : (Nat → Int)) (v_acts_shires : (Nat → Int)) (v_chest_goodWorths : (Nat → Int)) (v_known_fires : (Nat → Int)) (v_known_firstPayments : (Nat → Int)) (v_known_nextPayments : (Nat → Int)) (v_blanched : Int) (v_shire : Int) (v_debt : Int) (v_paid : Int) : Option R_iRoll_takeIn :=
  gd (jR (v_debt - v_paid)) <|
  some (v_debt - v_paid, v_paid)
def iRoll_takeIn (N : Nat) (a1 : Int) (v_acts_count : Int) (v_acts_amounts : (Nat → Int)) (v_acts_kinds : (Nat → Int)) (v_acts_shires : (Nat → Int)) (v_chest_goodWorths : (Nat → Int)) (v_known_fires : (Nat → Int)) (v_known_firstPayments : (Nat → Int)) (v_known_nextPayments : (Nat → Int)) (v_blanched : Int) (v_debt : Int) (v_paid : Int) (v_shire : Int) : Option R_iRoll_takeIn :=
  bd1 (iKnown_firstPayment a1 v_known_firstPayments) fun rc1 =>
  iRoll_takeIn_b11 N a1 v_acts_count v_acts_amounts v_acts_kinds v_acts_shires v_chest_goodWorths v_known_fires v_known_firstPayments v_known_nextPayments v_blanched v_shire v_debt (fun e13_ => iRoll_takeIn_b75 N a1 v_acts_count v_acts_amounts v_acts_kinds v_acts_shires v_chest_goodWorths v_known_fires v_known_firstPayments v_known_nextPayments v_blanched v_shire v_debt e13_) N rc1 0 v_paid
abbrev R_iRoll_splitDebt : Type := Int × Int × Int × Int × (Nat → Int) × Int × (Nat → Int)
def iRoll_splitDebt_b135_F (N : Nat) (a1 : (Option Nat)) (a2 : Int) (v_D : DynI) (v_paid : Int) (v_shire : Int) (x3 : Nat) (x4 : Int) (x5 : Int) (x7 : Int) (x8 : Int) (v_judge_debt : Int) (v_judge_paid : Int) (v_judge_shire : Int) (v_judge_term : Int) (v_judge_stack : (Nat → Int)) (v_debt : Int) (k165 : (Nat → Int) → Option R_iRoll_splitDebt) (self : Int → (Nat → Int) → Option R_iRoll_splitDebt) (x10 : Int) (v_putOff : (Nat → Int)) : Option R_iRoll_splitDebt :=
  if x7 ≤ x10 then
    k165 v_putOff
  else
    gd (jr (a2 * 19)) <|
    gd (jr ((a2 * 19) + x10)) <|
    gd (jb ((a2 * 19) + x10) 760) <|
    gd (jr (x10 + 1)) <|
    gd (jR ((v_putOff (((a2 * 19) + x10).toNat)) + x8)) <|
    self (x10 + 1) (va_up v_putOff (((a2 * 19) + x10).toNat) ((v_putOff (((a2 * 19) + x10).toNat)) + x8))
def iRoll_splitDebt_b135 (N : Nat) (a1 : (Option Nat)) (a2 : Int) (v_D : DynI) (v_paid : Int) (v_shire : Int) (x3 : Nat) (x4 : Int) (x5 : Int) (x7 : Int) (x8 : Int) (v_judge_debt : Int) (v_judge_paid : Int) (v_judge_shire : Int) (v_judge_term : Int) (v_judge_stack : (Nat → Int)) (v_debt : Int) (k165 : (Nat → Int) → Option R_iRoll_splitDebt) : Nat → Int → (Nat → Int) → Option R_iRoll_splitDebt := zlp2 (iRoll_splitDebt_b135_F N a1 a2 v_D v_paid v_shire x3 x4 x5 x7 x8 v_judge_debt v_judge_paid v_judge_shire v_judge_term v_judge_stack v_debt k165)
def iRoll_splitDebt_b165 (N : Nat) (a1 : (Option Nat)) (a2 : Int) (v_D : DynI) (v_paid : Int) (v_shire : Int) (self : Int → Int → Int → Int → Int → (Nat → Int) → Int → (Nat → Int) → Option R_iRoll_splitDebt) (x3 : Nat) (x4 : Int) (x5 : Int) (x7 : Int) (x8 : Int) (v_judge_debt : Int) (v_judge_paid : Int) (v_judge_shire : Int) (v_judge_term : Int) (v_judge_stack : (Nat → Int)) (v_debt : Int) (v_putOff : (Nat → Int)) : Option R_iRoll_splitDebt :=
  gd (jr (x5 + 1)) <|
  gd (jR (x8 * x7)) <|
  gd (jR (v_debt - (x8 * x7))) <|
  self (x5 + 1) v_judge_debt v_judge_paid v_judge_shire v_judge_term v_judge_stack (v_debt - (x8 * x7)) v_putOff
def iRoll_splitDebt_b17_F (N : Nat) (a1 : (Option Nat)) (a2 : Int) (v_D : DynI) (v_paid : Int) (v_shire : Int) (x3 : Nat) (x4 : Int) (self : Int → Int → Int → Int → Int → (Nat → Int) → Int → (Nat → Int) → Option R_iRoll_splitDebt) (x5 : Int) (v_judge_debt : Int) (v_judge_paid : Int) (v_judge_shire : Int) (v_judge_term : Int) (v_judge_stack : (Nat → Int)) (v_debt : Int) (v_putOff : (Nat → Int)) : Option R_iRoll_splitDebt :=
  if x4 ≤ x5 then
    some (v_judge_debt, v_judge_paid, v_judge_shire, v_judge_term, v_judge_stack, v_debt, v_putOff)
  else
    bd1 (jAR v_D x3 x5) fun d5 =>
    bd1 (d5) fun y6 =>
    bd1 (jGI v_D y6 0 0) fun d7 =>
    if d7 = 4 then
      if v_debt ≤ 0 then
        gd (jr (x5 + 1)) <|
        self (x5 + 1) v_judge_debt v_judge_paid v_judge_shire v_judge_term v_judge_stack v_debt v_putOff
      else
        bd1 (jGI v_D y6 0 2) fun d8 =>
        if 0 < d8 then
          bd4 (iJudge_setMoment v_shire a2 v_debt v_paid v_judge_debt v_judge_paid v_judge_shire v_judge_term) fun v_judge_debt_c9 v_judge_paid_c9 v_judge_shire_c9 v_judge_term_c9 =>
          bd1 (a1) fun y10 =>
          bd1 (jGR v_D y10 1 1) fun d11 =>
          bd1 (jGI v_D y6 0 5) fun d12 =>
          bd1 (jGI v_D y6 0 6) fun d13 =>
          bd2 (iJudge_valueOf N d11 d12 d13 v_D v_judge_debt_c9 v_judge_paid_c9 v_judge_shire_c9 v_judge_term_c9 v_judge_stack) fun rc14 v_judge_stack_c14 =>
          if rc14 = 0 then
            gd (jr (x5 + 1)) <|
            self (x5 + 1) v_judge_debt_c9 v_judge_paid_c9 v_judge_shire_c9 v_judge_term_c9 v_judge_stack_c14 v_debt v_putOff
          else
            bd1 (jGI v_D y6 0 2) fun d15 =>
            bd1 (jGI v_D y6 0 2) fun d16 =>
            gd (jn d16) <|
            gd (jr (d15 - 1)) <|
            gd (jR ((v_debt).tdiv d16)) <|
            iRoll_splitDebt_b135 N a1 a2 v_D v_paid v_shire x3 x4 x5 (jmin (d15 - 1) 19) ((v_debt).tdiv d16) v_judge_debt_c9 v_judge_paid_c9 v_judge_shire_c9 v_judge_term_c9 v_judge_stack_c14 v_debt (fun e18_ => iRoll_splitDebt_b165 N a1 a2 v_D v_paid v_shire self x3 x4 x5 (jmin (d15 - 1) 19) ((v_debt).tdiv d16) v_judge_debt_c9 v_judge_paid_c9 v_judge_shire_c9 v_judge_term_c9 v_judge_stack_c14 v_debt e18_) N 0 v_putOff
        else
          gd (jr (x5 + 1)) <|
          self (x5 + 1) v_judge_debt v_judge_paid v_judge_shire v_judge_term v_judge_stack v_debt v_putOff
    else
      gd (jr (x5 + 1)) <|
      self (x5 + 1) v_judge_debt v_judge_paid v_judge_shire v_judge_term v_judge_stack v_debt v_putOff
def iRoll_splitDebt_b17 (N : Nat) (a1 : (Option Nat)) (a2 : Int) (v_D : DynI) (v_paid : Int) (v_shire : Int) (x3 : Nat) (x4 : Int) : Nat → Int → Int → Int → Int → Int → (Nat → Int) → Int → (Nat → Int) → Option R_iRoll_splitDebt := zlp8 (iRoll_splitDebt_b17_F N a1 a2 v_D v_paid v_shire x3 x4)
def iRoll_splitDebt (N : Nat) (a1 : (Option Nat)) (a2 : Int) (v_D : DynI) (v_judge_debt : Int) (v_judge_paid : Int) (v_judge_shire : Int) (v_judge_term : Int) (v_judge_stack : (Nat → Int)) (v_debt : Int) (v_paid : Int) (v_shire : Int) (v_putOff : (Nat → Int)) : Option R_iRoll_splitDebt :=
  opn a1 (
    some (v_judge_debt, v_judge_paid, v_judge_shire, v_judge_term, v_judge_stack, v_debt, v_putOff)) fun y1 =>
  bd1 (jGR v_D y1 1 0) fun d2 =>
  bd1 (d2) fun y3 =>
  bd1 (jLen v_D y3 2) fun n4 =>
  gd (jr ((n4 : Nat) : Int)) <|
  iRoll_splitDebt_b17 N a1 a2 v_D v_paid v_shire y3 ((n4 : Nat) : Int) N 0 v_judge_debt v_judge_paid v_judge_shire v_judge_term v_judge_stack v_debt v_putOff
abbrev R_iRoll_goTo : Type := Int × Int × Int × Int × (Nat → Int) × Int × Int × Int × Int × (Nat → Int) × (Nat → Int) × (Nat → Int) × (Nat → Int) × (Nat → Int) × (Nat → Int)
def iRoll_goTo_b5_F (N : Nat) (a1 : Int) (v_acts_count : Int) (v_acts_amounts : (Nat → Int)) (v_acts_kinds : (Nat → Int)) (v_acts_shires : (Nat → Int)) (v_acts_writs : (Nat → Option Nat)) (v_chest_goodWorths : (Nat → Int)) (v_D : DynI) (v_known_fires : (Nat → Int)) (v_known_firstPayments : (Nat → Int)) (v_known_nextPayments : (Nat → Int)) (v_known_writs : (Nat → Int)) (v_shire : Int) (self : Int → Int → Int → Int → Int → (Nat → Int) → Int → Int → Int → Int → (Nat → Int) → (Nat → Int) → (Nat → Int) → (Nat → Int) → (Nat → Int) → (Nat → Int) → Option R_iRoll_goTo) (x2 : Int) (v_judge_debt : Int) (v_judge_paid : Int) (v_judge_shire : Int) (v_judge_term : Int) (v_judge_stack : (Nat → Int)) (v_blanched : Int) (v_debt : Int) (v_paid : Int) (v_told : Int) (v_allowances : (Nat → Int)) (v_debts : (Nat → Int)) (v_farms : (Nat → Int)) (v_pardons : (Nat → Int)) (v_payments : (Nat → Int)) (v_putOff : (Nat → Int)) : Option R_iRoll_goTo :=
  if a1 < x2 then
    some (v_judge_debt, v_judge_paid, v_judge_shire, v_judge_term, v_judge_stack, v_blanched, v_debt, v_paid, v_told, v_allowances, v_debts, v_farms, v_pardons, v_payments, v_putOff)
  else
    if 40 ≤ x2 then
      some (v_judge_debt, v_judge_paid, v_judge_shire, v_judge_term, v_judge_stack, v_blanched, v_debt, v_paid, v_told, v_allowances, v_debts, v_farms, v_pardons, v_payments, v_putOff)
    else
      bd1 (iKnown_writOf x2 v_acts_writs v_known_writs) fun rc1 =>
      bd2 (iRoll_comeDue N x2 v_debt v_debts v_putOff) fun v_debt_c2 v_putOff_c2 =>
      bd8 (iRoll_reckon N rc1 x2 1 v_D v_judge_debt v_judge_paid v_judge_shire v_judge_term v_judge_stack 0 v_debt_c2 0 v_shire) fun rc3 v_judge_debt_c3 v_judge_paid_c3 v_judge_shire_c3 v_judge_term_c3 v_judge_stack_c3 v_blanched_c3 v_debt_c3 =>
      gd (jb x2 40) <|
      bd8 (iRoll_reckon N rc1 x2 2 v_D v_judge_debt_c3 v_judge_paid_c3 v_judge_shire_c3 v_judge_term_c3 v_judge_stack_c3 v_blanched_c3 v_debt_c3 0 v_shire) fun rc5 v_judge_debt_c5 v_judge_paid_c5 v_judge_shire_c5 v_judge_term_c5 v_judge_stack_c5 v_blanched_c5 v_debt_c5 =>
      bd8 (iRoll_reckon N rc1 x2 3 v_D v_judge_debt_c5 v_judge_paid_c5 v_judge_shire_c5 v_judge_term_c5 v_judge_stack_c5 v_blanched_c5 v_debt_c5 0 v_shire) fun rc6 v_judge_debt_c6 v_judge_paid_c6 v_judge_shire_c6 v_judge_term_c6 v_judge_stack_c6 v_blanched_c6 v_debt_c6 =>
      bd2 (iRoll_takeIn N x2 v_acts_count v_acts_amounts v_acts_kinds v_acts_shires v_chest_goodWorths v_known_fires v_known_firstPayments v_known_nextPayments v_blanched_c6 v_debt_c6 0 v_shire) fun v_debt_c7 v_paid_c7 =>
      bd7 (iRoll_splitDebt N rc1 x2 v_D v_judge_debt_c6 v_judge_paid_c6 v_judge_shire_c6 v_judge_term_c6 v_judge_stack_c6 v_debt_c7 v_paid_c7 v_shire v_putOff_c2) fun v_judge_debt_c8 v_judge_paid_c8 v_judge_shire_c8 v_judge_term_c8 v_judge_stack_c8 v_debt_c8 v_putOff_c8 =>
      gd (jr (x2 + 1)) <|
      self (x2 + 1) v_judge_debt_c8 v_judge_paid_c8 v_judge_shire_c8 v_judge_term_c8 v_judge_stack_c8 v_blanched_c6 v_debt_c8 v_paid_c7 (x2 + 1) (va_up v_allowances x2.toNat rc5) (va_up v_debts x2.toNat v_debt_c8) (va_up v_farms x2.toNat rc3) (va_up v_pardons x2.toNat rc6) (va_up v_payments x2.toNat v_paid_c7) v_putOff_c8
def iRoll_goTo_b5 (N : Nat) (a1 : Int) (v_acts_count : Int) (v_acts_amounts : (Nat → Int)) (v_acts_kinds : (Nat → Int)) (v_acts_shires : (Nat → Int)) (v_acts_writs : (Nat → Option Nat)) (v_chest_goodWorths : (Nat → Int)) (v_D : DynI) (v_known_fires : (Nat → Int)) (v_known_firstPayments : (Nat → Int)) (v_known_nextPayments : (Nat → Int)) (v_known_writs : (Nat → Int)) (v_shire : Int) : Nat → Int → Int → Int → Int → Int → (Nat → Int) → Int → Int → Int → Int → (Nat → Int) → (Nat → Int) → (Nat → Int) → (Nat → Int) → (Nat → Int) → (Nat → Int) → Option R_iRoll_goTo := zlp16 (iRoll_goTo_b5_F N a1 v_acts_count v_acts_amounts v_acts_kinds v_acts_shires v_acts_writs v_chest_goodWorths v_D v_known_fires v_known_firstPayments v_known_nextPayments v_known_writs v_shire)
def iRoll_goTo (N : Nat) (a1 : Int) (v_acts_count : Int) (v_acts_amounts : (Nat → Int)) (v_acts_kinds : (Nat → Int)) (v_acts_shires : (Nat → Int)) (v_acts_writs : (Nat → Option Nat)) (v_chest_goodWorths : (Nat → Int)) (v_D : DynI) (v_judge_debt : Int) (v_judge_paid : Int) (v_judge_shire : Int) (v_judge_term : Int) (v_judge_stack : (Nat → Int)) (v_known_fires : (Nat → Int)) (v_known_firstPayments : (Nat → Int)) (v_known_nextPayments : (Nat → Int)) (v_known_writs : (Nat → Int)) (v_blanched : Int) (v_debt : Int) (v_paid : Int) (v_shire : Int) (v_told : Int) (v_allowances : (Nat → Int)) (v_debts : (Nat → Int)) (v_farms : (Nat → Int)) (v_pardons : (Nat → Int)) (v_payments : (Nat → Int)) (v_putOff : (Nat → Int)) : Option R_iRoll_goTo :=
  iRoll_goTo_b5 N a1 v_acts_count v_acts_amounts v_acts_kinds v_acts_shires v_acts_writs v_chest_goodWorths v_D v_known_fires v_known_firstPayments v_known_nextPayments v_known_writs v_shire N v_told v_judge_debt v_judge_paid v_judge_shire v_judge_term v_judge_stack v_blanched v_debt v_paid v_told v_allowances v_debts v_farms v_pardons v_payments v_putOff
def iRoll_putOffAfter_b8_F (N : Nat) (a1 : Int) (v_putOff : (Nat → Int)) (self : Int → Int → Option Int) (x2 : Int) (x4 : Int) : Option Int :=
  gd (jr (a1 + 1)) <|
  gd (jr ((a1 + 1) * 19)) <|
  if (a1 + 1) * 19 ≤ x4 then
    some x2
  else
    gd (jb x4 760) <|
    gd (jR (x2 + (v_putOff x4.toNat))) <|
    gd (jr (x4 + 1)) <|
    self (x2 + (v_putOff x4.toNat)) (x4 + 1)
def iRoll_putOffAfter_b8 (N : Nat) (a1 : Int) (v_putOff : (Nat → Int)) : Nat → Int → Int → Option Int := zlp2 (iRoll_putOffAfter_b8_F N a1 v_putOff)
def iRoll_putOffAfter (N : Nat) (a1 : Int) (v_putOff : (Nat → Int)) : Option Int :=
  gd (jr (a1 * 19)) <|
  iRoll_putOffAfter_b8 N a1 v_putOff N 0 (a1 * 19)
def iRoll_entry (N : Nat) (a1 : Int) (a2 : Int) (v_allowances : (Nat → Int)) (v_debts : (Nat → Int)) (v_farms : (Nat → Int)) (v_pardons : (Nat → Int)) (v_payments : (Nat → Int)) (v_putOff : (Nat → Int)) : Option Int :=
  bd1 (iK_isTerm a1) fun rc1 =>
  if rc1 = 0 then
    some (-2000000000000)
  else
    if a2 = 0 then
      gd (jb a1 40) <|
      some (v_debts a1.toNat)
    else
      if a2 = 1 then
        bd1 (iRoll_putOffAfter N a1 v_putOff) fun rc3 =>
        some rc3
      else
        if a2 = 2 then
          gd (jb a1 40) <|
          some (v_farms a1.toNat)
        else
          if a2 = 3 then
            gd (jb a1 40) <|
            some (v_allowances a1.toNat)
          else
            if a2 = 4 then
              gd (jb a1 40) <|
              some (v_pardons a1.toNat)
            else
              if a2 = 5 then
                gd (jb a1 40) <|
                some (v_payments a1.toNat)
              else
                if a2 = 6 then
                  gd (jb a1 40) <|
                  if 0 < v_debts a1.toNat then
                    some 0
                  else
                    bd1 (iRoll_putOffAfter N a1 v_putOff) fun rc9 =>
                    if rc9 = 0 then
                      some 1
                    else
                      some 0
                else
                  some (-2000000000000)
def iRoll_shireOf (v_shire : Int) : Option Int :=
  some v_shire
abbrev R_iRoll_beginLike : Type := Int × Int × (Nat → Int) × (Nat → Int)
def iRoll_beginLike (a2 : Int) (v_a1_shire : Int) (v_a1_told : Int) (v_a1_debts : (Nat → Int)) (v_a1_putOff : (Nat → Int)) (v_shire : Int) (v_told : Int) (v_debts : (Nat → Int)) (v_putOff : (Nat → Int)) : Option R_iRoll_beginLike :=
  gd (jcp 0 40 0 40 (jmax 0 (jmin a2 v_a1_told))) <|
  gd (jr ((jmax 0 (jmin a2 v_a1_told)) * 19)) <|
  gd (jcp 0 760 0 760 ((jmax 0 (jmin a2 v_a1_told)) * 19)) <|
  some (v_a1_shire, jmax 0 (jmin a2 v_a1_told), va_cpy v_a1_debts v_debts 0 0 ((jmax 0 (jmin a2 v_a1_told)).toNat), va_cpy v_a1_putOff v_putOff 0 0 (((jmax 0 (jmin a2 v_a1_told)) * 19).toNat))
def iRoll_nextTerm (v_told : Int) : Option Int :=
  some v_told
def iRoll_isLike_b30_F (N : Nat) (a2 : Int) (v_a1_debts : (Nat → Int)) (v_a1_putOff : (Nat → Int)) (v_debts : (Nat → Int)) (v_putOff : (Nat → Int)) (self : Int → Option Int) (x3 : Int) : Option Int :=
  gd (jr (a2 + 1)) <|
  gd (jr ((a2 + 1) * 19)) <|
  if (a2 + 1) * 19 ≤ x3 then
    some 1
  else
    gd (jb x3 760) <|
    if v_putOff x3.toNat = v_a1_putOff x3.toNat then
      gd (jr (x3 + 1)) <|
      self (x3 + 1)
    else
      some 0
def iRoll_isLike_b30 (N : Nat) (a2 : Int) (v_a1_debts : (Nat → Int)) (v_a1_putOff : (Nat → Int)) (v_debts : (Nat → Int)) (v_putOff : (Nat → Int)) : Nat → Int → Option Int := zlp1 (iRoll_isLike_b30_F N a2 v_a1_debts v_a1_putOff v_debts v_putOff)
def iRoll_isLike (N : Nat) (a2 : Int) (v_a1_debts : (Nat → Int)) (v_a1_putOff : (Nat → Int)) (v_debts : (Nat → Int)) (v_putOff : (Nat → Int)) : Option Int :=
  bd1 (iK_isTerm a2) fun rc1 =>
  if rc1 = 0 then
    some 0
  else
    gd (jb a2 40) <|
    if v_debts a2.toNat = v_a1_debts a2.toNat then
      gd (jr (a2 * 19)) <|
      iRoll_isLike_b30 N a2 v_a1_debts v_a1_putOff v_debts v_putOff N (a2 * 19)
    else
      some 0
def iRoll_goBack (a1 : Int) (v_told : Int) : Option Int :=
  some (jmax 0 (jmin a1 v_told))
