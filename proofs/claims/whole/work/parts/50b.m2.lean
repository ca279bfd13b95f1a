set_option maxHeartbeats 4000000
set_option maxRecDepth 100000
def iM_hasSquare_b2_F (N : Nat) (v_waits : Int) (v_wait : (Nat → Int)) (self : Int → Option Int) (x1 : Int) : Option Int :=
  if v_waits ≤ x1 then
    some 0
  else
    gd (jb x1 700) <|
    if v_wait x1.toNat = 25 then
      some 1
    else
      gd (jr (x1 + 1)) <|
      self (x1 + 1)
def iM_hasSquare_b2 (N : Nat) (v_waits : Int) (v_wait : (Nat → Int)) : Nat → Int → Option Int := zlp1 (iM_hasSquare_b2_F N v_waits v_wait)
def iM_hasSquare (N : Nat) (v_waits : Int) (v_wait : (Nat → Int)) : Option Int :=
  iM_hasSquare_b2 N v_waits v_wait N 0
abbrev R_iM_dropsNots : Type := Int × Int × Int × (Nat → Int)
def iM_dropsNots_b0_F (N : Nat) (v_bad : Int) (v_wait : (Nat → Int)) (self : Int → Int → Int → (Nat → Int) → Option R_iM_dropsNots) (v_coded : Int) (v_open : Int) (v_waits : Int) (v_codes : (Nat → Int)) : Option R_iM_dropsNots :=
  if v_bad = 0 then
    bd1 (iM_isOn 16 v_waits v_wait) fun rc1 =>
    if rc1 = 0 then
      some (v_coded, v_open, v_waits, v_codes)
    else
      bd3 (iM_drops v_coded v_waits v_codes v_wait) fun v_coded_c2 v_waits_c2 v_codes_c2 =>
      gd (jr (v_open - 1)) <|
      self v_coded_c2 (v_open - 1) v_waits_c2 v_codes_c2
  else
    some (v_coded, v_open, v_waits, v_codes)
def iM_dropsNots_b0 (N : Nat) (v_bad : Int) (v_wait : (Nat → Int)) : Nat → Int → Int → Int → (Nat → Int) → Option R_iM_dropsNots := zlp4 (iM_dropsNots_b0_F N v_bad v_wait)
def iM_dropsNots (N : Nat) (v_bad : Int) (v_coded : Int) (v_open : Int) (v_waits : Int) (v_codes : (Nat → Int)) (v_wait : (Nat → Int)) : Option R_iM_dropsNots :=
  iM_dropsNots_b0 N v_bad v_wait N v_coded v_open v_waits v_codes
abbrev R_iM_goesOnTest : Type := Int × Int × Int × Int × Int × Int × Int × Int × (Nat → Int) × (Nat → Int)
def iM_goesOnTest_b33_F (N : Nat) (v_end : Int) (v_andWord : (Nat → Int)) (v_orWord : (Nat → Int)) (v_tape : (Nat → Int)) (v_at : Int) (v_bad : Int) (v_badPlace : Int) (v_ended : Int) (v_open : Int) (v_wait : (Nat → Int)) (k49 : Int → Int → (Nat → Int) → Option R_iM_goesOnTest) (self : Int → Int → (Nat → Int) → Option R_iM_goesOnTest) (v_coded : Int) (v_waits : Int) (v_codes : (Nat → Int)) : Option R_iM_goesOnTest :=
  bd1 (iM_isOn 25 v_waits v_wait) fun rc7 =>
  if rc7 = 0 then
    bd3 (iM_drops v_coded v_waits v_codes v_wait) fun v_coded_c8 v_waits_c8 v_codes_c8 =>
    self v_coded_c8 v_waits_c8 v_codes_c8
  else
    k49 v_coded v_waits v_codes
def iM_goesOnTest_b33 (N : Nat) (v_end : Int) (v_andWord : (Nat → Int)) (v_orWord : (Nat → Int)) (v_tape : (Nat → Int)) (v_at : Int) (v_bad : Int) (v_badPlace : Int) (v_ended : Int) (v_open : Int) (v_wait : (Nat → Int)) (k49 : Int → Int → (Nat → Int) → Option R_iM_goesOnTest) : Nat → Int → Int → (Nat → Int) → Option R_iM_goesOnTest := zlp3 (iM_goesOnTest_b33_F N v_end v_andWord v_orWord v_tape v_at v_bad v_badPlace v_ended v_open v_wait k49)
def iM_goesOnTest_b49 (N : Nat) (v_end : Int) (v_andWord : (Nat → Int)) (v_orWord : (Nat → Int)) (v_tape : (Nat → Int)) (self : Int → Int → Int → Int → (Nat → Int) → Option R_iM_goesOnTest) (k76 : Int → Int → Int → Int → (Nat → Int) → Option R_iM_goesOnTest) (v_at : Int) (v_bad : Int) (v_badPlace : Int) (v_coded : Int) (v_ended : Int) (v_open : Int) (v_waits : Int) (v_codes : (Nat → Int)) (v_wait : (Nat → Int)) : Option R_iM_goesOnTest :=
  gd (jr (v_open - 1)) <|
  gd (jr (v_waits - 1)) <|
  bd4 (iM_dropsNots N v_bad v_coded (v_open - 1) (v_waits - 1) v_codes v_wait) fun v_coded_c15 v_open_c15 v_waits_c15 v_codes_c15 =>
  self v_at v_coded_c15 v_open_c15 v_waits_c15 v_codes_c15
def iM_goesOnTest_b0_F (N : Nat) (v_end : Int) (v_andWord : (Nat → Int)) (v_orWord : (Nat → Int)) (v_tape : (Nat → Int)) (v_bad : Int) (v_badPlace : Int) (v_ended : Int) (v_wait : (Nat → Int)) (k76 : Int → Int → Int → Int → (Nat → Int) → Option R_iM_goesOnTest) (self : Int → Int → Int → Int → (Nat → Int) → Option R_iM_goesOnTest) (v_at : Int) (v_coded : Int) (v_open : Int) (v_waits : Int) (v_codes : (Nat → Int)) : Option R_iM_goesOnTest :=
  if v_bad = 0 then
    bd2 (iM_look N v_at v_end v_tape) fun rc1 v_at_c1 =>
    if rc1 = 93 then
      bd1 (iM_hasSquare N v_waits v_wait) fun rc2 =>
      if rc2 = 0 then
        k76 v_at_c1 v_coded v_open v_waits v_codes
      else
        gd (jr (v_at_c1 + 1)) <|
        iM_goesOnTest_b33 N v_end v_andWord v_orWord v_tape (v_at_c1 + 1) v_bad v_badPlace v_ended v_open v_wait (fun v_coded_k1 v_waits_k2 v_codes_k3 => iM_goesOnTest_b49 N v_end v_andWord v_orWord v_tape self k76 (v_at_c1 + 1) v_bad v_badPlace v_coded_k1 v_ended v_open v_waits_k2 v_codes_k3 v_wait) N v_coded v_waits v_codes
    else
      k76 v_at_c1 v_coded v_open v_waits v_codes
  else
    k76 v_at v_coded v_open v_waits v_codes
def iM_goesOnTest_b0 (N : Nat) (v_end : Int) (v_andWord : (Nat → Int)) (v_orWord : (Nat → Int)) (v_tape : (Nat → Int)) (v_bad : Int) (v_badPlace : Int) (v_ended : Int) (v_wait : (Nat → Int)) (k76 : Int → Int → Int → Int → (Nat → Int) → Option R_iM_goesOnTest) : Nat → Int → Int → Int → Int → (Nat → Int) → Option R_iM_goesOnTest := zlp5 (iM_goesOnTest_b0_F N v_end v_andWord v_orWord v_tape v_bad v_badPlace v_ended v_wait k76)
def iM_goesOnTest_b155 (N : Nat) (v_end : Int) (v_andWord : (Nat → Int)) (v_orWord : (Nat → Int)) (v_tape : (Nat → Int)) (self : Int → Int → (Nat → Int) → Option R_iM_goesOnTest) (v_at : Int) (v_bad : Int) (v_badPlace : Int) (v_coded : Int) (v_ended : Int) (v_open : Int) (v_waits : Int) (v_codes : (Nat → Int)) (v_wait : (Nat → Int)) : Option R_iM_goesOnTest :=
  bd3 (iM_drops v_coded v_waits v_codes v_wait) fun v_coded_c16 v_waits_c16 v_codes_c16 =>
  self v_coded_c16 v_waits_c16 v_codes_c16
def iM_goesOnTest_b137_F (N : Nat) (v_end : Int) (v_andWord : (Nat → Int)) (v_orWord : (Nat → Int)) (v_tape : (Nat → Int)) (v_at : Int) (v_bad : Int) (v_badPlace : Int) (v_ended : Int) (v_open : Int) (v_wait : (Nat → Int)) (self : Int → Int → (Nat → Int) → Option R_iM_goesOnTest) (v_coded : Int) (v_waits : Int) (v_codes : (Nat → Int)) : Option R_iM_goesOnTest :=
  bd1 (iM_isOn 14 v_waits v_wait) fun rc9 =>
  if rc9 = 0 then
    bd1 (iM_isOn 15 v_waits v_wait) fun rc10 =>
    if rc10 = 0 then
      gd (jb v_waits 700) <|
      gd (jr (v_waits + 1)) <|
      some (1, v_at, v_bad, v_badPlace, v_coded, v_ended, v_open, v_waits + 1, v_codes, va_up v_wait v_waits.toNat 15)
    else
      iM_goesOnTest_b155 N v_end v_andWord v_orWord v_tape self v_at v_bad v_badPlace v_coded v_ended v_open v_waits v_codes v_wait
  else
    iM_goesOnTest_b155 N v_end v_andWord v_orWord v_tape self v_at v_bad v_badPlace v_coded v_ended v_open v_waits v_codes v_wait
def iM_goesOnTest_b137 (N : Nat) (v_end : Int) (v_andWord : (Nat → Int)) (v_orWord : (Nat → Int)) (v_tape : (Nat → Int)) (v_at : Int) (v_bad : Int) (v_badPlace : Int) (v_ended : Int) (v_open : Int) (v_wait : (Nat → Int)) : Nat → Int → Int → (Nat → Int) → Option R_iM_goesOnTest := zlp3 (iM_goesOnTest_b137_F N v_end v_andWord v_orWord v_tape v_at v_bad v_badPlace v_ended v_open v_wait)
def iM_goesOnTest_b87_F (N : Nat) (v_end : Int) (v_andWord : (Nat → Int)) (v_orWord : (Nat → Int)) (v_tape : (Nat → Int)) (v_at : Int) (v_bad : Int) (v_badPlace : Int) (v_ended : Int) (v_open : Int) (v_wait : (Nat → Int)) (self : Int → Int → (Nat → Int) → Option R_iM_goesOnTest) (v_coded : Int) (v_waits : Int) (v_codes : (Nat → Int)) : Option R_iM_goesOnTest :=
  bd1 (iM_isOn 14 v_waits v_wait) fun rc12 =>
  if rc12 = 0 then
    gd (jb v_waits 700) <|
    gd (jr (v_waits + 1)) <|
    some (1, v_at, v_bad, v_badPlace, v_coded, v_ended, v_open, v_waits + 1, v_codes, va_up v_wait v_waits.toNat 14)
  else
    bd3 (iM_drops v_coded v_waits v_codes v_wait) fun v_coded_c14 v_waits_c14 v_codes_c14 =>
    self v_coded_c14 v_waits_c14 v_codes_c14
def iM_goesOnTest_b87 (N : Nat) (v_end : Int) (v_andWord : (Nat → Int)) (v_orWord : (Nat → Int)) (v_tape : (Nat → Int)) (v_at : Int) (v_bad : Int) (v_badPlace : Int) (v_ended : Int) (v_open : Int) (v_wait : (Nat → Int)) : Nat → Int → Int → (Nat → Int) → Option R_iM_goesOnTest := zlp3 (iM_goesOnTest_b87_F N v_end v_andWord v_orWord v_tape v_at v_bad v_badPlace v_ended v_open v_wait)
def iM_goesOnTest_b76 (N : Nat) (v_end : Int) (v_andWord : (Nat → Int)) (v_orWord : (Nat → Int)) (v_tape : (Nat → Int)) (v_at : Int) (v_bad : Int) (v_badPlace : Int) (v_coded : Int) (v_ended : Int) (v_open : Int) (v_waits : Int) (v_codes : (Nat → Int)) (v_wait : (Nat → Int)) : Option R_iM_goesOnTest :=
  bd3 (iM_takes N 3 v_andWord v_at v_bad v_end v_ended v_tape) fun rc3 v_at_c3 v_ended_c3 =>
  if rc3 = 0 then
    bd3 (iM_takes N 2 v_orWord v_at_c3 v_bad v_end v_ended_c3 v_tape) fun rc4 v_at_c4 v_ended_c4 =>
    if rc4 = 0 then
      if v_bad = 0 then
        bd1 (iM_hasSquare N v_waits v_wait) fun rc5 =>
        if rc5 = 0 then
          some (0, v_at_c4, v_bad, v_badPlace, v_coded, v_ended_c4, v_open, v_waits, v_codes, v_wait)
        else
          bd2 (iM_fail 1 v_at_c4 v_bad v_badPlace) fun v_bad_c6 v_badPlace_c6 =>
          some (0, v_at_c4, v_bad_c6, v_badPlace_c6, v_coded, v_ended_c4, v_open, v_waits, v_codes, v_wait)
      else
        some (0, v_at_c4, v_bad, v_badPlace, v_coded, v_ended_c4, v_open, v_waits, v_codes, v_wait)
    else
      iM_goesOnTest_b137 N v_end v_andWord v_orWord v_tape v_at_c4 v_bad v_badPlace v_ended_c4 v_open v_wait N v_coded v_waits v_codes
  else
    iM_goesOnTest_b87 N v_end v_andWord v_orWord v_tape v_at_c3 v_bad v_badPlace v_ended_c3 v_open v_wait N v_coded v_waits v_codes
def iM_goesOnTest (N : Nat) (v_at : Int) (v_bad : Int) (v_badPlace : Int) (v_coded : Int) (v_end : Int) (v_ended : Int) (v_open : Int) (v_waits : Int) (v_andWord : (Nat → Int)) (v_codes : (Nat → Int)) (v_orWord : (Nat → Int)) (v_tape : (Nat → Int)) (v_wait : (Nat → Int)) : Option R_iM_goesOnTest :=
  iM_goesOnTest_b0 N v_end v_andWord v_orWord v_tape v_bad v_badPlace v_ended v_wait (fun v_at_k4 v_coded_k5 v_open_k6 v_waits_k7 v_codes_k8 => iM_goesOnTest_b76 N v_end v_andWord v_orWord v_tape v_at_k4 v_bad v_badPlace v_coded_k5 v_ended v_open_k6 v_waits_k7 v_codes_k8 v_wait) N v_at v_coded v_open v_waits v_codes
abbrev R_iM_test : Type := Int × Int × Int × Int × Int × Int × Int × Int × (Nat → Int) × (Nat → Int)
def iM_test_b2_F (N : Nat) (v_end : Int) (v_allWord : (Nat → Int)) (v_andWord : (Nat → Int)) (v_debtWord : (Nat → Int)) (v_maxWord : (Nat → Int)) (v_minWord : (Nat → Int)) (v_notWord : (Nat → Int)) (v_orWord : (Nat → Int)) (v_paidWord : (Nat → Int)) (v_penceWord : (Nat → Int)) (v_poundsWord : (Nat → Int)) (v_shillingsWord : (Nat → Int)) (v_shireWord : (Nat → Int)) (v_tape : (Nat → Int)) (v_termWord : (Nat → Int)) (v_yearWord : (Nat → Int)) (k110 : Int → Int → Int → Int → Int → Int → Int → Int → (Nat → Int) → (Nat → Int) → Option R_iM_test) (self : Int → Int → Int → Int → Int → Int → Int → Int → Int → (Nat → Int) → (Nat → Int) → Option R_iM_test) (x1 : Int) (v_at : Int) (v_bad : Int) (v_badPlace : Int) (v_base : Int) (v_coded : Int) (v_ended : Int) (v_open : Int) (v_waits : Int) (v_codes : (Nat → Int)) (v_wait : (Nat → Int)) : Option R_iM_test :=
  if x1 = 0 then
    k110 v_at v_bad v_badPlace v_base v_coded v_ended v_open v_waits v_codes v_wait
  else
    if v_bad = 0 then
      bd2 (iM_look N v_at v_end v_tape) fun rc1 v_at_c1 =>
      if rc1 = 91 then
        bd5 (iM_opens 25 v_at_c1 v_bad v_badPlace v_open v_waits v_wait) fun v_bad_c8 v_badPlace_c8 v_open_c8 v_waits_c8 v_wait_c8 =>
        gd (jr (v_at_c1 + 1)) <|
        self x1 (v_at_c1 + 1) v_bad_c8 v_badPlace_c8 v_base v_coded v_ended v_open_c8 v_waits_c8 v_codes v_wait_c8
      else
        bd2 (iM_isHere N 3 v_notWord v_at_c1 v_bad v_end v_ended v_tape) fun rc2 v_at_c2 =>
        if rc2 = 0 then
          bd10 (iM_fact N v_at_c2 v_bad v_badPlace v_base v_coded v_end v_ended v_open v_waits v_allWord v_codes v_debtWord v_maxWord v_minWord v_paidWord v_penceWord v_poundsWord v_shillingsWord v_shireWord v_tape v_termWord v_wait v_yearWord) fun v_at_c3 v_bad_c3 v_badPlace_c3 v_base_c3 v_coded_c3 v_ended_c3 v_open_c3 v_waits_c3 v_codes_c3 v_wait_c3 =>
          bd4 (iM_dropsNots N v_bad_c3 v_coded_c3 v_open_c3 v_waits_c3 v_codes_c3 v_wait_c3) fun v_coded_c4 v_open_c4 v_waits_c4 v_codes_c4 =>
          if v_bad_c3 = 0 then
            bd10 (iM_goesOnTest N v_at_c3 v_bad_c3 v_badPlace_c3 v_coded_c4 v_end v_ended_c3 v_open_c4 v_waits_c4 v_andWord v_codes_c4 v_orWord v_tape v_wait_c3) fun rc5 v_at_c5 v_bad_c5 v_badPlace_c5 v_coded_c5 v_ended_c5 v_open_c5 v_waits_c5 v_codes_c5 v_wait_c5 =>
            if rc5 = 0 then
              self 0 v_at_c5 v_bad_c5 v_badPlace_c5 v_base_c3 v_coded_c5 v_ended_c5 v_open_c5 v_waits_c5 v_codes_c5 v_wait_c5
            else
              self 1 v_at_c5 v_bad_c5 v_badPlace_c5 v_base_c3 v_coded_c5 v_ended_c5 v_open_c5 v_waits_c5 v_codes_c5 v_wait_c5
          else
            self 0 v_at_c3 v_bad_c3 v_badPlace_c3 v_base_c3 v_coded_c4 v_ended_c3 v_open_c4 v_waits_c4 v_codes_c4 v_wait_c3
        else
          bd5 (iM_opens 16 v_at_c2 v_bad v_badPlace v_open v_waits v_wait) fun v_bad_c6 v_badPlace_c6 v_open_c6 v_waits_c6 v_wait_c6 =>
          bd4 (iM_asks N 3 v_notWord v_at_c2 v_bad_c6 v_badPlace_c6 v_end v_ended v_tape) fun v_at_c7 v_bad_c7 v_badPlace_c7 v_ended_c7 =>
          self x1 v_at_c7 v_bad_c7 v_badPlace_c7 v_base v_coded v_ended_c7 v_open_c6 v_waits_c6 v_codes v_wait_c6
    else
      k110 v_at v_bad v_badPlace v_base v_coded v_ended v_open v_waits v_codes v_wait
def iM_test_b2 (N : Nat) (v_end : Int) (v_allWord : (Nat → Int)) (v_andWord : (Nat → Int)) (v_debtWord : (Nat → Int)) (v_maxWord : (Nat → Int)) (v_minWord : (Nat → Int)) (v_notWord : (Nat → Int)) (v_orWord : (Nat → Int)) (v_paidWord : (Nat → Int)) (v_penceWord : (Nat → Int)) (v_poundsWord : (Nat → Int)) (v_shillingsWord : (Nat → Int)) (v_shireWord : (Nat → Int)) (v_tape : (Nat → Int)) (v_termWord : (Nat → Int)) (v_yearWord : (Nat → Int)) (k110 : Int → Int → Int → Int → Int → Int → Int → Int → (Nat → Int) → (Nat → Int) → Option R_iM_test) : Nat → Int → Int → Int → Int → Int → Int → Int → Int → Int → (Nat → Int) → (Nat → Int) → Option R_iM_test := zlp11 (iM_test_b2_F N v_end v_allWord v_andWord v_debtWord v_maxWord v_minWord v_notWord v_orWord v_paidWord v_penceWord v_poundsWord v_shillingsWord v_shireWord v_tape v_termWord v_yearWord k110)
def iM_test_b110_F (N : Nat) (v_end : Int) (v_allWord : (Nat → Int)) (v_andWord : (Nat → Int)) (v_debtWord : (Nat → Int)) (v_maxWord : (Nat → Int)) (v_minWord : (Nat → Int)) (v_notWord : (Nat → Int)) (v_orWord : (Nat → Int)) (v_paidWord : (Nat → Int)) (v_penceWord : (Nat → Int)) (v_poundsWord : (Nat → Int)) (v_shillingsWord : (Nat → Int)) (v_shireWord : (Nat → Int)) (v_tape : (Nat → Int)) (v_termWord : (Nat → Int)) (v_yearWord : (Nat → Int)) (v_at : Int) (v_bad : Int) (v_badPlace : Int) (v_base : Int) (v_ended : Int) (v_open : Int) (v_wait : (Nat → Int)) (self : Int → Int → (Nat → Int) → Option R_iM_test) (v_coded : Int) (v_waits : Int) (v_codes : (Nat → Int)) : Option R_iM_test :=
  if v_bad = 0 then
    if v_waits ≤ 0 then
      some (v_at, v_bad, v_badPlace, v_base, v_coded, v_ended, v_open, v_waits, v_codes, v_wait)
    else
      bd3 (iM_drops v_coded v_waits v_codes v_wait) fun v_coded_c9 v_waits_c9 v_codes_c9 =>
      self v_coded_c9 v_waits_c9 v_codes_c9
  else
    some (v_at, v_bad, v_badPlace, v_base, v_coded, v_ended, v_open, v_waits, v_codes, v_wait)
def iM_test_b110 (N : Nat) (v_end : Int) (v_allWord : (Nat → Int)) (v_andWord : (Nat → Int)) (v_debtWord : (Nat → Int)) (v_maxWord : (Nat → Int)) (v_minWord : (Nat → Int)) (v_notWord : (Nat → Int)) (v_orWord : (Nat → Int)) (v_paidWord : (Nat → Int)) (v_penceWord : (Nat → Int)) (v_poundsWord : (Nat → Int)) (v_shillingsWord : (Nat → Int)) (v_shireWord : (Nat → Int)) (v_tape : (Nat → Int)) (v_termWord : (Nat → Int)) (v_yearWord : (Nat → Int)) (v_at : Int) (v_bad : Int) (v_badPlace : Int) (v_base : Int) (v_ended : Int) (v_open : Int) (v_wait : (Nat → Int)) : Nat → Int → Int → (Nat → Int) → Option R_iM_test := zlp3 (iM_test_b110_F N v_end v_allWord v_andWord v_debtWord v_maxWord v_minWord v_notWord v_orWord v_paidWord v_penceWord v_poundsWord v_shillingsWord v_shireWord v_tape v_termWord v_yearWord v_at v_bad v_badPlace v_base v_ended v_open v_wait)
def iM_test (N : Nat) (v_at : Int) (v_bad : Int) (v_badPlace : Int) (v_base : Int) (v_coded : Int) (v_end : Int) (v_ended : Int) (v_open : Int) (v_waits : Int) (v_allWord : (Nat → Int)) (v_andWord : (Nat → Int)) (v_codes : (Nat → Int)) (v_debtWord : (Nat → Int)) (v_maxWord : (Nat → Int)) (v_minWord : (Nat → Int)) (v_notWord : (Nat → Int)) (v_orWord : (Nat → Int)) (v_paidWord : (Nat → Int)) (v_penceWord : (Nat → Int)) (v_poundsWord : (Nat → Int)) (v_shillingsWord : (Nat → Int)) (v_shireWord : (Nat → Int)) (v_tape : (Nat → Int)) (v_termWord : (Nat → Int)) (v_wait : (Nat → Int)) (v_yearWord : (Nat → Int)) : Option R_iM_test :=
  iM_test_b2 N v_end v_allWord v_andWord v_debtWord v_maxWord v_minWord v_notWord v_orWord v_paidWord v_penceWord v_poundsWord v_shillingsWord v_shireWord v_tape v_termWord v_yearWord (fun v_at_k1 v_bad_k2 v_badPlace_k3 v_base_k4 v_coded_k5 v_ended_k6 v_open_k7 v_waits_k8 v_codes_k9 v_wait_k10 => iM_test_b110 N v_end v_allWord v_andWord v_debtWord v_maxWord v_minWord v_notWord v_orWord v_paidWord v_penceWord v_poundsWord v_shillingsWord v_shireWord v_tape v_termWord v_yearWord v_at_k1 v_bad_k2 v_badPlace_k3 v_base_k4 v_ended_k6 v_open_k7 v_wait_k10 N v_coded_k5 v_waits_k8 v_codes_k9) N 1 v_at v_bad v_badPlace v_base v_coded v_ended v_open v_waits v_codes v_wait
abbrev R_iM_statement : Type := Int × Int × Int × Int × Int × Int × Int × Int × (Nat → Int) × (Nat → Int) × (Nat → Int) × (Nat → Int) × (Nat → Int) × (Nat → Int) × (Nat → Int) × (Nat → Int) × (Nat → Int) × (Nat → Int)
def iM_statement_b279 (N : Nat) (v_end : Int) (v_allWord : (Nat → Int)) (v_allowWord : (Nat → Int)) (v_andWord : (Nat → Int)) (v_blanchedWord : (Nat → Int)) (v_debtWord : (Nat → Int)) (v_farmWord : (Nat → Int)) (v_forWord : (Nat → Int)) (v_inWord : (Nat → Int)) (v_maxWord : (Nat → Int)) (v_minWord : (Nat → Int)) (v_notWord : (Nat → Int)) (v_orWord : (Nat → Int)) (v_paidWord : (Nat → Int)) (v_pardonWord : (Nat → Int)) (v_penceWord : (Nat → Int)) (v_poundsWord : (Nat → Int)) (v_shillingsWord : (Nat → Int)) (v_shireWord : (Nat → Int)) (v_splitWord : (Nat → Int)) (v_tape : (Nat → Int)) (v_termWord : (Nat → Int)) (v_yearWord : (Nat → Int)) (x1 : Int) (v_at : Int) (v_bad : Int) (v_badPlace : Int) (v_base : Int) (v_coded : Int) (v_ended : Int) (v_open : Int) (v_waits : Int) (v_codes : (Nat → Int)) (v_first : (Nat → Int)) (v_isBlanched : (Nat → Int)) (v_many : (Nat → Int)) (v_second : (Nat → Int)) (v_sort : (Nat → Int)) (v_sumEnd : (Nat → Int)) (v_sumFrom : (Nat → Int)) (v_testEnd : (Nat → Int)) (v_wait : (Nat → Int)) : Option R_iM_statement :=
  gd (jb x1 4824) <|
  bd3 (iM_asksSign N 59 v_at v_bad v_badPlace v_end v_tape) fun v_at_c20 v_bad_c20 v_badPlace_c20 =>
  gd (jr ((v_many 0) + 1)) <|
  some (v_at_c20, v_bad_c20, v_badPlace_c20, v_base, v_coded, v_ended, v_open, v_waits, v_codes, v_first, v_isBlanched, va_up v_many 0 ((v_many 0) + 1), v_second, v_sort, v_sumEnd, v_sumFrom, va_up v_testEnd x1.toNat v_coded, v_wait)
def iM_statement_b250 (N : Nat) (v_end : Int) (v_allWord : (Nat → Int)) (v_allowWord : (Nat → Int)) (v_andWord : (Nat → Int)) (v_blanchedWord : (Nat → Int)) (v_debtWord : (Nat → Int)) (v_farmWord : (Nat → Int)) (v_forWord : (Nat → Int)) (v_inWord : (Nat → Int)) (v_maxWord : (Nat → Int)) (v_minWord : (Nat → Int)) (v_notWord : (Nat → Int)) (v_orWord : (Nat → Int)) (v_paidWord : (Nat → Int)) (v_pardonWord : (Nat → Int)) (v_penceWord : (Nat → Int)) (v_poundsWord : (Nat → Int)) (v_shillingsWord : (Nat → Int)) (v_shireWord : (Nat → Int)) (v_splitWord : (Nat → Int)) (v_tape : (Nat → Int)) (v_termWord : (Nat → Int)) (v_yearWord : (Nat → Int)) (x1 : Int) (v_at : Int) (v_bad : Int) (v_badPlace : Int) (v_base : Int) (v_coded : Int) (v_ended : Int) (v_open : Int) (v_waits : Int) (v_codes : (Nat → Int)) (v_first : (Nat → Int)) (v_isBlanched : (Nat → Int)) (v_many : (Nat → Int)) (v_second : (Nat → Int)) (v_sort : (Nat → Int)) (v_sumEnd : (Nat → Int)) (v_sumFrom : (Nat → Int)) (v_testEnd : (Nat → Int)) (v_wait : (Nat → Int)) : Option R_iM_statement :=
  gd (jb x1 4824) <|
  bd4 (iM_asks N 3 v_forWord v_at v_bad v_badPlace v_end v_ended v_tape) fun v_at_c17 v_bad_c17 v_badPlace_c17 v_ended_c17 =>
  if v_bad_c17 = 0 then
    bd10 (iM_test N v_at_c17 v_bad_c17 v_badPlace_c17 v_base v_coded v_end v_ended_c17 v_open v_waits v_allWord v_andWord v_codes v_debtWord v_maxWord v_minWord v_notWord v_orWord v_paidWord v_penceWord v_poundsWord v_shillingsWord v_shireWord v_tape v_termWord v_wait v_yearWord) fun v_at_c18 v_bad_c18 v_badPlace_c18 v_base_c18 v_coded_c18 v_ended_c18 v_open_c18 v_waits_c18 v_codes_c18 v_wait_c18 =>
    iM_statement_b279 N v_end v_allWord v_allowWord v_andWord v_blanchedWord v_debtWord v_farmWord v_forWord v_inWord v_maxWord v_minWord v_notWord v_orWord v_paidWord v_pardonWord v_penceWord v_poundsWord v_shillingsWord v_shireWord v_splitWord v_tape v_termWord v_yearWord x1 v_at_c18 v_bad_c18 v_badPlace_c18 v_base_c18 v_coded_c18 v_ended_c18 v_open_c18 v_waits_c18 v_codes_c18 v_first v_isBlanched v_many v_second v_sort (va_up v_sumEnd x1.toNat v_coded) v_sumFrom v_testEnd v_wait_c18
  else
    iM_statement_b279 N v_end v_allWord v_allowWord v_andWord v_blanchedWord v_debtWord v_farmWord v_forWord v_inWord v_maxWord v_minWord v_notWord v_orWord v_paidWord v_pardonWord v_penceWord v_poundsWord v_shillingsWord v_shireWord v_splitWord v_tape v_termWord v_yearWord x1 v_at_c17 v_bad_c17 v_badPlace_c17 v_base v_coded v_ended_c17 v_open v_waits v_codes v_first v_isBlanched v_many v_second v_sort (va_up v_sumEnd x1.toNat v_coded) v_sumFrom v_testEnd v_wait
def iM_statement (N : Nat) (v_at : Int) (v_bad : Int) (v_badPlace : Int) (v_base : Int) (v_coded : Int) (v_end : Int) (v_ended : Int) (v_open : Int) (v_waits : Int) (v_allWord : (Nat → Int)) (v_allowWord : (Nat → Int)) (v_andWord : (Nat → Int)) (v_blanchedWord : (Nat → Int)) (v_codes : (Nat → Int)) (v_debtWord : (Nat → Int)) (v_farmWord : (Nat → Int)) (v_first : (Nat → Int)) (v_forWord : (Nat → Int)) (v_inWord : (Nat → Int)) (v_isBlanched : (Nat → Int)) (v_many : (Nat → Int)) (v_maxWord : (Nat → Int)) (v_minWord : (Nat → Int)) (v_notWord : (Nat → Int)) (v_orWord : (Nat → Int)) (v_paidWord : (Nat → Int)) (v_pardonWord : (Nat → Int)) (v_penceWord : (Nat → Int)) (v_poundsWord : (Nat → Int)) (v_second : (Nat → Int)) (v_shillingsWord : (Nat → Int)) (v_shireWord : (Nat → Int)) (v_sort : (Nat → Int)) (v_splitWord : (Nat → Int)) (v_sumEnd : (Nat → Int)) (v_sumFrom : (Nat → Int)) (v_tape : (Nat → Int)) (v_termWord : (Nat → Int)) (v_testEnd : (Nat → Int)) (v_wait : (Nat → Int)) (v_yearWord : (Nat → Int)) : Option R_iM_statement :=
  bd2 (iM_look N v_at v_end v_tape) fun rc1 v_at_c1 =>
  if v_many 0 = 24 then
    bd2 (iM_fail 4 v_at_c1 v_bad v_badPlace) fun v_bad_c15 v_badPlace_c15 =>
    some (v_at_c1, v_bad_c15, v_badPlace_c15, v_base, v_coded, v_ended, v_open, v_waits, v_codes, v_first, v_isBlanched, v_many, v_second, v_sort, v_sumEnd, v_sumFrom, v_testEnd, v_wait)
  else
    gd (jr (0 + (v_many 0))) <|
    gd (jb (0 + (v_many 0)) 4824) <|
    bd3 (iM_takes N 4 v_farmWord v_at_c1 v_bad v_end v_ended v_tape) fun rc3 v_at_c3 v_ended_c3 =>
    if rc3 = 0 then
      bd3 (iM_takes N 5 v_allowWord v_at_c3 v_bad v_end v_ended_c3 v_tape) fun rc4 v_at_c4 v_ended_c4 =>
      if rc4 = 0 then
        bd3 (iM_takes N 6 v_pardonWord v_at_c4 v_bad v_end v_ended_c4 v_tape) fun rc5 v_at_c5 v_ended_c5 =>
        if rc5 = 0 then
          bd3 (iM_takes N 5 v_splitWord v_at_c5 v_bad v_end v_ended_c5 v_tape) fun rc6 v_at_c6 v_ended_c6 =>
          if rc6 = 0 then
            bd2 (iM_fail 1 v_at_c6 v_bad v_badPlace) fun v_bad_c7 v_badPlace_c7 =>
            iM_statement_b250 N v_end v_allWord v_allowWord v_andWord v_blanchedWord v_debtWord v_farmWord v_forWord v_inWord v_maxWord v_minWord v_notWord v_orWord v_paidWord v_pardonWord v_penceWord v_poundsWord v_shillingsWord v_shireWord v_splitWord v_tape v_termWord v_yearWord (0 + (v_many 0)) v_at_c6 v_bad_c7 v_badPlace_c7 0 v_coded v_ended_c6 0 0 v_codes (va_up v_first ((0 + (v_many 0)).toNat) 0) (va_up v_isBlanched ((0 + (v_many 0)).toNat) 0) v_many (va_up v_second ((0 + (v_many 0)).toNat) 0) v_sort v_sumEnd (va_up v_sumFrom ((0 + (v_many 0)).toNat) v_coded) v_testEnd v_wait
          else
            bd5 (iM_number N 2 20 v_at_c6 v_bad v_badPlace v_end v_ended_c6 v_tape) fun rc8 v_at_c8 v_bad_c8 v_badPlace_c8 v_ended_c8 =>
            iM_statement_b250 N v_end v_allWord v_allowWord v_andWord v_blanchedWord v_debtWord v_farmWord v_forWord v_inWord v_maxWord v_minWord v_notWord v_orWord v_paidWord v_pardonWord v_penceWord v_poundsWord v_shillingsWord v_shireWord v_splitWord v_tape v_termWord v_yearWord (0 + (v_many 0)) v_at_c8 v_bad_c8 v_badPlace_c8 0 v_coded v_ended_c8 0 0 v_codes (va_up (va_up v_first ((0 + (v_many 0)).toNat) 0) ((0 + (v_many 0)).toNat) rc8) (va_up v_isBlanched ((0 + (v_many 0)).toNat) 0) v_many (va_up v_second ((0 + (v_many 0)).toNat) 0) (va_up v_sort ((0 + (v_many 0)).toNat) 3) v_sumEnd (va_up v_sumFrom ((0 + (v_many 0)).toNat) v_coded) v_testEnd v_wait
        else
          bd5 (iM_number N 1 999 v_at_c5 v_bad v_badPlace v_end v_ended_c5 v_tape) fun rc9 v_at_c9 v_bad_c9 v_badPlace_c9 v_ended_c9 =>
          bd4 (iM_asks N 2 v_inWord v_at_c9 v_bad_c9 v_badPlace_c9 v_end v_ended_c9 v_tape) fun v_at_c10 v_bad_c10 v_badPlace_c10 v_ended_c10 =>
          bd5 (iM_number N ((va_up (va_up v_first ((0 + (v_many 0)).toNat) 0) ((0 + (v_many 0)).toNat) rc9) ((0 + (v_many 0)).toNat)) 999 v_at_c10 v_bad_c10 v_badPlace_c10 v_end v_ended_c10 v_tape) fun rc11 v_at_c11 v_bad_c11 v_badPlace_c11 v_ended_c11 =>
          iM_statement_b250 N v_end v_allWord v_allowWord v_andWord v_blanchedWord v_debtWord v_farmWord v_forWord v_inWord v_maxWord v_minWord v_notWord v_orWord v_paidWord v_pardonWord v_penceWord v_poundsWord v_shillingsWord v_shireWord v_splitWord v_tape v_termWord v_yearWord (0 + (v_many 0)) v_at_c11 v_bad_c11 v_badPlace_c11 0 v_coded v_ended_c11 0 0 v_codes (va_up (va_up v_first ((0 + (v_many 0)).toNat) 0) ((0 + (v_many 0)).toNat) rc9) (va_up v_isBlanched ((0 + (v_many 0)).toNat) 0) v_many (va_up (va_up v_second ((0 + (v_many 0)).toNat) 0) ((0 + (v_many 0)).toNat) rc11) (va_up v_sort ((0 + (v_many 0)).toNat) 2) v_sumEnd (va_up v_sumFrom ((0 + (v_many 0)).toNat) v_coded) v_testEnd v_wait
      else
        bd10 (iM_sums N v_at_c4 v_bad v_badPlace 0 v_coded v_end v_ended_c4 0 0 v_codes v_debtWord v_maxWord v_minWord v_paidWord v_penceWord v_poundsWord v_shillingsWord v_tape v_termWord v_wait v_yearWord) fun v_at_c12 v_bad_c12 v_badPlace_c12 v_base_c12 v_coded_c12 v_ended_c12 v_open_c12 v_waits_c12 v_codes_c12 v_wait_c12 =>
        iM_statement_b250 N v_end v_allWord v_allowWord v_andWord v_blanchedWord v_debtWord v_farmWord v_forWord v_inWord v_maxWord v_minWord v_notWord v_orWord v_paidWord v_pardonWord v_penceWord v_poundsWord v_shillingsWord v_shireWord v_splitWord v_tape v_termWord v_yearWord (0 + (v_many 0)) v_at_c12 v_bad_c12 v_badPlace_c12 v_base_c12 v_coded_c12 v_ended_c12 v_open_c12 v_waits_c12 v_codes_c12 (va_up v_first ((0 + (v_many 0)).toNat) 0) (va_up v_isBlanched ((0 + (v_many 0)).toNat) 0) v_many (va_up v_second ((0 + (v_many 0)).toNat) 0) (va_up v_sort ((0 + (v_many 0)).toNat) 1) v_sumEnd (va_up v_sumFrom ((0 + (v_many 0)).toNat) v_coded) v_testEnd v_wait_c12
    else
      bd10 (iM_sums N v_at_c3 v_bad v_badPlace 0 v_coded v_end v_ended_c3 0 0 v_codes v_debtWord v_maxWord v_minWord v_paidWord v_penceWord v_poundsWord v_shillingsWord v_tape v_termWord v_wait v_yearWord) fun v_at_c13 v_bad_c13 v_badPlace_c13 v_base_c13 v_coded_c13 v_ended_c13 v_open_c13 v_waits_c13 v_codes_c13 v_wait_c13 =>
      bd3 (iM_takes N 8 v_blanchedWord v_at_c13 v_bad_c13 v_end v_ended_c13 v_tape) fun rc14 v_at_c14 v_ended_c14 =>
      iM_statement_b250 N v_end v_allWord v_allowWord v_andWord v_blanchedWord v_debtWord v_farmWord v_forWord v_inWord v_maxWord v_minWord v_notWord v_orWord v_paidWord v_pardonWord v_penceWord v_poundsWord v_shillingsWord v_shireWord v_splitWord v_tape v_termWord v_yearWord (0 + (v_many 0)) v_at_c14 v_bad_c13 v_badPlace_c13 v_base_c13 v_coded_c13 v_ended_c14 v_open_c13 v_waits_c13 v_codes_c13 (va_up v_first ((0 + (v_many 0)).toNat) 0) (va_up (va_up v_isBlanched ((0 + (v_many 0)).toNat) 0) ((0 + (v_many 0)).toNat) (jnZ rc14)) v_many (va_up v_second ((0 + (v_many 0)).toNat) 0) (va_up v_sort ((0 + (v_many 0)).toNat) 0) v_sumEnd (va_up v_sumFrom ((0 + (v_many 0)).toNat) v_coded) v_testEnd v_wait_c13
abbrev R_iM_reads : Type := Int × Int × Int × Int × Int × Int × Int × Int × Int × Int × Int × Int × Int × (Nat → Int) × (Nat → Int) × (Nat → Int) × (Nat → Int) × (Nat → Int) × (Nat → Int) × (Nat → Int) × (Nat → Int) × (Nat → Int) × (Nat → Int)
def iM_reads_b45_F (N : Nat) (v_allWord : (Nat → Int)) (v_allowWord : (Nat → Int)) (v_andWord : (Nat → Int)) (v_blanchedWord : (Nat → Int)) (v_debtWord : (Nat → Int)) (v_farmWord : (Nat → Int)) (v_forWord : (Nat → Int)) (v_inWord : (Nat → Int)) (v_maxWord : (Nat → Int)) (v_minWord : (Nat → Int)) (v_notWord : (Nat → Int)) (v_orWord : (Nat → Int)) (v_paidWord : (Nat → Int)) (v_pardonWord : (Nat → Int)) (v_penceWord : (Nat → Int)) (v_poundsWord : (Nat → Int)) (v_shillingsWord : (Nat → Int)) (v_shireWord : (Nat → Int)) (v_splitWord : (Nat → Int)) (v_tape : (Nat → Int)) (v_termWord : (Nat → Int)) (v_yearWord : (Nat → Int)) (v_end : Int) (v_fault : Int) (v_faultPlace : Int) (v_taped : Int) (k67 : Int → Int → Int → Int → Int → Int → Int → Int → (Nat → Int) → (Nat → Int) → (Nat → Int) → (Nat → Int) → (Nat → Int) → (Nat → Int) → (Nat → Int) → (Nat → Int) → (Nat → Int) → (Nat → Int) → Option R_iM_reads) (self : Int → Int → Int → Int → Int → Int → Int → Int → (Nat → Int) → (Nat → Int) → (Nat → Int) → (Nat → Int) → (Nat → Int) → (Nat → Int) → (Nat → Int) → (Nat → Int) → (Nat → Int) → (Nat → Int) → Option R_iM_reads) (v_at : Int) (v_bad : Int) (v_badPlace : Int) (v_base : Int) (v_coded : Int) (v_ended : Int) (v_open : Int) (v_waits : Int) (v_codes : (Nat → Int)) (v_first : (Nat → Int)) (v_isBlanched : (Nat → Int)) (v_many : (Nat → Int)) (v_second : (Nat → Int)) (v_sort : (Nat → Int)) (v_sumEnd : (Nat → Int)) (v_sumFrom : (Nat → Int)) (v_testEnd : (Nat → Int)) (v_wait : (Nat → Int)) : Option R_iM_reads :=
  if v_bad = 0 then
    bd2 (iM_look N v_at v_end v_tape) fun rc1 v_at_c1 =>
    if rc1 = (-1) then
      k67 v_at_c1 v_bad v_badPlace v_base v_coded v_ended v_open v_waits v_codes v_first v_isBlanched v_many v_second v_sort v_sumEnd v_sumFrom v_testEnd v_wait
    else
      bd18 (iM_statement N v_at_c1 v_bad v_badPlace v_base v_coded v_end v_ended v_open v_waits v_allWord v_allowWord v_andWord v_blanchedWord v_codes v_debtWord v_farmWord v_first v_forWord v_inWord v_isBlanched v_many v_maxWord v_minWord v_notWord v_orWord v_paidWord v_pardonWord v_penceWord v_poundsWord v_second v_shillingsWord v_shireWord v_sort v_splitWord v_sumEnd v_sumFrom v_tape v_termWord v_testEnd v_wait v_yearWord) fun v_at_c2 v_bad_c2 v_badPlace_c2 v_base_c2 v_coded_c2 v_ended_c2 v_open_c2 v_waits_c2 v_codes_c2 v_first_c2 v_isBlanched_c2 v_many_c2 v_second_c2 v_sort_c2 v_sumEnd_c2 v_sumFrom_c2 v_testEnd_c2 v_wait_c2 =>
      self v_at_c2 v_bad_c2 v_badPlace_c2 v_base_c2 v_coded_c2 v_ended_c2 v_open_c2 v_waits_c2 v_codes_c2 v_first_c2 v_isBlanched_c2 v_many_c2 v_second_c2 v_sort_c2 v_sumEnd_c2 v_sumFrom_c2 v_testEnd_c2 v_wait_c2
  else
    k67 v_at v_bad v_badPlace v_base v_coded v_ended v_open v_waits v_codes v_first v_isBlanched v_many v_second v_sort v_sumEnd v_sumFrom v_testEnd v_wait
def iM_reads_b45 (N : Nat) (v_allWord : (Nat → Int)) (v_allowWord : (Nat → Int)) (v_andWord : (Nat → Int)) (v_blanchedWord : (Nat → Int)) (v_debtWord : (Nat → Int)) (v_farmWord : (Nat → Int)) (v_forWord : (Nat → Int)) (v_inWord : (Nat → Int)) (v_maxWord : (Nat → Int)) (v_minWord : (Nat → Int)) (v_notWord : (Nat → Int)) (v_orWord : (Nat → Int)) (v_paidWord : (Nat → Int)) (v_pardonWord : (Nat → Int)) (v_penceWord : (Nat → Int)) (v_poundsWord : (Nat → Int)) (v_shillingsWord : (Nat → Int)) (v_shireWord : (Nat → Int)) (v_splitWord : (Nat → Int)) (v_tape : (Nat → Int)) (v_termWord : (Nat → Int)) (v_yearWord : (Nat → Int)) (v_end : Int) (v_fault : Int) (v_faultPlace : Int) (v_taped : Int) (k67 : Int → Int → Int → Int → Int → Int → Int → Int → (Nat → Int) → (Nat → Int) → (Nat → Int) → (Nat → Int) → (Nat → Int) → (Nat → Int) → (Nat → Int) → (Nat → Int) → (Nat → Int) → (Nat → Int) → Option R_iM_reads) : Nat → Int → Int → Int → Int → Int → Int → Int → Int → (Nat → Int) → (Nat → Int) → (Nat → Int) → (Nat → Int) → (Nat → Int) → (Nat → Int) → (Nat → Int) → (Nat → Int) → (Nat → Int) → (Nat → Int) → Option R_iM_reads := zlp18 (iM_reads_b45_F N v_allWord v_allowWord v_andWord v_blanchedWord v_debtWord v_farmWord v_forWord v_inWord v_maxWord v_minWord v_notWord v_orWord v_paidWord v_pardonWord v_penceWord v_poundsWord v_shillingsWord v_shireWord v_splitWord v_tape v_termWord v_yearWord v_end v_fault v_faultPlace v_taped k67)
def iM_reads_b67 (N : Nat) (v_allWord : (Nat → Int)) (v_allowWord : (Nat → Int)) (v_andWord : (Nat → Int)) (v_blanchedWord : (Nat → Int)) (v_debtWord : (Nat → Int)) (v_farmWord : (Nat → Int)) (v_forWord : (Nat → Int)) (v_inWord : (Nat → Int)) (v_maxWord : (Nat → Int)) (v_minWord : (Nat → Int)) (v_notWord : (Nat → Int)) (v_orWord : (Nat → Int)) (v_paidWord : (Nat → Int)) (v_pardonWord : (Nat → Int)) (v_penceWord : (Nat → Int)) (v_poundsWord : (Nat → Int)) (v_shillingsWord : (Nat → Int)) (v_shireWord : (Nat → Int)) (v_splitWord : (Nat → Int)) (v_tape : (Nat → Int)) (v_termWord : (Nat → Int)) (v_yearWord : (Nat → Int)) (v_at : Int) (v_bad : Int) (v_badPlace : Int) (v_base : Int) (v_coded : Int) (v_end : Int) (v_ended : Int) (v_fault : Int) (v_faultPlace : Int) (v_open : Int) (v_taped : Int) (v_waits : Int) (v_codes : (Nat → Int)) (v_first : (Nat → Int)) (v_isBlanched : (Nat → Int)) (v_many : (Nat → Int)) (v_second : (Nat → Int)) (v_sort : (Nat → Int)) (v_sumEnd : (Nat → Int)) (v_sumFrom : (Nat → Int)) (v_testEnd : (Nat → Int)) (v_wait : (Nat → Int)) : Option R_iM_reads :=
  if v_bad = 0 then
    some (1, v_at, v_bad, v_badPlace, v_base, v_coded, v_end, v_ended, v_bad, v_badPlace, v_open, v_taped, v_waits, v_codes, v_first, v_isBlanched, v_many, v_second, v_sort, v_sumEnd, v_sumFrom, v_testEnd, v_wait)
  else
    some (0, v_at, v_bad, v_badPlace, v_base, v_coded, v_end, v_ended, v_bad, v_badPlace, v_open, v_taped, v_waits, v_codes, v_first, v_isBlanched, v_many, v_second, v_sort, v_sumEnd, v_sumFrom, v_testEnd, v_wait)
def iM_reads (N : Nat) (v_at : Int) (v_bad : Int) (v_badPlace : Int) (v_base : Int) (v_coded : Int) (v_end : Int) (v_ended : Int) (v_fault : Int) (v_faultPlace : Int) (v_open : Int) (v_taped : Int) (v_waits : Int) (v_allWord : (Nat → Int)) (v_allowWord : (Nat → Int)) (v_andWord : (Nat → Int)) (v_blanchedWord : (Nat → Int)) (v_codes : (Nat → Int)) (v_debtWord : (Nat → Int)) (v_farmWord : (Nat → Int)) (v_first : (Nat → Int)) (v_forWord : (Nat → Int)) (v_inWord : (Nat → Int)) (v_isBlanched : (Nat → Int)) (v_many : (Nat → Int)) (v_maxWord : (Nat → Int)) (v_minWord : (Nat → Int)) (v_notWord : (Nat → Int)) (v_orWord : (Nat → Int)) (v_paidWord : (Nat → Int)) (v_pardonWord : (Nat → Int)) (v_penceWord : (Nat → Int)) (v_poundsWord : (Nat → Int)) (v_second : (Nat → Int)) (v_shillingsWord : (Nat → Int)) (v_shireWord : (Nat → Int)) (v_sort : (Nat → Int)) (v_splitWord : (Nat → Int)) (v_sumEnd : (Nat → Int)) (v_sumFrom : (Nat → Int)) (v_tape : (Nat → Int)) (v_termWord : (Nat → Int)) (v_testEnd : (Nat → Int)) (v_wait : (Nat → Int)) (v_yearWord : (Nat → Int)) : Option R_iM_reads :=
  iM_reads_b45 N v_allWord v_allowWord v_andWord v_blanchedWord v_debtWord v_farmWord v_forWord v_inWord v_maxWord v_minWord v_notWord v_orWord v_paidWord v_pardonWord v_penceWord v_poundsWord v_shillingsWord v_shireWord v_splitWord v_tape v_termWord v_yearWord v_taped v_fault v_faultPlace 0 (fun v_at_k1 v_bad_k2 v_badPlace_k3 v_base_k4 v_coded_k5 v_ended_k6 v_open_k7 e34_ e35_ e36_ e37_ e38_ e39_ e40_ e41_ e42_ e43_ e44_ => iM_reads_b67 N v_allWord v_allowWord v_andWord v_blanchedWord v_debtWord v_farmWord v_forWord v_inWord v_maxWord v_minWord v_notWord v_orWord v_paidWord v_pardonWord v_penceWord v_poundsWord v_shillingsWord v_shireWord v_splitWord v_tape v_termWord v_yearWord v_at_k1 v_bad_k2 v_badPlace_k3 v_base_k4 v_coded_k5 v_taped v_ended_k6 v_fault v_faultPlace v_open_k7 0 e34_ e35_ e36_ e37_ e38_ e39_ e40_ e41_ e42_ e43_ e44_) N 0 0 (-1) v_base 0 (-1) v_open v_waits v_codes v_first v_isBlanched (va_up v_many 0 0) v_second v_sort v_sumEnd v_sumFrom v_testEnd v_wait
abbrev R_iM_copies : Type := (Nat → Int) × (Nat → Int) × (Nat → Int) × (Nat → Int) × (Nat → Int) × (Nat → Int) × (Nat → Int) × (Nat → Int) × (Nat → Int)
def iM_copies_b14_F (N : Nat) (a1 : Int) (v_coded : Int) (v_codes : (Nat → Int)) (v_many : (Nat → Int)) (k133 : (Nat → Int) → (Nat → Int) → (Nat → Int) → (Nat → Int) → (Nat → Int) → (Nat → Int) → (Nat → Int) → Option R_iM_copies) (self : Int → (Nat → Int) → (Nat → Int) → (Nat → Int) → (Nat → Int) → (Nat → Int) → (Nat → Int) → (Nat → Int) → Option R_iM_copies) (x2 : Int) (v_first : (Nat → Int)) (v_isBlanched : (Nat → Int)) (v_second : (Nat → Int)) (v_sort : (Nat → Int)) (v_sumEnd : (Nat → Int)) (v_sumFrom : (Nat → Int)) (v_testEnd : (Nat → Int)) : Option R_iM_copies :=
  if v_many 0 ≤ x2 then
    k133 v_first v_isBlanched v_second v_sort v_sumEnd v_sumFrom v_testEnd
  else
    gd (jr (0 + x2)) <|
    gd (jb (0 + x2) 4824) <|
    gd (jr (24 * a1)) <|
    gd (jr ((24 * a1) + x2)) <|
    gd (jb ((24 * a1) + x2) 4824) <|
    gd (jr (x2 + 1)) <|
    self (x2 + 1) (va_up v_first (((24 * a1) + x2).toNat) (v_first ((0 + x2).toNat))) (va_up v_isBlanched (((24 * a1) + x2).toNat) (jnZ (v_isBlanched ((0 + x2).toNat)))) (va_up v_second (((24 * a1) + x2).toNat) (v_second ((0 + x2).toNat))) (va_up v_sort (((24 * a1) + x2).toNat) (v_sort ((0 + x2).toNat))) (va_up v_sumEnd (((24 * a1) + x2).toNat) (v_sumEnd ((0 + x2).toNat))) (va_up v_sumFrom (((24 * a1) + x2).toNat) (v_sumFrom ((0 + x2).toNat))) (va_up v_testEnd (((24 * a1) + x2).toNat) (v_testEnd ((0 + x2).toNat)))
def iM_copies_b14 (N : Nat) (a1 : Int) (v_coded : Int) (v_codes : (Nat → Int)) (v_many : (Nat → Int)) (k133 : (Nat → Int) → (Nat → Int) → (Nat → Int) → (Nat → Int) → (Nat → Int) → (Nat → Int) → (Nat → Int) → Option R_iM_copies) : Nat → Int → (Nat → Int) → (Nat → Int) → (Nat → Int) → (Nat → Int) → (Nat → Int) → (Nat → Int) → (Nat → Int) → Option R_iM_copies := zlp8 (iM_copies_b14_F N a1 v_coded v_codes v_many k133)
def iM_copies_b135_F (N : Nat) (a1 : Int) (v_coded : Int) (v_first : (Nat → Int)) (v_isBlanched : (Nat → Int)) (v_many : (Nat → Int)) (v_second : (Nat → Int)) (v_sort : (Nat → Int)) (v_sumEnd : (Nat → Int)) (v_sumFrom : (Nat → Int)) (v_testEnd : (Nat → Int)) (self : Int → (Nat → Int) → Option R_iM_copies) (x2 : Int) (v_codes : (Nat → Int)) : Option R_iM_copies :=
  if v_coded ≤ x2 then
    some (v_codes, v_first, v_isBlanched, v_many, v_second, v_sort, v_sumEnd, v_sumFrom, v_testEnd)
  else
    gd (jr (0 + x2)) <|
    gd (jb (0 + x2) 128640) <|
    gd (jr (640 * a1)) <|
    gd (jr ((640 * a1) + x2)) <|
    gd (jb ((640 * a1) + x2) 128640) <|
    gd (jr (x2 + 1)) <|
    self (x2 + 1) (va_up v_codes (((640 * a1) + x2).toNat) (v_codes ((0 + x2).toNat)))
def iM_copies_b135 (N : Nat) (a1 : Int) (v_coded : Int) (v_first : (Nat → Int)) (v_isBlanched : (Nat → Int)) (v_many : (Nat → Int)) (v_second : (Nat → Int)) (v_sort : (Nat → Int)) (v_sumEnd : (Nat → Int)) (v_sumFrom : (Nat → Int)) (v_testEnd : (Nat → Int)) : Nat → Int → (Nat → Int) → Option R_iM_copies := zlp2 (iM_copies_b135_F N a1 v_coded v_first v_isBlanched v_many v_second v_sort v_sumEnd v_sumFrom v_testEnd)
def iM_copies_b133 (N : Nat) (a1 : Int) (v_coded : Int) (v_codes : (Nat → Int)) (v_first : (Nat → Int)) (v_isBlanched : (Nat → Int)) (v_many : (Nat → Int)) (v_second : (Nat → Int)) (v_sort : (Nat → Int)) (v_sumEnd : (Nat → Int)) (v_sumFrom : (Nat → Int)) (v_testEnd : (Nat → Int)) : Option R_iM_copies :=
  iM_copies_b135 N a1 v_coded v_first v_isBlanched v_many v_second v_sort v_sumEnd v_sumFrom v_testEnd N 0 v_codes
def iM_copies (N : Nat) (a1 : Int) (v_coded : Int) (v_codes : (Nat → Int)) (v_first : (Nat → Int)) (v_isBlanched : (Nat → Int)) (v_many : (Nat → Int)) (v_second : (Nat → Int)) (v_sort : (Nat → Int)) (v_sumEnd : (Nat → Int)) (v_sumFrom : (Nat → Int)) (v_testEnd : (Nat → Int)) : Option R_iM_copies :=
  gd (jb a1 201) <|
  iM_copies_b14 N a1 v_coded v_codes (va_up v_many a1.toNat (v_many 0)) (fun v_first_k1 v_isBlanched_k2 e7_ e8_ e9_ e10_ e11_ => iM_copies_b133 N a1 v_coded v_codes v_first_k1 v_isBlanched_k2 (va_up v_many a1.toNat (v_many 0)) e7_ e8_ e9_ e10_ e11_) N 0 v_first v_isBlanched v_second v_sort v_sumEnd v_sumFrom v_testEnd
def iM_clip (a0 : Int) : Option Int :=
  if a0 ≤ 1000000000 then
    if (-1000000000) ≤ a0 then
      some a0
    else
      some (-1000000000)
  else
    some 1000000000
def iM_floor_b43 (a0 : Int) (a2 : Int) (x4 : Int) (s0 : Int) (s1 : Int) : Option Int :=
  if s0 = s1 then
    some x4
  else
    gd (jR (x4 - 1)) <|
    some (x4 - 1)
def iM_floor_b32 (a0 : Int) (a2 : Int) (x4 : Int) (s0 : Int) : Option Int :=
  if 0 ≤ a2 then
    iM_floor_b43 a0 a2 x4 s0 0
  else
    iM_floor_b43 a0 a2 x4 s0 1
def iM_floor (a0 : Int) (a2 : Int) : Option Int :=
  if a2 = 0 then
    some 0
  else
    gd (jn a2) <|
    if (a0).tmod a2 = 0 then
      gd (jR ((a0).tdiv a2)) <|
      some ((a0).tdiv a2)
    else
      if 0 ≤ a0 then
        gd (jR ((a0).tdiv a2)) <|
        iM_floor_b32 a0 a2 ((a0).tdiv a2) 0
      else
        gd (jR ((a0).tdiv a2)) <|
        iM_floor_b32 a0 a2 ((a0).tdiv a2) 1
abbrev R_iM_puts : Type := Int × (Nat → Int)
def iM_puts (a1 : Int) (v_piled : Int) (v_pile : (Nat → Int)) : Option R_iM_puts :=
  gd (jb v_piled 700) <|
  gd (jr (v_piled + 1)) <|
  some (v_piled + 1, va_up v_pile v_piled.toNat a1)
abbrev R_iM_joins : Type := Int × (Nat → Int)
def iM_joins_b177 (a1 : Int) (s1 : Int) (v_piled : Int) (v_pile : (Nat → Int)) : Option R_iM_joins :=
  bd2 (iM_puts s1 v_piled v_pile) fun v_piled_c12 v_pile_c12 =>
  some (v_piled_c12, v_pile_c12)
def iM_joins_b197 (a1 : Int) (s1 : Int) (v_piled : Int) (v_pile : (Nat → Int)) : Option R_iM_joins :=
  bd2 (iM_puts s1 v_piled v_pile) fun v_piled_c13 v_pile_c13 =>
  some (v_piled_c13, v_pile_c13)
def iM_joins_b216 (a1 : Int) (s1 : Int) (v_piled : Int) (v_pile : (Nat → Int)) : Option R_iM_joins :=
  bd2 (iM_puts s1 v_piled v_pile) fun v_piled_c14 v_pile_c14 =>
  some (v_piled_c14, v_pile_c14)
def iM_joins_b235 (a1 : Int) (s1 : Int) (v_piled : Int) (v_pile : (Nat → Int)) : Option R_iM_joins :=
  bd2 (iM_puts s1 v_piled v_pile) fun v_piled_c15 v_pile_c15 =>
  some (v_piled_c15, v_pile_c15)
def iM_joins_b254 (a1 : Int) (s1 : Int) (v_piled : Int) (v_pile : (Nat → Int)) : Option R_iM_joins :=
  bd2 (iM_puts s1 v_piled v_pile) fun v_piled_c16 v_pile_c16 =>
  some (v_piled_c16, v_pile_c16)
def iM_joins_b286 (a1 : Int) (s1 : Int) (v_piled : Int) (v_pile : (Nat → Int)) : Option R_iM_joins :=
  bd2 (iM_puts s1 v_piled v_pile) fun v_piled_c17 v_pile_c17 =>
  some (v_piled_c17, v_pile_c17)
def iM_joins (a1 : Int) (v_piled : Int) (v_pile : (Nat → Int)) : Option R_iM_joins :=
  gd (jr (v_piled - 1)) <|
  gd (jb (v_piled - 1) 700) <|
  gd (jr (v_piled - 2)) <|
  gd (jb (v_piled - 2) 700) <|
  if a1 = 1 then
    gd (jR ((v_pile ((v_piled - 2).toNat)) + (v_pile ((v_piled - 1).toNat)))) <|
    bd1 (iM_clip ((v_pile ((v_piled - 2).toNat)) + (v_pile ((v_piled - 1).toNat)))) fun rc3 =>
    bd2 (iM_puts rc3 (v_piled - 2) v_pile) fun v_piled_c4 v_pile_c4 =>
    some (v_piled_c4, v_pile_c4)
  else
    if a1 = 2 then
      gd (jR ((v_pile ((v_piled - 2).toNat)) - (v_pile ((v_piled - 1).toNat)))) <|
      bd1 (iM_clip ((v_pile ((v_piled - 2).toNat)) - (v_pile ((v_piled - 1).toNat)))) fun rc5 =>
      bd2 (iM_puts rc5 (v_piled - 2) v_pile) fun v_piled_c6 v_pile_c6 =>
      some (v_piled_c6, v_pile_c6)
    else
      if a1 = 3 then
        gd (jR ((v_pile ((v_piled - 2).toNat)) * (v_pile ((v_piled - 1).toNat)))) <|
        bd1 (iM_clip ((v_pile ((v_piled - 2).toNat)) * (v_pile ((v_piled - 1).toNat)))) fun rc7 =>
        bd2 (iM_puts rc7 (v_piled - 2) v_pile) fun v_piled_c8 v_pile_c8 =>
        some (v_piled_c8, v_pile_c8)
      else
        if a1 = 4 then
          bd1 (iM_floor (v_pile ((v_piled - 2).toNat)) (v_pile ((v_piled - 1).toNat))) fun rc9 =>
          bd2 (iM_puts rc9 (v_piled - 2) v_pile) fun v_piled_c10 v_pile_c10 =>
          some (v_piled_c10, v_pile_c10)
        else
          if a1 = 5 then
            if v_pile ((v_piled - 1).toNat) ≤ v_pile ((v_piled - 2).toNat) then
              iM_joins_b177 a1 (v_pile ((v_piled - 1).toNat)) (v_piled - 2) v_pile
            else
              iM_joins_b177 a1 (v_pile ((v_piled - 2).toNat)) (v_piled - 2) v_pile
          else
            if a1 = 6 then
              if v_pile ((v_piled - 2).toNat) ≤ v_pile ((v_piled - 1).toNat) then
                iM_joins_b197 a1 (v_pile ((v_piled - 1).toNat)) (v_piled - 2) v_pile
              else
                iM_joins_b197 a1 (v_pile ((v_piled - 2).toNat)) (v_piled - 2) v_pile
            else
              if a1 = 11 then
                if v_pile ((v_piled - 1).toNat) ≤ v_pile ((v_piled - 2).toNat) then
                  iM_joins_b216 a1 0 (v_piled - 2) v_pile
                else
                  iM_joins_b216 a1 1 (v_piled - 2) v_pile
              else
                if a1 = 12 then
                  if v_pile ((v_piled - 2).toNat) ≤ v_pile ((v_piled - 1).toNat) then
                    iM_joins_b235 a1 0 (v_piled - 2) v_pile
                  else
                    iM_joins_b235 a1 1 (v_piled - 2) v_pile
                else
                  if a1 = 13 then
                    if v_pile ((v_piled - 2).toNat) = v_pile ((v_piled - 1).toNat) then
                      iM_joins_b254 a1 1 (v_piled - 2) v_pile
                    else
                      iM_joins_b254 a1 0 (v_piled - 2) v_pile
                  else
                    if a1 = 14 then
                      gd (jR ((v_pile ((v_piled - 2).toNat)) * (v_pile ((v_piled - 1).toNat)))) <|
                      bd2 (iM_puts ((v_pile ((v_piled - 2).toNat)) * (v_pile ((v_piled - 1).toNat))) (v_piled - 2) v_pile) fun v_piled_c11 v_pile_c11 =>
                      some (v_piled_c11, v_pile_c11)
                    else
                      gd (jR ((v_pile ((v_piled - 2).toNat)) + (v_pile ((v_piled - 1).toNat)))) <|
                      if (v_pile ((v_piled - 2).toNat)) + (v_pile ((v_piled - 1).toNat)) ≤ 0 then
                        iM_joins_b286 a1 0 (v_piled - 2) v_pile
                      else
                        iM_joins_b286 a1 1 (v_piled - 2) v_pile
abbrev R_iM_tells : Type := Int × Int × (Nat → Int)
def iM_tells_b76 (N : Nat) (a1 : Int) (a2 : Int) (a3 : Int) (v_debt : Int) (v_now : Int) (v_paid : Int) (v_shireNow : Int) (v_codes : (Nat → Int)) (self : Int → Int → (Nat → Int) → Option R_iM_tells) (x4 : Int) (s1 : Int) (v_piled : Int) (v_pile : (Nat → Int)) : Option R_iM_tells :=
  bd2 (iM_puts s1 v_piled v_pile) fun v_piled_c12 v_pile_c12 =>
  gd (jr (x4 + 1)) <|
  self (x4 + 1) v_piled_c12 v_pile_c12
def iM_tells_b8_F (N : Nat) (a1 : Int) (a2 : Int) (a3 : Int) (v_debt : Int) (v_now : Int) (v_paid : Int) (v_shireNow : Int) (v_codes : (Nat → Int)) (self : Int → Int → (Nat → Int) → Option R_iM_tells) (x4 : Int) (v_piled : Int) (v_pile : (Nat → Int)) : Option R_iM_tells :=
  if a3 ≤ x4 then
    some (v_pile 0, v_piled, v_pile)
  else
    gd (jr (640 * a1)) <|
    gd (jr ((640 * a1) + x4)) <|
    gd (jb ((640 * a1) + x4) 128640) <|
    if v_codes (((640 * a1) + x4).toNat) < 1000 then
      if v_codes (((640 * a1) + x4).toNat) < 100 then
        if v_codes (((640 * a1) + x4).toNat) = 7 then
          bd2 (iM_puts v_now v_piled v_pile) fun v_piled_c10 v_pile_c10 =>
          gd (jr (x4 + 1)) <|
          self (x4 + 1) v_piled_c10 v_pile_c10
        else
          if v_codes (((640 * a1) + x4).toNat) = 8 then
            gd (jr ((v_now).tdiv 2)) <|
            bd2 (iM_puts ((v_now).tdiv 2) v_piled v_pile) fun v_piled_c9 v_pile_c9 =>
            gd (jr (x4 + 1)) <|
            self (x4 + 1) v_piled_c9 v_pile_c9
          else
            if v_codes (((640 * a1) + x4).toNat) = 9 then
              bd1 (iM_clip v_debt) fun rc7 =>
              bd2 (iM_puts rc7 v_piled v_pile) fun v_piled_c8 v_pile_c8 =>
              gd (jr (x4 + 1)) <|
              self (x4 + 1) v_piled_c8 v_pile_c8
            else
              if v_codes (((640 * a1) + x4).toNat) = 10 then
                bd1 (iM_clip v_paid) fun rc5 =>
                bd2 (iM_puts rc5 v_piled v_pile) fun v_piled_c6 v_pile_c6 =>
                gd (jr (x4 + 1)) <|
                self (x4 + 1) v_piled_c6 v_pile_c6
              else
                if v_codes (((640 * a1) + x4).toNat) = 17 then
                  bd2 (iM_puts 1 v_piled v_pile) fun v_piled_c4 v_pile_c4 =>
                  gd (jr (x4 + 1)) <|
                  self (x4 + 1) v_piled_c4 v_pile_c4
                else
                  if v_codes (((640 * a1) + x4).toNat) = 16 then
                    gd (jr (v_piled - 1)) <|
                    gd (jb (v_piled - 1) 700) <|
                    gd (jr (x4 + 1)) <|
                    gd (jR (1 - (v_pile ((v_piled - 1).toNat)))) <|
                    self (x4 + 1) v_piled (va_up v_pile ((v_piled - 1).toNat) (1 - (v_pile ((v_piled - 1).toNat))))
                  else
                    bd2 (iM_joins (v_codes (((640 * a1) + x4).toNat)) v_piled v_pile) fun v_piled_c2 v_pile_c2 =>
                    gd (jr (x4 + 1)) <|
                    self (x4 + 1) v_piled_c2 v_pile_c2
      else
        gd (jr ((v_codes (((640 * a1) + x4).toNat)) - 100)) <|
        if (v_codes (((640 * a1) + x4).toNat)) - 100 = v_shireNow then
          iM_tells_b76 N a1 a2 a3 v_debt v_now v_paid v_shireNow v_codes self x4 1 v_piled v_pile
        else
          iM_tells_b76 N a1 a2 a3 v_debt v_now v_paid v_shireNow v_codes self x4 0 v_piled v_pile
    else
      gd (jr ((v_codes (((640 * a1) + x4).toNat)) - 1000)) <|
      bd2 (iM_puts ((v_codes (((640 * a1) + x4).toNat)) - 1000) v_piled v_pile) fun v_piled_c11 v_pile_c11 =>
      gd (jr (x4 + 1)) <|
      self (x4 + 1) v_piled_c11 v_pile_c11
def iM_tells_b8 (N : Nat) (a1 : Int) (a2 : Int) (a3 : Int) (v_debt : Int) (v_now : Int) (v_paid : Int) (v_shireNow : Int) (v_codes : (Nat → Int)) : Nat → Int → Int → (Nat → Int) → Option R_iM_tells := zlp3 (iM_tells_b8_F N a1 a2 a3 v_debt v_now v_paid v_shireNow v_codes)
def iM_tells (N : Nat) (a1 : Int) (a2 : Int) (a3 : Int) (v_debt : Int) (v_now : Int) (v_paid : Int) (v_piled : Int) (v_shireNow : Int) (v_codes : (Nat → Int)) (v_pile : (Nat → Int)) : Option R_iM_tells :=
  iM_tells_b8 N a1 a2 a3 v_debt v_now v_paid v_shireNow v_codes N a2 0 v_pile
def iM_isTerm (a0 : Int) : Option Int :=
  bd1 (iM_isIn a0 0 39) fun rc1 =>
  gd (jB rc1) <|
  some rc1
def iM_isShire (a0 : Int) : Option Int :=
  bd1 (iM_isIn a0 0 7) fun rc1 =>
  gd (jB rc1) <|
  some rc1
abbrev R_iM_act : Type := Int × Int × (Nat → Int) × (Nat → Int) × (Nat → Int) × (Nat → Int) × (Nat → Int)
def iM_act (a1 : Int) (a2 : Int) (a3 : Int) (a4 : Int) (v_acts : Int) (v_actKind : (Nat → Int)) (v_actNumber : (Nat → Int)) (v_actShire : (Nat → Int)) (v_actTerm : (Nat → Int)) (v_voidAt : (Nat → Int)) : Option R_iM_act :=
  if v_acts = 200 then
    some ((-1), v_acts, v_actKind, v_actNumber, v_actShire, v_actTerm, v_voidAt)
  else
    gd (jr (v_acts + 1)) <|
    gd (jb (v_acts + 1) 201) <|
    some (v_acts + 1, v_acts + 1, va_up v_actKind ((v_acts + 1).toNat) a1, va_up v_actNumber ((v_acts + 1).toNat) a4, va_up v_actShire ((v_acts + 1).toNat) a2, va_up v_actTerm ((v_acts + 1).toNat) a3, va_up v_voidAt ((v_acts + 1).toNat) 0)
abbrev R_iM_writ : Type := Int × Int × Int × Int × Int × Int × Int × Int × Int × Int × Int × Int × Int × Int × (Nat → Int) × (Nat → Int) × (Nat → Int) × (Nat → Int) × (Nat → Int) × (Nat → Int) × (Nat → Int) × (Nat → Int) × (Nat → Int) × (Nat → Int) × (Nat → Int) × (Nat → Int) × (Nat → Int) × (Nat → Int) × (Nat → Int)
def iM_writ_b17 (N : Nat) (a1 : Int) (v_allWord : (Nat → Int)) (v_allowWord : (Nat → Int)) (v_andWord : (Nat → Int)) (v_blanchedWord : (Nat → Int)) (v_debtWord : (Nat → Int)) (v_farmWord : (Nat → Int)) (v_forWord : (Nat → Int)) (v_inWord : (Nat → Int)) (v_maxWord : (Nat → Int)) (v_minWord : (Nat → Int)) (v_notWord : (Nat → Int)) (v_orWord : (Nat → Int)) (v_paidWord : (Nat → Int)) (v_pardonWord : (Nat → Int)) (v_penceWord : (Nat → Int)) (v_poundsWord : (Nat → Int)) (v_shillingsWord : (Nat → Int)) (v_shireWord : (Nat → Int)) (v_splitWord : (Nat → Int)) (v_tape : (Nat → Int)) (v_termWord : (Nat → Int)) (v_yearWord : (Nat → Int)) (v_acts : Int) (v_at : Int) (v_bad : Int) (v_badPlace : Int) (v_base : Int) (v_coded : Int) (v_end : Int) (v_ended : Int) (v_fault : Int) (v_faultPlace : Int) (v_open : Int) (v_taped : Int) (v_waits : Int) (v_actKind : (Nat → Int)) (v_actNumber : (Nat → Int)) (v_actShire : (Nat → Int)) (v_actTerm : (Nat → Int)) (v_codes : (Nat → Int)) (v_first : (Nat → Int)) (v_isBlanched : (Nat → Int)) (v_many : (Nat → Int)) (v_second : (Nat → Int)) (v_sort : (Nat → Int)) (v_sumEnd : (Nat → Int)) (v_sumFrom : (Nat → Int)) (v_testEnd : (Nat → Int)) (v_voidAt : (Nat → Int)) (v_wait : (Nat → Int)) : Option R_iM_writ :=
  some ((-2), v_acts, v_at, v_bad, v_badPlace, v_base, v_coded, v_end, v_ended, v_fault, v_faultPlace, v_open, 0, v_waits, v_actKind, v_actNumber, v_actShire, v_actTerm, v_codes, v_first, v_isBlanched, v_many, v_second, v_sort, v_sumEnd, v_sumFrom, v_testEnd, v_voidAt, v_wait)
def iM_writ (N : Nat) (a1 : Int) (v_acts : Int) (v_at : Int) (v_bad : Int) (v_badPlace : Int) (v_base : Int) (v_coded : Int) (v_end : Int) (v_ended : Int) (v_fault : Int) (v_faultPlace : Int) (v_open : Int) (v_taped : Int) (v_waits : Int) (v_actKind : (Nat → Int)) (v_actNumber : (Nat → Int)) (v_actShire : (Nat → Int)) (v_actTerm : (Nat → Int)) (v_allWord : (Nat → Int)) (v_allowWord : (Nat → Int)) (v_andWord : (Nat → Int)) (v_blanchedWord : (Nat → Int)) (v_codes : (Nat → Int)) (v_debtWord : (Nat → Int)) (v_farmWord : (Nat → Int)) (v_first : (Nat → Int)) (v_forWord : (Nat → Int)) (v_inWord : (Nat → Int)) (v_isBlanched : (Nat → Int)) (v_many : (Nat → Int)) (v_maxWord : (Nat → Int)) (v_minWord : (Nat → Int)) (v_notWord : (Nat → Int)) (v_orWord : (Nat → Int)) (v_paidWord : (Nat → Int)) (v_pardonWord : (Nat → Int)) (v_penceWord : (Nat → Int)) (v_poundsWord : (Nat → Int)) (v_second : (Nat → Int)) (v_shillingsWord : (Nat → Int)) (v_shireWord : (Nat → Int)) (v_sort : (Nat → Int)) (v_splitWord : (Nat → Int)) (v_sumEnd : (Nat → Int)) (v_sumFrom : (Nat → Int)) (v_tape : (Nat → Int)) (v_termWord : (Nat → Int)) (v_testEnd : (Nat → Int)) (v_voidAt : (Nat → Int)) (v_wait : (Nat → Int)) (v_yearWord : (Nat → Int)) : Option R_iM_writ :=
  bd1 (iM_isTerm a1) fun rc1 =>
  if rc1 = 0 then
    iM_writ_b17 N a1 v_allWord v_allowWord v_andWord v_blanchedWord v_debtWord v_farmWord v_forWord v_inWord v_maxWord v_minWord v_notWord v_orWord v_paidWord v_pardonWord v_penceWord v_poundsWord v_shillingsWord v_shireWord v_splitWord v_tape v_termWord v_yearWord v_acts v_at v_bad v_badPlace v_base v_coded v_end v_ended v_fault v_faultPlace v_open v_taped v_waits v_actKind v_actNumber v_actShire v_actTerm v_codes v_first v_isBlanched v_many v_second v_sort v_sumEnd v_sumFrom v_testEnd v_voidAt v_wait
  else
    if v_acts = 200 then
      iM_writ_b17 N a1 v_allWord v_allowWord v_andWord v_blanchedWord v_debtWord v_farmWord v_forWord v_inWord v_maxWord v_minWord v_notWord v_orWord v_paidWord v_pardonWord v_penceWord v_poundsWord v_shillingsWord v_shireWord v_splitWord v_tape v_termWord v_yearWord v_acts v_at v_bad v_badPlace v_base v_coded v_end v_ended v_fault v_faultPlace v_open v_taped v_waits v_actKind v_actNumber v_actShire v_actTerm v_codes v_first v_isBlanched v_many v_second v_sort v_sumEnd v_sumFrom v_testEnd v_voidAt v_wait
    else
      bd23 (iM_reads N v_at v_bad v_badPlace v_base v_coded v_end v_ended v_fault v_faultPlace v_open v_taped v_waits v_allWord v_allowWord v_andWord v_blanchedWord v_codes v_debtWord v_farmWord v_first v_forWord v_inWord v_isBlanched v_many v_maxWord v_minWord v_notWord v_orWord v_paidWord v_pardonWord v_penceWord v_poundsWord v_second v_shillingsWord v_shireWord v_sort v_splitWord v_sumEnd v_sumFrom v_tape v_termWord v_testEnd v_wait v_yearWord) fun rc2 v_at_c2 v_bad_c2 v_badPlace_c2 v_base_c2 v_coded_c2 v_end_c2 v_ended_c2 v_fault_c2 v_faultPlace_c2 v_open_c2 v_taped_c2 v_waits_c2 v_codes_c2 v_first_c2 v_isBlanched_c2 v_many_c2 v_second_c2 v_sort_c2 v_sumEnd_c2 v_sumFrom_c2 v_testEnd_c2 v_wait_c2 =>
      if rc2 = 0 then
        some ((-1), v_acts, v_at_c2, v_bad_c2, v_badPlace_c2, v_base_c2, v_coded_c2, v_end_c2, v_ended_c2, v_fault_c2, v_faultPlace_c2, v_open_c2, v_taped_c2, v_waits_c2, v_actKind, v_actNumber, v_actShire, v_actTerm, v_codes_c2, v_first_c2, v_isBlanched_c2, v_many_c2, v_second_c2, v_sort_c2, v_sumEnd_c2, v_sumFrom_c2, v_testEnd_c2, v_voidAt, v_wait_c2)
      else
        bd7 (iM_act 1 0 a1 0 v_acts v_actKind v_actNumber v_actShire v_actTerm v_voidAt) fun rc3 v_acts_c3 v_actKind_c3 v_actNumber_c3 v_actShire_c3 v_actTerm_c3 v_voidAt_c3 =>
        bd9 (iM_copies N rc3 v_coded_c2 v_codes_c2 v_first_c2 v_isBlanched_c2 v_many_c2 v_second_c2 v_sort_c2 v_sumEnd_c2 v_sumFrom_c2 v_testEnd_c2) fun v_codes_c4 v_first_c4 v_isBlanched_c4 v_many_c4 v_second_c4 v_sort_c4 v_sumEnd_c4 v_sumFrom_c4 v_testEnd_c4 =>
        some (rc3, v_acts_c3, v_at_c2, v_bad_c2, v_badPlace_c2, v_base_c2, v_coded_c2, v_end_c2, v_ended_c2, v_fault_c2, v_faultPlace_c2, v_open_c2, v_taped_c2, v_waits_c2, v_actKind_c3, v_actNumber_c3, v_actShire_c3, v_actTerm_c3, v_codes_c4, v_first_c4, v_isBlanched_c4, v_many_c4, v_second_c4, v_sort_c4, v_sumEnd_c4, v_sumFrom_c4, v_testEnd_c4, v_voidAt_c3, v_wait_c2)
def iM_fault (a1 : Int) (v_fault : Int) (v_faultPlace : Int) : Option Int :=
  if a1 = 0 then
    some v_fault
  else
    if a1 = 1 then
      some v_faultPlace
    else
      some (-1)
def iM_isPayment (a1 : Int) (v_actKind : (Nat → Int)) : Option Int :=
  gd (jb a1 201) <|
  if v_actKind a1.toNat = 2 then
    some 1
  else
    if v_actKind a1.toNat = 3 then
      some 1
    else
      some 0
def iM_mayPay_b5_F (N : Nat) (a1 : Int) (a2 : Int) (v_acts : Int) (v_actKind : (Nat → Int)) (k32 : Int → Option Int) (self : Int → Int → Option Int) (x3 : Int) (x4 : Int) : Option Int :=
  if v_acts < x4 then
    k32 x3
  else
    bd1 (iM_isPayment x4 v_actKind) fun rc1 =>
    if rc1 = 0 then
      gd (jr (x4 + 1)) <|
      self x3 (x4 + 1)
    else
      gd (jr (x3 + 1)) <|
      gd (jr (x4 + 1)) <|
      self (x3 + 1) (x4 + 1)
def iM_mayPay_b5 (N : Nat) (a1 : Int) (a2 : Int) (v_acts : Int) (v_actKind : (Nat → Int)) (k32 : Int → Option Int) : Nat → Int → Int → Option Int := zlp2 (iM_mayPay_b5_F N a1 a2 v_acts v_actKind k32)
def iM_mayPay_b32 (N : Nat) (a1 : Int) (a2 : Int) (v_acts : Int) (v_actKind : (Nat → Int)) (x3 : Int) : Option Int :=
  bd1 (iM_isShire a1) fun rc2 =>
  if rc2 = 0 then
    some 0
  else
    bd1 (iM_isTerm a2) fun rc3 =>
    if rc3 = 0 then
      some 0
    else
      if 60 ≤ x3 then
        some 0
      else
        some 1
def iM_mayPay (N : Nat) (a1 : Int) (a2 : Int) (v_acts : Int) (v_actKind : (Nat → Int)) : Option Int :=
  iM_mayPay_b5 N a1 a2 v_acts v_actKind (fun e5_ => iM_mayPay_b32 N a1 a2 v_acts v_actKind e5_) N 0 1
abbrev R_iM_pays : Type := Int × Int × (Nat → Int) × (Nat → Int) × (Nat → Int) × (Nat → Int) × (Nat → Int)
def iM_pays (N : Nat) (a1 : Int) (a2 : Int) (a3 : Int) (v_acts : Int) (v_actKind : (Nat → Int)) (v_actNumber : (Nat → Int)) (v_actShire : (Nat → Int)) (v_actTerm : (Nat → Int)) (v_voidAt : (Nat → Int)) : Option R_iM_pays :=
  bd1 (iM_mayPay N a1 a2 v_acts v_actKind) fun rc1 =>
  if rc1 = 0 then
    some ((-1), v_acts, v_actKind, v_actNumber, v_actShire, v_actTerm, v_voidAt)
  else
    bd1 (iM_isIn a3 1 1000000) fun rc2 =>
    if rc2 = 0 then
      some ((-1), v_acts, v_actKind, v_actNumber, v_actShire, v_actTerm, v_voidAt)
    else
      bd7 (iM_act 2 a1 a2 a3 v_acts v_actKind v_actNumber v_actShire v_actTerm v_voidAt) fun rc3 v_acts_c3 v_actKind_c3 v_actNumber_c3 v_actShire_c3 v_actTerm_c3 v_voidAt_c3 =>
      some (rc3, v_acts_c3, v_actKind_c3, v_actNumber_c3, v_actShire_c3, v_actTerm_c3, v_voidAt_c3)
abbrev R_iM_tally : Type := Int × Int × (Nat → Int) × (Nat → Int) × (Nat → Int) × (Nat → Int) × (Nat → Int)
def iM_tally (N : Nat) (a1 : Int) (a2 : Int) (a3 : Int) (v_acts : Int) (v_actKind : (Nat → Int)) (v_actNumber : (Nat → Int)) (v_actShire : (Nat → Int)) (v_actTerm : (Nat → Int)) (v_voidAt : (Nat → Int)) : Option R_iM_tally :=
  bd1 (iM_mayPay N a1 a2 v_acts v_actKind) fun rc1 =>
  if rc1 = 0 then
    some ((-1), v_acts, v_actKind, v_actNumber, v_actShire, v_actTerm, v_voidAt)
  else
    bd1 (iM_isIn a3 0 9) fun rc2 =>
    if rc2 = 0 then
      some ((-1), v_acts, v_actKind, v_actNumber, v_actShire, v_actTerm, v_voidAt)
    else
      bd7 (iM_act 3 a1 a2 a3 v_acts v_actKind v_actNumber v_actShire v_actTerm v_voidAt) fun rc3 v_acts_c3 v_actKind_c3 v_actNumber_c3 v_actShire_c3 v_actTerm_c3 v_voidAt_c3 =>
      some (rc3, v_acts_c3, v_actKind_c3, v_actNumber_c3, v_actShire_c3, v_actTerm_c3, v_voidAt_c3)
abbrev R_iM_fire : Type := Int × Int × (Nat → Int) × (Nat → Int) × (Nat → Int) × (Nat → Int) × (Nat → Int)
def iM_fire (a1 : Int) (a2 : Int) (v_acts : Int) (v_actKind : (Nat → Int)) (v_actNumber : (Nat → Int)) (v_actShire : (Nat → Int)) (v_actTerm : (Nat → Int)) (v_voidAt : (Nat → Int)) : Option R_iM_fire :=
  bd1 (iM_isTerm a1) fun rc1 =>
  if rc1 = 0 then
    some ((-1), v_acts, v_actKind, v_actNumber, v_actShire, v_actTerm, v_voidAt)
  else
    bd1 (iM_isIn a2 0 120) fun rc2 =>
    if rc2 = 0 then
      some ((-1), v_acts, v_actKind, v_actNumber, v_actShire, v_actTerm, v_voidAt)
    else
      bd7 (iM_act 4 0 a1 a2 v_acts v_actKind v_actNumber v_actShire v_actTerm v_voidAt) fun rc3 v_acts_c3 v_actKind_c3 v_actNumber_c3 v_actShire_c3 v_actTerm_c3 v_voidAt_c3 =>
      some (rc3, v_acts_c3, v_actKind_c3, v_actNumber_c3, v_actShire_c3, v_actTerm_c3, v_voidAt_c3)
abbrev R_iM_annul : Type := Int × Int × (Nat → Int) × (Nat → Int) × (Nat → Int) × (Nat → Int) × (Nat → Int)
def iM_annul (a1 : Int) (v_acts : Int) (v_actKind : (Nat → Int)) (v_actNumber : (Nat → Int)) (v_actShire : (Nat → Int)) (v_actTerm : (Nat → Int)) (v_voidAt : (Nat → Int)) : Option R_iM_annul :=
  bd1 (iM_isIn a1 1 v_acts) fun rc1 =>
  if rc1 = 0 then
    some ((-1), v_acts, v_actKind, v_actNumber, v_actShire, v_actTerm, v_voidAt)
  else
    gd (jb a1 201) <|
    if v_voidAt a1.toNat = 0 then
      if v_actKind a1.toNat = 5 then
        some ((-1), v_acts, v_actKind, v_actNumber, v_actShire, v_actTerm, v_voidAt)
      else
        if v_acts = 200 then
          some ((-1), v_acts, v_actKind, v_actNumber, v_actShire, v_actTerm, v_voidAt)
        else
          gd (jr (v_acts + 1)) <|
          bd7 (iM_act 5 0 0 a1 v_acts v_actKind v_actNumber v_actShire v_actTerm (va_up v_voidAt a1.toNat (v_acts + 1))) fun rc3 v_acts_c3 v_actKind_c3 v_actNumber_c3 v_actShire_c3 v_actTerm_c3 v_voidAt_c3 =>
          some (rc3, v_acts_c3, v_actKind_c3, v_actNumber_c3, v_actShire_c3, v_actTerm_c3, v_voidAt_c3)
    else
      some ((-1), v_acts, v_actKind, v_actNumber, v_actShire, v_actTerm, v_voidAt)
abbrev R_iM_as : Type := Int × Int
def iM_as (a1 : Int) (v_acts : Int) (v_as : Int) : Option R_iM_as :=
  bd1 (iM_isIn a1 (-1) v_acts) fun rc1 =>
  if rc1 = 0 then
    some (0, v_as)
  else
    some (1, a1)
def iM_asNow (v_acts : Int) (v_as : Int) : Option Int :=
  if v_as = (-1) then
    some v_acts
  else
    some v_as
def iM_isKnown_b30 (a1 : Int) (v_knownAt : Int) (v_without : Int) (v_voidAt : (Nat → Int)) : Option Int :=
  if a1 = v_without then
    some 0
  else
    some 1
def iM_isKnown (a1 : Int) (v_knownAt : Int) (v_without : Int) (v_voidAt : (Nat → Int)) : Option Int :=
  if v_knownAt < a1 then
    some 0
  else
    gd (jb a1 201) <|
    if v_voidAt a1.toNat = 0 then
      iM_isKnown_b30 a1 v_knownAt v_without v_voidAt
    else
      if v_voidAt a1.toNat ≤ v_knownAt then
        some 0
      else
        iM_isKnown_b30 a1 v_knownAt v_without v_voidAt
def iM_writOf_b4_F (N : Nat) (a1 : Int) (v_acts : Int) (v_knownAt : Int) (v_without : Int) (v_actKind : (Nat → Int)) (v_actTerm : (Nat → Int)) (v_voidAt : (Nat → Int)) (self : Int → Int → Option Int) (x2 : Int) (x3 : Int) : Option Int :=
  if v_acts < x3 then
    some x2
  else
    gd (jb x3 201) <|
    if v_actKind x3.toNat = 1 then
      bd1 (iM_isKnown x3 v_knownAt v_without v_voidAt) fun rc2 =>
      if rc2 = 0 then
        gd (jr (x3 + 1)) <|
        self x2 (x3 + 1)
      else
        if a1 < v_actTerm x3.toNat then
          gd (jr (x3 + 1)) <|
          self x2 (x3 + 1)
        else
          if x2 = 0 then
            gd (jr (x3 + 1)) <|
            self x3 (x3 + 1)
          else
            gd (jb x2 201) <|
            if v_actTerm x3.toNat < v_actTerm x2.toNat then
              gd (jr (x3 + 1)) <|
              self x2 (x3 + 1)
            else
              gd (jr (x3 + 1)) <|
              self x3 (x3 + 1)
    else
      gd (jr (x3 + 1)) <|
      self x2 (x3 + 1)
def iM_writOf_b4 (N : Nat) (a1 : Int) (v_acts : Int) (v_knownAt : Int) (v_without : Int) (v_actKind : (Nat → Int)) (v_actTerm : (Nat → Int)) (v_voidAt : (Nat → Int)) : Nat → Int → Int → Option Int := zlp2 (iM_writOf_b4_F N a1 v_acts v_knownAt v_without v_actKind v_actTerm v_voidAt)
def iM_writOf (N : Nat) (a1 : Int) (v_acts : Int) (v_knownAt : Int) (v_without : Int) (v_actKind : (Nat → Int)) (v_actTerm : (Nat → Int)) (v_voidAt : (Nat → Int)) : Option Int :=
  iM_writOf_b4 N a1 v_acts v_knownAt v_without v_actKind v_actTerm v_voidAt N 0 1
def iM_fireOf_b4_F (N : Nat) (a1 : Int) (v_acts : Int) (v_knownAt : Int) (v_without : Int) (v_actKind : (Nat → Int)) (v_actNumber : (Nat → Int)) (v_actTerm : (Nat → Int)) (v_voidAt : (Nat → Int)) (self : Int → Int → Option Int) (x2 : Int) (x3 : Int) : Option Int :=
  if v_acts < x3 then
    some x2
  else
    gd (jb x3 201) <|
    if v_actKind x3.toNat = 4 then
      bd1 (iM_isKnown x3 v_knownAt v_without v_voidAt) fun rc2 =>
      if rc2 = 0 then
        gd (jr (x3 + 1)) <|
        self x2 (x3 + 1)
      else
        if v_actTerm x3.toNat = a1 then
          gd (jr (x3 + 1)) <|
          self (v_actNumber x3.toNat) (x3 + 1)
        else
          gd (jr (x3 + 1)) <|
          self x2 (x3 + 1)
    else
      gd (jr (x3 + 1)) <|
      self x2 (x3 + 1)
def iM_fireOf_b4 (N : Nat) (a1 : Int) (v_acts : Int) (v_knownAt : Int) (v_without : Int) (v_actKind : (Nat → Int)) (v_actNumber : (Nat → Int)) (v_actTerm : (Nat → Int)) (v_voidAt : (Nat → Int)) : Nat → Int → Int → Option Int := zlp2 (iM_fireOf_b4_F N a1 v_acts v_knownAt v_without v_actKind v_actNumber v_actTerm v_voidAt)
def iM_fireOf (N : Nat) (a1 : Int) (v_acts : Int) (v_knownAt : Int) (v_without : Int) (v_actKind : (Nat → Int)) (v_actNumber : (Nat → Int)) (v_actTerm : (Nat → Int)) (v_voidAt : (Nat → Int)) : Option Int :=
  iM_fireOf_b4 N a1 v_acts v_knownAt v_without v_actKind v_actNumber v_actTerm v_voidAt N 0 1
abbrev R_iM_tellsAsKnown : Type := Int × Int × Int
def iM_tellsAsKnown (a1 : Int) (v_knownAt : Int) (v_movedAct : Int) (v_without : Int) : Option R_iM_tellsAsKnown :=
  some (a1, (-1), (-1))
abbrev R_iM_force : Type := Int × Int × Int × Int
def iM_force (N : Nat) (a1 : Int) (v_acts : Int) (v_as : Int) (v_knownAt : Int) (v_movedAct : Int) (v_without : Int) (v_actKind : (Nat → Int)) (v_actTerm : (Nat → Int)) (v_many : (Nat → Int)) (v_voidAt : (Nat → Int)) : Option R_iM_force :=
  bd1 (iM_isTerm a1) fun rc1 =>
  if rc1 = 0 then
    some ((-1), v_knownAt, v_movedAct, v_without)
  else
    bd1 (iM_asNow v_acts v_as) fun rc2 =>
    bd3 (iM_tellsAsKnown rc2 v_knownAt v_movedAct v_without) fun v_knownAt_c3 v_movedAct_c3 v_without_c3 =>
    bd1 (iM_writOf N a1 v_acts v_knownAt_c3 v_without_c3 v_actKind v_actTerm v_voidAt) fun rc4 =>
    if rc4 = 0 then
      some ((-1), v_knownAt_c3, v_movedAct_c3, v_without_c3)
    else
      gd (jb rc4 201) <|
      some (v_many rc4.toNat, v_knownAt_c3, v_movedAct_c3, v_without_c3)
abbrev R_iM_holds : Type := Int × Int × (Nat → Int)
def iM_holds (N : Nat) (a1 : Int) (a2 : Int) (v_debt : Int) (v_now : Int) (v_paid : Int) (v_piled : Int) (v_shireNow : Int) (v_codes : (Nat → Int)) (v_pile : (Nat → Int)) (v_sumEnd : (Nat → Int)) (v_testEnd : (Nat → Int)) : Option R_iM_holds :=
  gd (jb a2 4824) <|
  bd3 (iM_tells N a1 (v_sumEnd a2.toNat) (v_testEnd a2.toNat) v_debt v_now v_paid v_piled v_shireNow v_codes v_pile) fun rc2 v_piled_c2 v_pile_c2 =>
  if rc2 = 1 then
    some (1, v_piled_c2, v_pile_c2)
  else
    some (0, v_piled_c2, v_pile_c2)
abbrev R_iM_amount : Type := Int × Int × (Nat → Int)
def iM_amount (N : Nat) (a1 : Int) (a2 : Int) (v_debt : Int) (v_now : Int) (v_paid : Int) (v_piled : Int) (v_shireNow : Int) (v_codes : (Nat → Int)) (v_pile : (Nat → Int)) (v_sumEnd : (Nat → Int)) (v_sumFrom : (Nat → Int)) : Option R_iM_amount :=
  gd (jb a2 4824) <|
  bd3 (iM_tells N a1 (v_sumFrom a2.toNat) (v_sumEnd a2.toNat) v_debt v_now v_paid v_piled v_shireNow v_codes v_pile) fun rc2 v_piled_c2 v_pile_c2 =>
  if 0 ≤ rc2 then
    some (rc2, v_piled_c2, v_pile_c2)
  else
    some (0, v_piled_c2, v_pile_c2)
abbrev R_iM_does : Type := Int × Int × Int × Int × Int × Int × (Nat → Int) × (Nat → Int)
def iM_does_b102 (N : Nat) (a1 : Int) (a2 : Int) (v_now : Int) (v_paid : Int) (v_shireNow : Int) (v_codes : (Nat → Int)) (v_first : (Nat → Int)) (v_isBlanched : (Nat → Int)) (v_many : (Nat → Int)) (v_second : (Nat → Int)) (v_sort : (Nat → Int)) (v_sumEnd : (Nat → Int)) (v_sumFrom : (Nat → Int)) (v_testEnd : (Nat → Int)) (self : Int → Int → Int → Int → Int → Int → Int → (Nat → Int) → (Nat → Int) → Option R_iM_does) (x3 : Int) (s1 : Int) (v_allowed : Int) (v_debt : Int) (v_farms : Int) (v_isBlanchedNow : Int) (v_pardoned : Int) (v_piled : Int) (v_off : (Nat → Int)) (v_pile : (Nat → Int)) : Option R_iM_does :=
  gd (jB s1) <|
  gd (jr (x3 + 1)) <|
  self (x3 + 1) v_allowed v_debt v_farms s1 v_pardoned v_piled v_off v_pile
def iM_does_b246_F (N : Nat) (a1 : Int) (a2 : Int) (v_now : Int) (v_paid : Int) (v_shireNow : Int) (v_codes : (Nat → Int)) (v_first : (Nat → Int)) (v_isBlanched : (Nat → Int)) (v_many : (Nat → Int)) (v_second : (Nat → Int)) (v_sort : (Nat → Int)) (v_sumEnd : (Nat → Int)) (v_sumFrom : (Nat → Int)) (v_testEnd : (Nat → Int)) (x3 : Int) (x4 : Int) (x5 : Int) (v_allowed : Int) (v_debt : Int) (v_farms : Int) (v_isBlanchedNow : Int) (v_pardoned : Int) (v_piled : Int) (v_pile : (Nat → Int)) (k281 : (Nat → Int) → Option R_iM_does) (self : Int → (Nat → Int) → Option R_iM_does) (x7 : Int) (v_off : (Nat → Int)) : Option R_iM_does :=
  gd (jb x4 4824) <|
  if v_first x4.toNat ≤ x7 then
    k281 v_off
  else
    gd (jr (v_now + x7)) <|
    gd (jb (v_now + x7) 60) <|
    gd (jr (x7 + 1)) <|
    gd (jR ((v_off ((v_now + x7).toNat)) + x5)) <|
    self (x7 + 1) (va_up v_off ((v_now + x7).toNat) ((v_off ((v_now + x7).toNat)) + x5))
def iM_does_b246 (N : Nat) (a1 : Int) (a2 : Int) (v_now : Int) (v_paid : Int) (v_shireNow : Int) (v_codes : (Nat → Int)) (v_first : (Nat → Int)) (v_isBlanched : (Nat → Int)) (v_many : (Nat → Int)) (v_second : (Nat → Int)) (v_sort : (Nat → Int)) (v_sumEnd : (Nat → Int)) (v_sumFrom : (Nat → Int)) (v_testEnd : (Nat → Int)) (x3 : Int) (x4 : Int) (x5 : Int) (v_allowed : Int) (v_debt : Int) (v_farms : Int) (v_isBlanchedNow : Int) (v_pardoned : Int) (v_piled : Int) (v_pile : (Nat → Int)) (k281 : (Nat → Int) → Option R_iM_does) : Nat → Int → (Nat → Int) → Option R_iM_does := zlp2 (iM_does_b246_F N a1 a2 v_now v_paid v_shireNow v_codes v_first v_isBlanched v_many v_second v_sort v_sumEnd v_sumFrom v_testEnd x3 x4 x5 v_allowed v_debt v_farms v_isBlanchedNow v_pardoned v_piled v_pile k281)
def iM_does_b281 (N : Nat) (a1 : Int) (a2 : Int) (v_now : Int) (v_paid : Int) (v_shireNow : Int) (v_codes : (Nat → Int)) (v_first : (Nat → Int)) (v_isBlanched : (Nat → Int)) (v_many : (Nat → Int)) (v_second : (Nat → Int)) (v_sort : (Nat → Int)) (v_sumEnd : (Nat → Int)) (v_sumFrom : (Nat → Int)) (v_testEnd : (Nat → Int)) (self : Int → Int → Int → Int → Int → Int → Int → (Nat → Int) → (Nat → Int) → Option R_iM_does) (x3 : Int) (x4 : Int) (x5 : Int) (v_allowed : Int) (v_debt : Int) (v_farms : Int) (v_isBlanchedNow : Int) (v_pardoned : Int) (v_piled : Int) (v_off : (Nat → Int)) (v_pile : (Nat → Int)) : Option R_iM_does :=
  gd (jb x4 4824) <|
  gd (jr (x3 + 1)) <|
  gd (jr ((v_first x4.toNat) - 1)) <|
  gd (jR (x5 * ((v_first x4.toNat) - 1))) <|
  gd (jR (v_debt - (x5 * ((v_first x4.toNat) - 1)))) <|
  self (x3 + 1) v_allowed (v_debt - (x5 * ((v_first x4.toNat) - 1))) v_farms v_isBlanchedNow v_pardoned v_piled v_off v_pile
def iM_does_b212 (N : Nat) (a1 : Int) (a2 : Int) (v_now : Int) (v_paid : Int) (v_shireNow : Int) (v_codes : (Nat → Int)) (v_first : (Nat → Int)) (v_isBlanched : (Nat → Int)) (v_many : (Nat → Int)) (v_second : (Nat → Int)) (v_sort : (Nat → Int)) (v_sumEnd : (Nat → Int)) (v_sumFrom : (Nat → Int)) (v_testEnd : (Nat → Int)) (self : Int → Int → Int → Int → Int → Int → Int → (Nat → Int) → (Nat → Int) → Option R_iM_does) (x3 : Int) (x4 : Int) (v_allowed : Int) (v_debt : Int) (v_farms : Int) (v_isBlanchedNow : Int) (v_pardoned : Int) (v_piled : Int) (v_off : (Nat → Int)) (v_pile : (Nat → Int)) : Option R_iM_does :=
  if a2 = 3 then
    if v_debt ≤ 0 then
      gd (jr (x3 + 1)) <|
      self (x3 + 1) v_allowed v_debt v_farms v_isBlanchedNow v_pardoned v_piled v_off v_pile
    else
      gd (jb x4 4824) <|
      bd1 (iM_floor v_debt (v_first x4.toNat)) fun rc8 =>
      iM_does_b246 N a1 a2 v_now v_paid v_shireNow v_codes v_first v_isBlanched v_many v_second v_sort v_sumEnd v_sumFrom v_testEnd x3 x4 rc8 v_allowed v_debt v_farms v_isBlanchedNow v_pardoned v_piled v_pile (fun v_off_k1 => iM_does_b281 N a1 a2 v_now v_paid v_shireNow v_codes v_first v_isBlanched v_many v_second v_sort v_sumEnd v_sumFrom v_testEnd self x3 x4 rc8 v_allowed v_debt v_farms v_isBlanchedNow v_pardoned v_piled v_off_k1 v_pile) N 1 v_off
  else
    gd (jr (x3 + 1)) <|
    self (x3 + 1) v_allowed v_debt v_farms v_isBlanchedNow v_pardoned v_piled v_off v_pile
def iM_does_b2_F (N : Nat) (a1 : Int) (a2 : Int) (v_now : Int) (v_paid : Int) (v_shireNow : Int) (v_codes : (Nat → Int)) (v_first : (Nat → Int)) (v_isBlanched : (Nat → Int)) (v_many : (Nat → Int)) (v_second : (Nat → Int)) (v_sort : (Nat → Int)) (v_sumEnd : (Nat → Int)) (v_sumFrom : (Nat → Int)) (v_testEnd : (Nat → Int)) (self : Int → Int → Int → Int → Int → Int → Int → (Nat → Int) → (Nat → Int) → Option R_iM_does) (x3 : Int) (v_allowed : Int) (v_debt : Int) (v_farms : Int) (v_isBlanchedNow : Int) (v_pardoned : Int) (v_piled : Int) (v_off : (Nat → Int)) (v_pile : (Nat → Int)) : Option R_iM_does :=
  gd (jb a1 201) <|
  if v_many a1.toNat ≤ x3 then
    some (v_allowed, v_debt, v_farms, v_isBlanchedNow, v_pardoned, v_piled, v_off, v_pile)
  else
    gd (jr (24 * a1)) <|
    gd (jr ((24 * a1) + x3)) <|
    gd (jb ((24 * a1) + x3) 4824) <|
    if v_sort (((24 * a1) + x3).toNat) = a2 then
      bd3 (iM_holds N a1 ((24 * a1) + x3) v_debt v_now v_paid v_piled v_shireNow v_codes v_pile v_sumEnd v_testEnd) fun rc3 v_piled_c3 v_pile_c3 =>
      if rc3 = 0 then
        gd (jr (x3 + 1)) <|
        self (x3 + 1) v_allowed v_debt v_farms v_isBlanchedNow v_pardoned v_piled_c3 v_off v_pile_c3
      else
        if a2 = 0 then
          bd3 (iM_amount N a1 ((24 * a1) + x3) v_debt v_now v_paid v_piled_c3 v_shireNow v_codes v_pile_c3 v_sumEnd v_sumFrom) fun rc6 v_piled_c6 v_pile_c6 =>
          if v_isBlanchedNow = 0 then
            if v_isBlanched (((24 * a1) + x3).toNat) = 0 then
              gd (jR (v_debt + rc6)) <|
              gd (jR (v_farms + rc6)) <|
              iM_does_b102 N a1 a2 v_now v_paid v_shireNow v_codes v_first v_isBlanched v_many v_second v_sort v_sumEnd v_sumFrom v_testEnd self x3 0 v_allowed (v_debt + rc6) (v_farms + rc6) v_isBlanchedNow v_pardoned v_piled_c6 v_off v_pile_c6
            else
              gd (jR (v_debt + rc6)) <|
              gd (jR (v_farms + rc6)) <|
              iM_does_b102 N a1 a2 v_now v_paid v_shireNow v_codes v_first v_isBlanched v_many v_second v_sort v_sumEnd v_sumFrom v_testEnd self x3 1 v_allowed (v_debt + rc6) (v_farms + rc6) v_isBlanchedNow v_pardoned v_piled_c6 v_off v_pile_c6
          else
            gd (jR (v_debt + rc6)) <|
            gd (jR (v_farms + rc6)) <|
            iM_does_b102 N a1 a2 v_now v_paid v_shireNow v_codes v_first v_isBlanched v_many v_second v_sort v_sumEnd v_sumFrom v_testEnd self x3 1 v_allowed (v_debt + rc6) (v_farms + rc6) v_isBlanchedNow v_pardoned v_piled_c6 v_off v_pile_c6
        else
          if a2 = 1 then
            bd3 (iM_amount N a1 ((24 * a1) + x3) v_debt v_now v_paid v_piled_c3 v_shireNow v_codes v_pile_c3 v_sumEnd v_sumFrom) fun rc5 v_piled_c5 v_pile_c5 =>
            gd (jr (x3 + 1)) <|
            gd (jR (v_allowed + rc5)) <|
            gd (jR (v_debt - rc5)) <|
            self (x3 + 1) (v_allowed + rc5) (v_debt - rc5) v_farms v_isBlanchedNow v_pardoned v_piled_c5 v_off v_pile_c5
          else
            if a2 = 2 then
              if v_debt ≤ 0 then
                iM_does_b212 N a1 a2 v_now v_paid v_shireNow v_codes v_first v_isBlanched v_many v_second v_sort v_sumEnd v_sumFrom v_testEnd self x3 ((24 * a1) + x3) v_allowed v_debt v_farms v_isBlanchedNow v_pardoned v_piled_c3 v_off v_pile_c3
              else
                gd (jR (v_debt * (v_first (((24 * a1) + x3).toNat)))) <|
                bd1 (iM_floor (v_debt * (v_first (((24 * a1) + x3).toNat))) (v_second (((24 * a1) + x3).toNat))) fun rc4 =>
                gd (jr (x3 + 1)) <|
                gd (jR (v_debt - rc4)) <|
                gd (jR (v_pardoned + rc4)) <|
                self (x3 + 1) v_allowed (v_debt - rc4) v_farms v_isBlanchedNow (v_pardoned + rc4) v_piled_c3 v_off v_pile_c3
            else
              iM_does_b212 N a1 a2 v_now v_paid v_shireNow v_codes v_first v_isBlanched v_many v_second v_sort v_sumEnd v_sumFrom v_testEnd self x3 ((24 * a1) + x3) v_allowed v_debt v_farms v_isBlanchedNow v_pardoned v_piled_c3 v_off v_pile_c3
    else
      gd (jr (x3 + 1)) <|
      self (x3 + 1) v_allowed v_debt v_farms v_isBlanchedNow v_pardoned v_piled v_off v_pile
def iM_does_b2 (N : Nat) (a1 : Int) (a2 : Int) (v_now : Int) (v_paid : Int) (v_shireNow : Int) (v_codes : (Nat → Int)) (v_first : (Nat → Int)) (v_isBlanched : (Nat → Int)) (v_many : (Nat → Int)) (v_second : (Nat → Int)) (v_sort : (Nat → Int)) (v_sumEnd : (Nat → Int)) (v_sumFrom : (Nat → Int)) (v_testEnd : (Nat → Int)) : Nat → Int → Int → Int → Int → Int → Int → Int → (Nat → Int) → (Nat → Int) → Option R_iM_does := zlp9 (iM_does_b2_F N a1 a2 v_now v_paid v_shireNow v_codes v_first v_isBlanched v_many v_second v_sort v_sumEnd v_sumFrom v_testEnd)
def iM_does (N : Nat) (a1 : Int) (a2 : Int) (v_allowed : Int) (v_debt : Int) (v_farms : Int) (v_isBlanchedNow : Int) (v_now : Int) (v_paid : Int) (v_pardoned : Int) (v_piled : Int) (v_shireNow : Int) (v_codes : (Nat → Int)) (v_first : (Nat → Int)) (v_isBlanched : (Nat → Int)) (v_many : (Nat → Int)) (v_off : (Nat → Int)) (v_pile : (Nat → Int)) (v_second : (Nat → Int)) (v_sort : (Nat → Int)) (v_sumEnd : (Nat → Int)) (v_sumFrom : (Nat → Int)) (v_testEnd : (Nat → Int)) : Option R_iM_does :=
  iM_does_b2 N a1 a2 v_now v_paid v_shireNow v_codes v_first v_isBlanched v_many v_second v_sort v_sumEnd v_sumFrom v_testEnd N 0 v_allowed v_debt v_farms v_isBlanchedNow v_pardoned v_piled v_off v_pile
abbrev R_iM_takesPayments : Type := Int × Int
def iM_takesPayments_b153 (N : Nat) (v_acts : Int) (v_isBlanchedNow : Int) (v_knownAt : Int) (v_movedAct : Int) (v_movedTerm : Int) (v_now : Int) (v_shireNow : Int) (v_without : Int) (v_actKind : (Nat → Int)) (v_actNumber : (Nat → Int)) (v_actShire : (Nat → Int)) (v_actTerm : (Nat → Int)) (v_cutWorth : (Nat → Int)) (v_cuts : (Nat → Int)) (v_mates : (Nat → Int)) (v_pence : (Nat → Int)) (v_voidAt : (Nat → Int)) (self : Int → Int → Int → Option R_iM_takesPayments) (x1 : Int) (x2 : Int) (v_debt : Int) (v_paid : Int) : Option R_iM_takesPayments :=
  gd (jr (x1 + 1)) <|
  gd (jR (v_debt - x2)) <|
  gd (jR (v_paid + x2)) <|
  self (x1 + 1) (v_debt - x2) (v_paid + x2)
def iM_takesPayments_b121 (N : Nat) (v_acts : Int) (v_isBlanchedNow : Int) (v_knownAt : Int) (v_movedAct : Int) (v_movedTerm : Int) (v_now : Int) (v_shireNow : Int) (v_without : Int) (v_actKind : (Nat → Int)) (v_actNumber : (Nat → Int)) (v_actShire : (Nat → Int)) (v_actTerm : (Nat → Int)) (v_cutWorth : (Nat → Int)) (v_cuts : (Nat → Int)) (v_mates : (Nat → Int)) (v_pence : (Nat → Int)) (v_voidAt : (Nat → Int)) (self : Int → Int → Int → Option R_iM_takesPayments) (x1 : Int) (s0 : Int) (s1 : Int) (v_debt : Int) (v_paid : Int) : Option R_iM_takesPayments :=
  gd (jR (s0 - s1)) <|
  iM_takesPayments_b153 N v_acts v_isBlanchedNow v_knownAt v_movedAct v_movedTerm v_now v_shireNow v_without v_actKind v_actNumber v_actShire v_actTerm v_cutWorth v_cuts v_mates v_pence v_voidAt self x1 (s0 - s1) v_debt v_paid
def iM_takesPayments_b60 (N : Nat) (v_acts : Int) (v_isBlanchedNow : Int) (v_knownAt : Int) (v_movedAct : Int) (v_movedTerm : Int) (v_now : Int) (v_shireNow : Int) (v_without : Int) (v_actKind : (Nat → Int)) (v_actNumber : (Nat → Int)) (v_actShire : (Nat → Int)) (v_actTerm : (Nat → Int)) (v_cutWorth : (Nat → Int)) (v_cuts : (Nat → Int)) (v_mates : (Nat → Int)) (v_pence : (Nat → Int)) (v_voidAt : (Nat → Int)) (self : Int → Int → Int → Option R_iM_takesPayments) (x1 : Int) (s0 : Int) (v_debt : Int) (v_paid : Int) : Option R_iM_takesPayments :=
  if s0 = v_now then
    gd (jb x1 201) <|
    if v_actKind x1.toNat = 2 then
      if v_isBlanchedNow = 0 then
        iM_takesPayments_b121 N v_acts v_isBlanchedNow v_knownAt v_movedAct v_movedTerm v_now v_shireNow v_without v_actKind v_actNumber v_actShire v_actTerm v_cutWorth v_cuts v_mates v_pence v_voidAt self x1 (v_actNumber x1.toNat) 0 v_debt v_paid
      else
        bd1 (iM_fireOf N v_now v_acts v_knownAt v_without v_actKind v_actNumber v_actTerm v_voidAt) fun rc7 =>
        gd (jR ((v_actNumber x1.toNat) * rc7)) <|
        gd (jR (((v_actNumber x1.toNat) * rc7).tdiv 240)) <|
        iM_takesPayments_b121 N v_acts v_isBlanchedNow v_knownAt v_movedAct v_movedTerm v_now v_shireNow v_without v_actKind v_actNumber v_actShire v_actTerm v_cutWorth v_cuts v_mates v_pence v_voidAt self x1 (v_actNumber x1.toNat) (((v_actNumber x1.toNat) * rc7).tdiv 240) v_debt v_paid
    else
      gd (jb (v_actNumber x1.toNat) 10) <|
      if v_mates ((v_actNumber x1.toNat).toNat) = (-1) then
        iM_takesPayments_b153 N v_acts v_isBlanchedNow v_knownAt v_movedAct v_movedTerm v_now v_shireNow v_without v_actKind v_actNumber v_actShire v_actTerm v_cutWorth v_cuts v_mates v_pence v_voidAt self x1 0 v_debt v_paid
      else
        bd1 (iM_sumOf N (v_actNumber x1.toNat) v_cutWorth v_cuts v_pence) fun rc6 =>
        iM_takesPayments_b153 N v_acts v_isBlanchedNow v_knownAt v_movedAct v_movedTerm v_now v_shireNow v_without v_actKind v_actNumber v_actShire v_actTerm v_cutWorth v_cuts v_mates v_pence v_voidAt self x1 rc6 v_debt v_paid
  else
    gd (jr (x1 + 1)) <|
    self (x1 + 1) v_debt v_paid
def iM_takesPayments_b2_F (N : Nat) (v_acts : Int) (v_isBlanchedNow : Int) (v_knownAt : Int) (v_movedAct : Int) (v_movedTerm : Int) (v_now : Int) (v_shireNow : Int) (v_without : Int) (v_actKind : (Nat → Int)) (v_actNumber : (Nat → Int)) (v_actShire : (Nat → Int)) (v_actTerm : (Nat → Int)) (v_cutWorth : (Nat → Int)) (v_cuts : (Nat → Int)) (v_mates : (Nat → Int)) (v_pence : (Nat → Int)) (v_voidAt : (Nat → Int)) (self : Int → Int → Int → Option R_iM_takesPayments) (x1 : Int) (v_debt : Int) (v_paid : Int) : Option R_iM_takesPayments :=
  if v_acts < x1 then
    some (v_debt, v_paid)
  else
    bd1 (iM_isPayment x1 v_actKind) fun rc1 =>
    if rc1 = 0 then
      gd (jr (x1 + 1)) <|
      self (x1 + 1) v_debt v_paid
    else
      bd1 (iM_isKnown x1 v_knownAt v_without v_voidAt) fun rc2 =>
      if rc2 = 0 then
        gd (jr (x1 + 1)) <|
        self (x1 + 1) v_debt v_paid
      else
        gd (jb x1 201) <|
        if v_actShire x1.toNat = v_shireNow then
          if x1 = v_movedAct then
            iM_takesPayments_b60 N v_acts v_isBlanchedNow v_knownAt v_movedAct v_movedTerm v_now v_shireNow v_without v_actKind v_actNumber v_actShire v_actTerm v_cutWorth v_cuts v_mates v_pence v_voidAt self x1 v_movedTerm v_debt v_paid
          else
            iM_takesPayments_b60 N v_acts v_isBlanchedNow v_knownAt v_movedAct v_movedTerm v_now v_shireNow v_without v_actKind v_actNumber v_actShire v_actTerm v_cutWorth v_cuts v_mates v_pence v_voidAt self x1 (v_actTerm x1.toNat) v_debt v_paid
        else
          gd (jr (x1 + 1)) <|
          self (x1 + 1) v_debt v_paid
def iM_takesPayments_b2 (N : Nat) (v_acts : Int) (v_isBlanchedNow : Int) (v_knownAt : Int) (v_movedAct : Int) (v_movedTerm : Int) (v_now : Int) (v_shireNow : Int) (v_without : Int) (v_actKind : (Nat → Int)) (v_actNumber : (Nat → Int)) (v_actShire : (Nat → Int)) (v_actTerm : (Nat → Int)) (v_cutWorth : (Nat → Int)) (v_cuts : (Nat → Int)) (v_mates : (Nat → Int)) (v_pence : (Nat → Int)) (v_voidAt : (Nat → Int)) : Nat → Int → Int → Int → Option R_iM_takesPayments := zlp3 (iM_takesPayments_b2_F N v_acts v_isBlanchedNow v_knownAt v_movedAct v_movedTerm v_now v_shireNow v_without v_actKind v_actNumber v_actShire v_actTerm v_cutWorth v_cuts v_mates v_pence v_voidAt)
def iM_takesPayments (N : Nat) (v_acts : Int) (v_debt : Int) (v_isBlanchedNow : Int) (v_knownAt : Int) (v_movedAct : Int) (v_movedTerm : Int) (v_now : Int) (v_paid : Int) (v_shireNow : Int) (v_without : Int) (v_actKind : (Nat → Int)) (v_actNumber : (Nat → Int)) (v_actShire : (Nat → Int)) (v_actTerm : (Nat → Int)) (v_cutWorth : (Nat → Int)) (v_cuts : (Nat → Int)) (v_mates : (Nat → Int)) (v_pence : (Nat → Int)) (v_voidAt : (Nat → Int)) : Option R_iM_takesPayments :=
  iM_takesPayments_b2 N v_acts v_isBlanchedNow v_knownAt v_movedAct v_movedTerm v_now v_shireNow v_without v_actKind v_actNumber v_actShire v_actTerm v_cutWorth v_cuts v_mates v_pence v_voidAt N 1 v_debt v_paid
abbrev R_iM_rolls : Type := Int × Int × Int × Int × Int × Int × Int × Int × Int × Int × Int × (Nat → Int) × (Nat → Int)
def iM_rolls_b2_F (N : Nat) (a1 : Int) (a2 : Int) (v_acts : Int) (v_knownAt : Int) (v_movedAct : Int) (v_movedTerm : Int) (v_without : Int) (v_actKind : (Nat → Int)) (v_actNumber : (Nat → Int)) (v_actShire : (Nat → Int)) (v_actTerm : (Nat → Int)) (v_codes : (Nat → Int)) (v_cutWorth : (Nat → Int)) (v_cuts : (Nat → Int)) (v_first : (Nat → Int)) (v_isBlanched : (Nat → Int)) (v_many : (Nat → Int)) (v_mates : (Nat → Int)) (v_pence : (Nat → Int)) (v_second : (Nat → Int)) (v_sort : (Nat → Int)) (v_sumEnd : (Nat → Int)) (v_sumFrom : (Nat → Int)) (v_testEnd : (Nat → Int)) (v_voidAt : (Nat → Int)) (v_allowed : Int) (v_debt : Int) (v_farms : Int) (v_isBlanchedNow : Int) (v_now : Int) (v_paid : Int) (v_paidTold : Int) (v_pardoned : Int) (v_piled : Int) (v_shireNow : Int) (v_pile : (Nat → Int)) (k21 : (Nat → Int) → Option R_iM_rolls) (self : Int → (Nat → Int) → Option R_iM_rolls) (x3 : Int) (v_off : (Nat → Int)) : Option R_iM_rolls :=
  if 60 ≤ x3 then
    k21 v_off
  else
    gd (jb x3 60) <|
    gd (jr (x3 + 1)) <|
    self (x3 + 1) (va_up v_off x3.toNat 0)
def iM_rolls_b2 (N : Nat) (a1 : Int) (a2 : Int) (v_acts : Int) (v_knownAt : Int) (v_movedAct : Int) (v_movedTerm : Int) (v_without : Int) (v_actKind : (Nat → Int)) (v_actNumber : (Nat → Int)) (v_actShire : (Nat → Int)) (v_actTerm : (Nat → Int)) (v_codes : (Nat → Int)) (v_cutWorth : (Nat → Int)) (v_cuts : (Nat → Int)) (v_first : (Nat → Int)) (v_isBlanched : (Nat → Int)) (v_many : (Nat → Int)) (v_mates : (Nat → Int)) (v_pence : (Nat → Int)) (v_second : (Nat → Int)) (v_sort : (Nat → Int)) (v_sumEnd : (Nat → Int)) (v_sumFrom : (Nat → Int)) (v_testEnd : (Nat → Int)) (v_voidAt : (Nat → Int)) (v_allowed : Int) (v_debt : Int) (v_farms : Int) (v_isBlanchedNow : Int) (v_now : Int) (v_paid : Int) (v_paidTold : Int) (v_pardoned : Int) (v_piled : Int) (v_shireNow : Int) (v_pile : (Nat → Int)) (k21 : (Nat → Int) → Option R_iM_rolls) : Nat → Int → (Nat → Int) → Option R_iM_rolls := zlp2 (iM_rolls_b2_F N a1 a2 v_acts v_knownAt v_movedAct v_movedTerm v_without v_actKind v_actNumber v_actShire v_actTerm v_codes v_cutWorth v_cuts v_first v_isBlanched v_many v_mates v_pence v_second v_sort v_sumEnd v_sumFrom v_testEnd v_voidAt v_allowed v_debt v_farms v_isBlanchedNow v_now v_paid v_paidTold v_pardoned v_piled v_shireNow v_pile k21)
def iM_rolls_b134 (N : Nat) (a1 : Int) (a2 : Int) (v_acts : Int) (v_knownAt : Int) (v_movedAct : Int) (v_movedTerm : Int) (v_without : Int) (v_actKind : (Nat → Int)) (v_actNumber : (Nat → Int)) (v_actShire : (Nat → Int)) (v_actTerm : (Nat → Int)) (v_codes : (Nat → Int)) (v_cutWorth : (Nat → Int)) (v_cuts : (Nat → Int)) (v_first : (Nat → Int)) (v_isBlanched : (Nat → Int)) (v_many : (Nat → Int)) (v_mates : (Nat → Int)) (v_pence : (Nat → Int)) (v_second : (Nat → Int)) (v_sort : (Nat → Int)) (v_sumEnd : (Nat → Int)) (v_sumFrom : (Nat → Int)) (v_testEnd : (Nat → Int)) (v_voidAt : (Nat → Int)) (self : Int → Int → Int → Int → Int → Int → Int → Int → Int → Int → (Nat → Int) → (Nat → Int) → Option R_iM_rolls) (x3 : Int) (v_allowed : Int) (v_debt : Int) (v_farms : Int) (v_isBlanchedNow : Int) (v_now : Int) (v_paid : Int) (v_paidTold : Int) (v_pardoned : Int) (v_piled : Int) (v_shireNow : Int) (v_off : (Nat → Int)) (v_pile : (Nat → Int)) : Option R_iM_rolls :=
  gd (jr (x3 + 1)) <|
  self (x3 + 1) v_allowed v_debt v_farms v_isBlanchedNow v_now v_paid v_paid v_pardoned v_piled v_off v_pile
def iM_rolls_b118 (N : Nat) (a1 : Int) (a2 : Int) (v_acts : Int) (v_knownAt : Int) (v_movedAct : Int) (v_movedTerm : Int) (v_without : Int) (v_actKind : (Nat → Int)) (v_actNumber : (Nat → Int)) (v_actShire : (Nat → Int)) (v_actTerm : (Nat → Int)) (v_codes : (Nat → Int)) (v_cutWorth : (Nat → Int)) (v_cuts : (Nat → Int)) (v_first : (Nat → Int)) (v_isBlanched : (Nat → Int)) (v_many : (Nat → Int)) (v_mates : (Nat → Int)) (v_pence : (Nat → Int)) (v_second : (Nat → Int)) (v_sort : (Nat → Int)) (v_sumEnd : (Nat → Int)) (v_sumFrom : (Nat → Int)) (v_testEnd : (Nat → Int)) (v_voidAt : (Nat → Int)) (self : Int → Int → Int → Int → Int → Int → Int → Int → Int → Int → (Nat → Int) → (Nat → Int) → Option R_iM_rolls) (x3 : Int) (x4 : Int) (v_allowed : Int) (v_debt : Int) (v_farms : Int) (v_isBlanchedNow : Int) (v_now : Int) (v_paid : Int) (v_paidTold : Int) (v_pardoned : Int) (v_piled : Int) (v_shireNow : Int) (v_off : (Nat → Int)) (v_pile : (Nat → Int)) : Option R_iM_rolls :=
  bd2 (iM_takesPayments N v_acts v_debt v_isBlanchedNow v_knownAt v_movedAct v_movedTerm v_now v_paid v_shireNow v_without v_actKind v_actNumber v_actShire v_actTerm v_cutWorth v_cuts v_mates v_pence v_voidAt) fun v_debt_c4 v_paid_c4 =>
  if x4 ≤ 0 then
    iM_rolls_b134 N a1 a2 v_acts v_knownAt v_movedAct v_movedTerm v_without v_actKind v_actNumber v_actShire v_actTerm v_codes v_cutWorth v_cuts v_first v_isBlanched v_many v_mates v_pence v_second v_sort v_sumEnd v_sumFrom v_testEnd v_voidAt self x3 v_allowed v_debt_c4 v_farms v_isBlanchedNow v_now v_paid_c4 v_paidTold v_pardoned v_piled v_shireNow v_off v_pile
  else
    bd8 (iM_does N x4 3 v_allowed v_debt_c4 v_farms v_isBlanchedNow v_now v_paid_c4 v_pardoned v_piled v_shireNow v_codes v_first v_isBlanched v_many v_off v_pile v_second v_sort v_sumEnd v_sumFrom v_testEnd) fun v_allowed_c5 v_debt_c5 v_farms_c5 v_isBlanchedNow_c5 v_pardoned_c5 v_piled_c5 v_off_c5 v_pile_c5 =>
    iM_rolls_b134 N a1 a2 v_acts v_knownAt v_movedAct v_movedTerm v_without v_actKind v_actNumber v_actShire v_actTerm v_codes v_cutWorth v_cuts v_first v_isBlanched v_many v_mates v_pence v_second v_sort v_sumEnd v_sumFrom v_testEnd v_voidAt self x3 v_allowed_c5 v_debt_c5 v_farms_c5 v_isBlanchedNow_c5 v_now v_paid_c4 v_paidTold v_pardoned_c5 v_piled_c5 v_shireNow v_off_c5 v_pile_c5
def iM_rolls_b98_F (N : Nat) (a1 : Int) (a2 : Int) (v_acts : Int) (v_knownAt : Int) (v_movedAct : Int) (v_movedTerm : Int) (v_without : Int) (v_actKind : (Nat → Int)) (v_actNumber : (Nat → Int)) (v_actShire : (Nat → Int)) (v_actTerm : (Nat → Int)) (v_codes : (Nat → Int)) (v_cutWorth : (Nat → Int)) (v_cuts : (Nat → Int)) (v_first : (Nat → Int)) (v_isBlanched : (Nat → Int)) (v_many : (Nat → Int)) (v_mates : (Nat → Int)) (v_pence : (Nat → Int)) (v_second : (Nat → Int)) (v_sort : (Nat → Int)) (v_sumEnd : (Nat → Int)) (v_sumFrom : (Nat → Int)) (v_testEnd : (Nat → Int)) (v_voidAt : (Nat → Int)) (x3 : Int) (x4 : Int) (v_now : Int) (v_paid : Int) (v_paidTold : Int) (v_shireNow : Int) (k118 : Int → Int → Int → Int → Int → Int → (Nat → Int) → (Nat → Int) → Option R_iM_rolls) (self : Int → Int → Int → Int → Int → Int → Int → (Nat → Int) → (Nat → Int) → Option R_iM_rolls) (x5 : Int) (v_allowed : Int) (v_debt : Int) (v_farms : Int) (v_isBlanchedNow : Int) (v_pardoned : Int) (v_piled : Int) (v_off : (Nat → Int)) (v_pile : (Nat → Int)) : Option R_iM_rolls :=
  if 2 < x5 then
    k118 v_allowed v_debt v_farms v_isBlanchedNow v_pardoned v_piled v_off v_pile
  else
    bd8 (iM_does N x4 x5 v_allowed v_debt v_farms v_isBlanchedNow v_now v_paid v_pardoned v_piled v_shireNow v_codes v_first v_isBlanched v_many v_off v_pile v_second v_sort v_sumEnd v_sumFrom v_testEnd) fun v_allowed_c6 v_debt_c6 v_farms_c6 v_isBlanchedNow_c6 v_pardoned_c6 v_piled_c6 v_off_c6 v_pile_c6 =>
    gd (jr (x5 + 1)) <|
    self (x5 + 1) v_allowed_c6 v_debt_c6 v_farms_c6 v_isBlanchedNow_c6 v_pardoned_c6 v_piled_c6 v_off_c6 v_pile_c6
def iM_rolls_b98 (N : Nat) (a1 : Int) (a2 : Int) (v_acts : Int) (v_knownAt : Int) (v_movedAct : Int) (v_movedTerm : Int) (v_without : Int) (v_actKind : (Nat → Int)) (v_actNumber : (Nat → Int)) (v_actShire : (Nat → Int)) (v_actTerm : (Nat → Int)) (v_codes : (Nat → Int)) (v_cutWorth : (Nat → Int)) (v_cuts : (Nat → Int)) (v_first : (Nat → Int)) (v_isBlanched : (Nat → Int)) (v_many : (Nat → Int)) (v_mates : (Nat → Int)) (v_pence : (Nat → Int)) (v_second : (Nat → Int)) (v_sort : (Nat → Int)) (v_sumEnd : (Nat → Int)) (v_sumFrom : (Nat → Int)) (v_testEnd : (Nat → Int)) (v_voidAt : (Nat → Int)) (x3 : Int) (x4 : Int) (v_now : Int) (v_paid : Int) (v_paidTold : Int) (v_shireNow : Int) (k118 : Int → Int → Int → Int → Int → Int → (Nat → Int) → (Nat → Int) → Option R_iM_rolls) : Nat → Int → Int → Int → Int → Int → Int → Int → (Nat → Int) → (Nat → Int) → Option R_iM_rolls := zlp9 (iM_rolls_b98_F N a1 a2 v_acts v_knownAt v_movedAct v_movedTerm v_without v_actKind v_actNumber v_actShire v_actTerm v_codes v_cutWorth v_cuts v_first v_isBlanched v_many v_mates v_pence v_second v_sort v_sumEnd v_sumFrom v_testEnd v_voidAt x3 x4 v_now v_paid v_paidTold v_shireNow k118)
def iM_rolls_b33_F (N : Nat) (a1 : Int) (a2 : Int) (v_acts : Int) (v_knownAt : Int) (v_movedAct : Int) (v_movedTerm : Int) (v_without : Int) (v_actKind : (Nat → Int)) (v_actNumber : (Nat → Int)) (v_actShire : (Nat → Int)) (v_actTerm : (Nat → Int)) (v_codes : (Nat → Int)) (v_cutWorth : (Nat → Int)) (v_cuts : (Nat → Int)) (v_first : (Nat → Int)) (v_isBlanched : (Nat → Int)) (v_many : (Nat → Int)) (v_mates : (Nat → Int)) (v_pence : (Nat → Int)) (v_second : (Nat → Int)) (v_sort : (Nat → Int)) (v_sumEnd : (Nat → Int)) (v_sumFrom : (Nat → Int)) (v_testEnd : (Nat → Int)) (v_voidAt : (Nat → Int)) (v_shireNow : Int) (self : Int → Int → Int → Int → Int → Int → Int → Int → Int → Int → (Nat → Int) → (Nat → Int) → Option R_iM_rolls) (x3 : Int) (v_allowed : Int) (v_debt : Int) (v_farms : Int) (v_isBlanchedNow : Int) (v_now : Int) (v_paid : Int) (v_paidTold : Int) (v_pardoned : Int) (v_piled : Int) (v_off : (Nat → Int)) (v_pile : (Nat → Int)) : Option R_iM_rolls :=
  if a2 < x3 then
    some (v_debt, v_allowed, v_debt, v_farms, v_isBlanchedNow, v_now, v_paid, v_paidTold, v_pardoned, v_piled, v_shireNow, v_off, v_pile)
  else
    gd (jb x3 60) <|
    bd1 (iM_writOf N x3 v_acts v_knownAt v_without v_actKind v_actTerm v_voidAt) fun rc3 =>
    if rc3 ≤ 0 then
      gd (jR (v_debt + (v_off x3.toNat))) <|
      iM_rolls_b118 N a1 a2 v_acts v_knownAt v_movedAct v_movedTerm v_without v_actKind v_actNumber v_actShire v_actTerm v_codes v_cutWorth v_cuts v_first v_isBlanched v_many v_mates v_pence v_second v_sort v_sumEnd v_sumFrom v_testEnd v_voidAt self x3 rc3 0 (v_debt + (v_off x3.toNat)) 0 0 x3 0 v_paidTold 0 v_piled v_shireNow v_off v_pile
    else
      gd (jR (v_debt + (v_off x3.toNat))) <|
      iM_rolls_b98 N a1 a2 v_acts v_knownAt v_movedAct v_movedTerm v_without v_actKind v_actNumber v_actShire v_actTerm v_codes v_cutWorth v_cuts v_first v_isBlanched v_many v_mates v_pence v_second v_sort v_sumEnd v_sumFrom v_testEnd v_voidAt x3 rc3 x3 0 v_paidTold v_shireNow (fun v_allowed_k2 v_debt_k3 v_farms_k4 v_isBlanchedNow_k5 v_pardoned_k6 v_piled_k7 e39_ e40_ => iM_rolls_b118 N a1 a2 v_acts v_knownAt v_movedAct v_movedTerm v_without v_actKind v_actNumber v_actShire v_actTerm v_codes v_cutWorth v_cuts v_first v_isBlanched v_many v_mates v_pence v_second v_sort v_sumEnd v_sumFrom v_testEnd v_voidAt self x3 rc3 v_allowed_k2 v_debt_k3 v_farms_k4 v_isBlanchedNow_k5 x3 0 v_paidTold v_pardoned_k6 v_piled_k7 v_shireNow e39_ e40_) N 0 0 (v_debt + (v_off x3.toNat)) 0 0 0 v_piled v_off v_pile
def iM_rolls_b33 (N : Nat) (a1 : Int) (a2 : Int) (v_acts : Int) (v_knownAt : Int) (v_movedAct : Int) (v_movedTerm : Int) (v_without : Int) (v_actKind : (Nat → Int)) (v_actNumber : (Nat → Int)) (v_actShire : (Nat → Int)) (v_actTerm : (Nat → Int)) (v_codes : (Nat → Int)) (v_cutWorth : (Nat → Int)) (v_cuts : (Nat → Int)) (v_first : (Nat → Int)) (v_isBlanched : (Nat → Int)) (v_many : (Nat → Int)) (v_mates : (Nat → Int)) (v_pence : (Nat → Int)) (v_second : (Nat → Int)) (v_sort : (Nat → Int)) (v_sumEnd : (Nat → Int)) (v_sumFrom : (Nat → Int)) (v_testEnd : (Nat → Int)) (v_voidAt : (Nat → Int)) (v_shireNow : Int) : Nat → Int → Int → Int → Int → Int → Int → Int → Int → Int → Int → (Nat → Int) → (Nat → Int) → Option R_iM_rolls := zlp12 (iM_rolls_b33_F N a1 a2 v_acts v_knownAt v_movedAct v_movedTerm v_without v_actKind v_actNumber v_actShire v_actTerm v_codes v_cutWorth v_cuts v_first v_isBlanched v_many v_mates v_pence v_second v_sort v_sumEnd v_sumFrom v_testEnd v_voidAt v_shireNow)
def iM_rolls_b21 (N : Nat) (a1 : Int) (a2 : Int) (v_acts : Int) (v_knownAt : Int) (v_movedAct : Int) (v_movedTerm : Int) (v_without : Int) (v_actKind : (Nat → Int)) (v_actNumber : (Nat → Int)) (v_actShire : (Nat → Int)) (v_actTerm : (Nat → Int)) (v_codes : (Nat → Int)) (v_cutWorth : (Nat → Int)) (v_cuts : (Nat → Int)) (v_first : (Nat → Int)) (v_isBlanched : (Nat → Int)) (v_many : (Nat → Int)) (v_mates : (Nat → Int)) (v_pence : (Nat → Int)) (v_second : (Nat → Int)) (v_sort : (Nat → Int)) (v_sumEnd : (Nat → Int)) (v_sumFrom : (Nat → Int)) (v_testEnd : (Nat → Int)) (v_voidAt : (Nat → Int)) (v_allowed : Int) (v_debt : Int) (v_farms : Int) (v_isBlanchedNow : Int) (v_now : Int) (v_paid : Int) (v_paidTold : Int) (v_pardoned : Int) (v_piled : Int) (v_shireNow : Int) (v_off : (Nat → Int)) (v_pile : (Nat → Int)) : Option R_iM_rolls :=
  iM_rolls_b33 N a1 a2 v_acts v_knownAt v_movedAct v_movedTerm v_without v_actKind v_actNumber v_actShire v_actTerm v_codes v_cutWorth v_cuts v_first v_isBlanched v_many v_mates v_pence v_second v_sort v_sumEnd v_sumFrom v_testEnd v_voidAt a1 N 0 v_allowed 0 v_farms v_isBlanchedNow v_now v_paid v_paidTold v_pardoned v_piled v_off v_pile
def iM_rolls (N : Nat) (a1 : Int) (a2 : Int) (v_acts : Int) (v_allowed : Int) (v_debt : Int) (v_farms : Int) (v_isBlanchedNow : Int) (v_knownAt : Int) (v_movedAct : Int) (v_movedTerm : Int) (v_now : Int) (v_paid : Int) (v_paidTold : Int) (v_pardoned : Int) (v_piled : Int) (v_shireNow : Int) (v_without : Int) (v_actKind : (Nat → Int)) (v_actNumber : (Nat → Int)) (v_actShire : (Nat → Int)) (v_actTerm : (Nat → Int)) (v_codes : (Nat → Int)) (v_cutWorth : (Nat → Int)) (v_cuts : (Nat → Int)) (v_first : (Nat → Int)) (v_isBlanched : (Nat → Int)) (v_many : (Nat → Int)) (v_mates : (Nat → Int)) (v_off : (Nat → Int)) (v_pence : (Nat → Int)) (v_pile : (Nat → Int)) (v_second : (Nat → Int)) (v_sort : (Nat → Int)) (v_sumEnd : (Nat → Int)) (v_sumFrom : (Nat → Int)) (v_testEnd : (Nat → Int)) (v_voidAt : (Nat → Int)) : Option R_iM_rolls :=
  iM_rolls_b2 N a1 a2 v_acts v_knownAt v_movedAct v_movedTerm v_without v_actKind v_actNumber v_actShire v_actTerm v_codes v_cutWorth v_cuts v_first v_isBlanched v_many v_mates v_pence v_second v_sort v_sumEnd v_sumFrom v_testEnd v_voidAt v_allowed v_debt v_farms v_isBlanchedNow v_now v_paid v_paidTold v_pardoned v_piled v_shireNow v_pile (fun v_off_k1 => iM_rolls_b21 N a1 a2 v_acts v_knownAt v_movedAct v_movedTerm v_without v_actKind v_actNumber v_actShire v_actTerm v_codes v_cutWorth v_cuts v_first v_isBlanched v_many v_mates v_pence v_second v_sort v_sumEnd v_sumFrom v_testEnd v_voidAt v_allowed v_debt v_farms v_isBlanchedNow v_now v_paid v_paidTold v_pardoned v_piled v_shireNow v_off_k1 v_pile) N 0 v_off
def iM_putOff_b7_F (N : Nat) (a1 : Int) (v_off : (Nat → Int)) (self : Int → Int → Option Int) (x2 : Int) (x4 : Int) : Option Int :=
  if 60 ≤ x4 then
    some x2
  else
    gd (jb x4 60) <|
    gd (jR (x2 + (v_off x4.toNat))) <|
    gd (jr (x4 + 1)) <|
    self (x2 + (v_off x4.toNat)) (x4 + 1)
def iM_putOff_b7 (N : Nat) (a1 : Int) (v_off : (Nat → Int)) : Nat → Int → Int → Option Int := zlp2 (iM_putOff_b7_F N a1 v_off)
def iM_putOff (N : Nat) (a1 : Int) (v_off : (Nat → Int)) : Option Int :=
  gd (jr (a1 + 1)) <|
  iM_putOff_b7 N a1 v_off N 0 (a1 + 1)
abbrev R_iM_roll : Type := Int × Int × Int × Int × Int × Int × Int × Int × Int × Int × Int × Int × Int × Int × (Nat → Int) × (Nat → Int) × (Nat → Int) × (Nat → Int) × (Nat → Int) × (Nat → Int)
def iM_roll_b26 (N : Nat) (a1 : Int) (a2 : Int) (a3 : Int) (v_acts : Int) (v_as : Int) (v_grain : Int) (v_limit : Int) (v_lost : Int) (v_movedTerm : Int) (v_actKind : (Nat → Int)) (v_actNumber : (Nat → Int)) (v_actShire : (Nat → Int)) (v_actTerm : (Nat → Int)) (v_codes : (Nat → Int)) (v_cutAt : (Nat → Int)) (v_cutWorth : (Nat → Int)) (v_cuts : (Nat → Int)) (v_first : (Nat → Int)) (v_isBlanched : (Nat → Int)) (v_many : (Nat → Int)) (v_pence : (Nat → Int)) (v_second : (Nat → Int)) (v_sort : (Nat → Int)) (v_sumEnd : (Nat → Int)) (v_sumFrom : (Nat → Int)) (v_testEnd : (Nat → Int)) (v_voidAt : (Nat → Int)) (v_allowed : Int) (v_debt : Int) (v_farms : Int) (v_isBlanchedNow : Int) (v_knownAt : Int) (v_movedAct : Int) (v_now : Int) (v_paid : Int) (v_paidTold : Int) (v_pardoned : Int) (v_piled : Int) (v_shireNow : Int) (v_without : Int) (v_best : (Nat → Int)) (v_cost : (Nat → Int)) (v_fits : (Nat → Int)) (v_mates : (Nat → Int)) (v_off : (Nat → Int)) (v_pile : (Nat → Int)) : Option R_iM_roll :=
  some ((-2000000000000), v_allowed, v_debt, v_farms, v_isBlanchedNow, v_knownAt, v_movedAct, v_now, v_paid, v_paidTold, v_pardoned, v_piled, v_shireNow, v_without, v_best, v_cost, v_fits, v_mates, v_off, v_pile)
def iM_roll (N : Nat) (a1 : Int) (a2 : Int) (a3 : Int) (v_acts : Int) (v_allowed : Int) (v_as : Int) (v_debt : Int) (v_farms : Int) (v_grain : Int) (v_isBlanchedNow : Int) (v_knownAt : Int) (v_limit : Int) (v_lost : Int) (v_movedAct : Int) (v_movedTerm : Int) (v_now : Int) (v_paid : Int) (v_paidTold : Int) (v_pardoned : Int) (v_piled : Int) (v_shireNow : Int) (v_without : Int) (v_actKind : (Nat → Int)) (v_actNumber : (Nat → Int)) (v_actShire : (Nat → Int)) (v_actTerm : (Nat → Int)) (v_best : (Nat → Int)) (v_codes : (Nat → Int)) (v_cost : (Nat → Int)) (v_cutAt : (Nat → Int)) (v_cutWorth : (Nat → Int)) (v_cuts : (Nat → Int)) (v_first : (Nat → Int)) (v_fits : (Nat → Int)) (v_isBlanched : (Nat → Int)) (v_many : (Nat → Int)) (v_mates : (Nat → Int)) (v_off : (Nat → Int)) (v_pence : (Nat → Int)) (v_pile : (Nat → Int)) (v_second : (Nat → Int)) (v_sort : (Nat → Int)) (v_sumEnd : (Nat → Int)) (v_sumFrom : (Nat → Int)) (v_testEnd : (Nat → Int)) (v_voidAt : (Nat → Int)) : Option R_iM_roll :=
  bd1 (iM_isShire a1) fun rc1 =>
  if rc1 = 0 then
    iM_roll_b26 N a1 a2 a3 v_acts v_as v_grain v_limit v_lost v_movedTerm v_actKind v_actNumber v_actShire v_actTerm v_codes v_cutAt v_cutWorth v_cuts v_first v_isBlanched v_many v_pence v_second v_sort v_sumEnd v_sumFrom v_testEnd v_voidAt v_allowed v_debt v_farms v_isBlanchedNow v_knownAt v_movedAct v_now v_paid v_paidTold v_pardoned v_piled v_shireNow v_without v_best v_cost v_fits v_mates v_off v_pile
  else
    bd1 (iM_isTerm a2) fun rc2 =>
    if rc2 = 0 then
      iM_roll_b26 N a1 a2 a3 v_acts v_as v_grain v_limit v_lost v_movedTerm v_actKind v_actNumber v_actShire v_actTerm v_codes v_cutAt v_cutWorth v_cuts v_first v_isBlanched v_many v_pence v_second v_sort v_sumEnd v_sumFrom v_testEnd v_voidAt v_allowed v_debt v_farms v_isBlanchedNow v_knownAt v_movedAct v_now v_paid v_paidTold v_pardoned v_piled v_shireNow v_without v_best v_cost v_fits v_mates v_off v_pile
    else
      bd1 (iM_isIn a3 0 6) fun rc3 =>
      if rc3 = 0 then
        iM_roll_b26 N a1 a2 a3 v_acts v_as v_grain v_limit v_lost v_movedTerm v_actKind v_actNumber v_actShire v_actTerm v_codes v_cutAt v_cutWorth v_cuts v_first v_isBlanched v_many v_pence v_second v_sort v_sumEnd v_sumFrom v_testEnd v_voidAt v_allowed v_debt v_farms v_isBlanchedNow v_knownAt v_movedAct v_now v_paid v_paidTold v_pardoned v_piled v_shireNow v_without v_best v_cost v_fits v_mates v_off v_pile
      else
        bd4 (iM_matches N v_grain v_limit v_lost v_best v_cost v_cutAt v_cutWorth v_cuts v_fits v_mates) fun v_best_c4 v_cost_c4 v_fits_c4 v_mates_c4 =>
        bd1 (iM_asNow v_acts v_as) fun rc5 =>
        bd3 (iM_tellsAsKnown rc5 v_knownAt v_movedAct v_without) fun v_knownAt_c6 v_movedAct_c6 v_without_c6 =>
        bd13 (iM_rolls N a1 a2 v_acts v_allowed v_debt v_farms v_isBlanchedNow v_knownAt_c6 v_movedAct_c6 v_movedTerm v_now v_paid v_paidTold v_pardoned v_piled v_shireNow v_without_c6 v_actKind v_actNumber v_actShire v_actTerm v_codes v_cutWorth v_cuts v_first v_isBlanched v_many v_mates_c4 v_off v_pence v_pile v_second v_sort v_sumEnd v_sumFrom v_testEnd v_voidAt) fun rc7 v_allowed_c7 v_debt_c7 v_farms_c7 v_isBlanchedNow_c7 v_now_c7 v_paid_c7 v_paidTold_c7 v_pardoned_c7 v_piled_c7 v_shireNow_c7 v_off_c7 v_pile_c7 =>
        if a3 = 0 then
          some (rc7, v_allowed_c7, v_debt_c7, v_farms_c7, v_isBlanchedNow_c7, v_knownAt_c6, v_movedAct_c6, v_now_c7, v_paid_c7, v_paidTold_c7, v_pardoned_c7, v_piled_c7, v_shireNow_c7, v_without_c6, v_best_c4, v_cost_c4, v_fits_c4, v_mates_c4, v_off_c7, v_pile_c7)
        else
          if a3 = 1 then
            bd1 (iM_putOff N a2 v_off_c7) fun rc8 =>
            some (rc8, v_allowed_c7, v_debt_c7, v_farms_c7, v_isBlanchedNow_c7, v_knownAt_c6, v_movedAct_c6, v_now_c7, v_paid_c7, v_paidTold_c7, v_pardoned_c7, v_piled_c7, v_shireNow_c7, v_without_c6, v_best_c4, v_cost_c4, v_fits_c4, v_mates_c4, v_off_c7, v_pile_c7)
          else
            if a3 = 2 then
              some (v_farms_c7, v_allowed_c7, v_debt_c7, v_farms_c7, v_isBlanchedNow_c7, v_knownAt_c6, v_movedAct_c6, v_now_c7, v_paid_c7, v_paidTold_c7, v_pardoned_c7, v_piled_c7, v_shireNow_c7, v_without_c6, v_best_c4, v_cost_c4, v_fits_c4, v_mates_c4, v_off_c7, v_pile_c7)
            else
              if a3 = 3 then
                some (v_allowed_c7, v_allowed_c7, v_debt_c7, v_farms_c7, v_isBlanchedNow_c7, v_knownAt_c6, v_movedAct_c6, v_now_c7, v_paid_c7, v_paidTold_c7, v_pardoned_c7, v_piled_c7, v_shireNow_c7, v_without_c6, v_best_c4, v_cost_c4, v_fits_c4, v_mates_c4, v_off_c7, v_pile_c7)
              else
                if a3 = 4 then
                  some (v_pardoned_c7, v_allowed_c7, v_debt_c7, v_farms_c7, v_isBlanchedNow_c7, v_knownAt_c6, v_movedAct_c6, v_now_c7, v_paid_c7, v_paidTold_c7, v_pardoned_c7, v_piled_c7, v_shireNow_c7, v_without_c6, v_best_c4, v_cost_c4, v_fits_c4, v_mates_c4, v_off_c7, v_pile_c7)
                else
                  if a3 = 5 then
                    some (v_paidTold_c7, v_allowed_c7, v_debt_c7, v_farms_c7, v_isBlanchedNow_c7, v_knownAt_c6, v_movedAct_c6, v_now_c7, v_paid_c7, v_paidTold_c7, v_pardoned_c7, v_piled_c7, v_shireNow_c7, v_without_c6, v_best_c4, v_cost_c4, v_fits_c4, v_mates_c4, v_off_c7, v_pile_c7)
                  else
                    if 0 < rc7 then
                      some (0, v_allowed_c7, v_debt_c7, v_farms_c7, v_isBlanchedNow_c7, v_knownAt_c6, v_movedAct_c6, v_now_c7, v_paid_c7, v_paidTold_c7, v_pardoned_c7, v_piled_c7, v_shireNow_c7, v_without_c6, v_best_c4, v_cost_c4, v_fits_c4, v_mates_c4, v_off_c7, v_pile_c7)
                    else
                      bd1 (iM_putOff N a2 v_off_c7) fun rc9 =>
                      if rc9 = 0 then
                        some (1, v_allowed_c7, v_debt_c7, v_farms_c7, v_isBlanchedNow_c7, v_knownAt_c6, v_movedAct_c6, v_now_c7, v_paid_c7, v_paidTold_c7, v_pardoned_c7, v_piled_c7, v_shireNow_c7, v_without_c6, v_best_c4, v_cost_c4, v_fits_c4, v_mates_c4, v_off_c7, v_pile_c7)
                      else
                        some (0, v_allowed_c7, v_debt_c7, v_farms_c7, v_isBlanchedNow_c7, v_knownAt_c6, v_movedAct_c6, v_now_c7, v_paid_c7, v_paidTold_c7, v_pardoned_c7, v_piled_c7, v_shireNow_c7, v_without_c6, v_best_c4, v_cost_c4, v_fits_c4, v_mates_c4, v_off_c7, v_pile_c7)
abbrev R_iM_owed : Type := Int × Int × Int × Int × Int × Int × Int × Int × Int × Int × Int × Int × Int × Int × (Nat → Int) × (Nat → Int) × (Nat → Int) × (Nat → Int) × (Nat → Int) × (Nat → Int)
def iM_owed_b28_F (N : Nat) (a1 : Int) (v_acts : Int) (v_as : Int) (v_grain : Int) (v_limit : Int) (v_lost : Int) (v_movedTerm : Int) (v_actKind : (Nat → Int)) (v_actNumber : (Nat → Int)) (v_actShire : (Nat → Int)) (v_actTerm : (Nat → Int)) (v_codes : (Nat → Int)) (v_cutAt : (Nat → Int)) (v_cutWorth : (Nat → Int)) (v_cuts : (Nat → Int)) (v_first : (Nat → Int)) (v_isBlanched : (Nat → Int)) (v_many : (Nat → Int)) (v_pence : (Nat → Int)) (v_second : (Nat → Int)) (v_sort : (Nat → Int)) (v_sumEnd : (Nat → Int)) (v_sumFrom : (Nat → Int)) (v_testEnd : (Nat → Int)) (v_voidAt : (Nat → Int)) (v_knownAt : Int) (v_movedAct : Int) (v_without : Int) (v_best : (Nat → Int)) (v_cost : (Nat → Int)) (v_fits : (Nat → Int)) (v_mates : (Nat → Int)) (self : Int → Int → Int → Int → Int → Int → Int → Int → Int → Int → Int → Int → (Nat → Int) → (Nat → Int) → Option R_iM_owed) (x2 : Int) (x4 : Int) (v_allowed : Int) (v_debt : Int) (v_farms : Int) (v_isBlanchedNow : Int) (v_now : Int) (v_paid : Int) (v_paidTold : Int) (v_pardoned : Int) (v_piled : Int) (v_shireNow : Int) (v_off : (Nat → Int)) (v_pile : (Nat → Int)) : Option R_iM_owed :=
  if 8 ≤ x4 then
    some (x2, v_allowed, v_debt, v_farms, v_isBlanchedNow, v_knownAt, v_movedAct, v_now, v_paid, v_paidTold, v_pardoned, v_piled, v_shireNow, v_without, v_best, v_cost, v_fits, v_mates, v_off, v_pile)
  else
    bd13 (iM_rolls N x4 a1 v_acts v_allowed v_debt v_farms v_isBlanchedNow v_knownAt v_movedAct v_movedTerm v_now v_paid v_paidTold v_pardoned v_piled v_shireNow v_without v_actKind v_actNumber v_actShire v_actTerm v_codes v_cutWorth v_cuts v_first v_isBlanched v_many v_mates v_off v_pence v_pile v_second v_sort v_sumEnd v_sumFrom v_testEnd v_voidAt) fun rc5 v_allowed_c5 v_debt_c5 v_farms_c5 v_isBlanchedNow_c5 v_now_c5 v_paid_c5 v_paidTold_c5 v_pardoned_c5 v_piled_c5 v_shireNow_c5 v_off_c5 v_pile_c5 =>
    if rc5 ≤ 0 then
      gd (jr (x4 + 1)) <|
      self x2 (x4 + 1) v_allowed_c5 v_debt_c5 v_farms_c5 v_isBlanchedNow_c5 v_now_c5 v_paid_c5 v_paidTold_c5 v_pardoned_c5 v_piled_c5 v_shireNow_c5 v_off_c5 v_pile_c5
    else
      gd (jR (x2 + rc5)) <|
      gd (jr (x4 + 1)) <|
      self (x2 + rc5) (x4 + 1) v_allowed_c5 v_debt_c5 v_farms_c5 v_isBlanchedNow_c5 v_now_c5 v_paid_c5 v_paidTold_c5 v_pardoned_c5 v_piled_c5 v_shireNow_c5 v_off_c5 v_pile_c5
def iM_owed_b28 (N : Nat) (a1 : Int) (v_acts : Int) (v_as : Int) (v_grain : Int) (v_limit : Int) (v_lost : Int) (v_movedTerm : Int) (v_actKind : (Nat → Int)) (v_actNumber : (Nat → Int)) (v_actShire : (Nat → Int)) (v_actTerm : (Nat → Int)) (v_codes : (Nat → Int)) (v_cutAt : (Nat → Int)) (v_cutWorth : (Nat → Int)) (v_cuts : (Nat → Int)) (v_first : (Nat → Int)) (v_isBlanched : (Nat → Int)) (v_many : (Nat → Int)) (v_pence : (Nat → Int)) (v_second : (Nat → Int)) (v_sort : (Nat → Int)) (v_sumEnd : (Nat → Int)) (v_sumFrom : (Nat → Int)) (v_testEnd : (Nat → Int)) (v_voidAt : (Nat → Int)) (v_knownAt : Int) (v_movedAct : Int) (v_without : Int) (v_best : (Nat → Int)) (v_cost : (Nat → Int)) (v_fits : (Nat → Int)) (v_mates : (Nat → Int)) : Nat → Int → Int → Int → Int → Int → Int → Int → Int → Int → Int → Int → Int → (Nat → Int) → (Nat → Int) → Option R_iM_owed := zlp14 (iM_owed_b28_F N a1 v_acts v_as v_grain v_limit v_lost v_movedTerm v_actKind v_actNumber v_actShire v_actTerm v_codes v_cutAt v_cutWorth v_cuts v_first v_isBlanched v_many v_pence v_second v_sort v_sumEnd v_sumFrom v_testEnd v_voidAt v_knownAt v_movedAct v_without v_best v_cost v_fits v_mates)
def iM_owed (N : Nat) (a1 : Int) (v_acts : Int) (v_allowed : Int) (v_as : Int) (v_debt : Int) (v_farms : Int) (v_grain : Int) (v_isBlanchedNow : Int) (v_knownAt : Int) (v_limit : Int) (v_lost : Int) (v_movedAct : Int) (v_movedTerm : Int) (v_now : Int) (v_paid : Int) (v_paidTold : Int) (v_pardoned : Int) (v_piled : Int) (v_shireNow : Int) (v_without : Int) (v_actKind : (Nat → Int)) (v_actNumber : (Nat → Int)) (v_actShire : (Nat → Int)) (v_actTerm : (Nat → Int)) (v_best : (Nat → Int)) (v_codes : (Nat → Int)) (v_cost : (Nat → Int)) (v_cutAt : (Nat → Int)) (v_cutWorth : (Nat → Int)) (v_cuts : (Nat → Int)) (v_first : (Nat → Int)) (v_fits : (Nat → Int)) (v_isBlanched : (Nat → Int)) (v_many : (Nat → Int)) (v_mates : (Nat → Int)) (v_off : (Nat → Int)) (v_pence : (Nat → Int)) (v_pile : (Nat → Int)) (v_second : (Nat → Int)) (v_sort : (Nat → Int)) (v_sumEnd : (Nat → Int)) (v_sumFrom : (Nat → Int)) (v_testEnd : (Nat → Int)) (v_voidAt : (Nat → Int)) : Option R_iM_owed :=
  bd1 (iM_isTerm a1) fun rc1 =>
  if rc1 = 0 then
    some ((-1), v_allowed, v_debt, v_farms, v_isBlanchedNow, v_knownAt, v_movedAct, v_now, v_paid, v_paidTold, v_pardoned, v_piled, v_shireNow, v_without, v_best, v_cost, v_fits, v_mates, v_off, v_pile)
  else
    bd4 (iM_matches N v_grain v_limit v_lost v_best v_cost v_cutAt v_cutWorth v_cuts v_fits v_mates) fun v_best_c2 v_cost_c2 v_fits_c2 v_mates_c2 =>
    bd1 (iM_asNow v_acts v_as) fun rc3 =>
    bd3 (iM_tellsAsKnown rc3 v_knownAt v_movedAct v_without) fun v_knownAt_c4 v_movedAct_c4 v_without_c4 =>
    iM_owed_b28 N a1 v_acts v_as v_grain v_limit v_lost v_movedTerm v_actKind v_actNumber v_actShire v_actTerm v_codes v_cutAt v_cutWorth v_cuts v_first v_isBlanched v_many v_pence v_second v_sort v_sumEnd v_sumFrom v_testEnd v_voidAt v_knownAt_c4 v_movedAct_c4 v_without_c4 v_best_c2 v_cost_c2 v_fits_c2 v_mates_c2 N 0 0 v_allowed v_debt v_farms v_isBlanchedNow v_now v_paid v_paidTold v_pardoned v_piled v_shireNow v_off v_pile
abbrev R_iM_slip : Type := Int × Int × Int × Int × Int × Int × Int × Int × Int × Int × Int × Int × Int × Int × Int × Int × (Nat → Int) × (Nat → Int) × (Nat → Int) × (Nat → Int) × (Nat → Int) × (Nat → Int)
def iM_slip_b50_F (N : Nat) (a1 : Int) (a2 : Int) (a3 : Int) (v_acts : Int) (v_as : Int) (v_grain : Int) (v_limit : Int) (v_lost : Int) (v_actKind : (Nat → Int)) (v_actNumber : (Nat → Int)) (v_actShire : (Nat → Int)) (v_actTerm : (Nat → Int)) (v_codes : (Nat → Int)) (v_cutAt : (Nat → Int)) (v_cutWorth : (Nat → Int)) (v_cuts : (Nat → Int)) (v_first : (Nat → Int)) (v_isBlanched : (Nat → Int)) (v_many : (Nat → Int)) (v_pence : (Nat → Int)) (v_second : (Nat → Int)) (v_sort : (Nat → Int)) (v_sumEnd : (Nat → Int)) (v_sumFrom : (Nat → Int)) (v_testEnd : (Nat → Int)) (v_voidAt : (Nat → Int)) (v_knownAt : Int) (v_moved : Int) (v_movedAct : Int) (v_movedTerm : Int) (v_best : (Nat → Int)) (v_cost : (Nat → Int)) (v_fits : (Nat → Int)) (v_mates : (Nat → Int)) (k113 : Int → Int → Int → Int → Int → Int → Int → Int → Int → Int → Int → (Nat → Int) → (Nat → Int) → Option R_iM_slip) (self : Int → Int → Int → Int → Int → Int → Int → Int → Int → Int → Int → Int → (Nat → Int) → (Nat → Int) → Option R_iM_slip) (x5 : Int) (v_allowed : Int) (v_debt : Int) (v_farms : Int) (v_isBlanchedNow : Int) (v_now : Int) (v_paid : Int) (v_paidTold : Int) (v_pardoned : Int) (v_piled : Int) (v_shireNow : Int) (v_without : Int) (v_off : (Nat → Int)) (v_pile : (Nat → Int)) : Option R_iM_slip :=
  if v_acts < x5 then
    k113 v_allowed v_debt v_farms v_isBlanchedNow v_now v_paid v_paidTold v_pardoned v_piled v_shireNow v_without v_off v_pile
  else
    gd (jb x5 201) <|
    if v_actKind x5.toNat = 5 then
      gd (jr (x5 + 1)) <|
      self (x5 + 1) v_allowed v_debt v_farms v_isBlanchedNow v_now v_paid v_paidTold v_pardoned v_piled v_shireNow (-1) v_off v_pile
    else
      bd1 (iM_isKnown x5 v_knownAt (-1) v_voidAt) fun rc8 =>
      if rc8 = 0 then
        gd (jr (x5 + 1)) <|
        self (x5 + 1) v_allowed v_debt v_farms v_isBlanchedNow v_now v_paid v_paidTold v_pardoned v_piled v_shireNow (-1) v_off v_pile
      else
        bd13 (iM_rolls N a1 a2 v_acts v_allowed v_debt v_farms v_isBlanchedNow v_knownAt v_movedAct v_movedTerm v_now v_paid v_paidTold v_pardoned v_piled v_shireNow x5 v_actKind v_actNumber v_actShire v_actTerm v_codes v_cutWorth v_cuts v_first v_isBlanched v_many v_mates v_off v_pence v_pile v_second v_sort v_sumEnd v_sumFrom v_testEnd v_voidAt) fun rc9 v_allowed_c9 v_debt_c9 v_farms_c9 v_isBlanchedNow_c9 v_now_c9 v_paid_c9 v_paidTold_c9 v_pardoned_c9 v_piled_c9 v_shireNow_c9 v_off_c9 v_pile_c9 =>
        if rc9 = a3 then
          some (x5, v_allowed_c9, v_debt_c9, v_farms_c9, v_isBlanchedNow_c9, v_knownAt, v_moved, v_movedAct, v_movedTerm, v_now_c9, v_paid_c9, v_paidTold_c9, v_pardoned_c9, v_piled_c9, v_shireNow_c9, x5, v_best, v_cost, v_fits, v_mates, v_off_c9, v_pile_c9)
        else
          gd (jr (x5 + 1)) <|
          self (x5 + 1) v_allowed_c9 v_debt_c9 v_farms_c9 v_isBlanchedNow_c9 v_now_c9 v_paid_c9 v_paidTold_c9 v_pardoned_c9 v_piled_c9 v_shireNow_c9 x5 v_off_c9 v_pile_c9
def iM_slip_b50 (N : Nat) (a1 : Int) (a2 : Int) (a3 : Int) (v_acts : Int) (v_as : Int) (v_grain : Int) (v_limit : Int) (v_lost : Int) (v_actKind : (Nat → Int)) (v_actNumber : (Nat → Int)) (v_actShire : (Nat → Int)) (v_actTerm : (Nat → Int)) (v_codes : (Nat → Int)) (v_cutAt : (Nat → Int)) (v_cutWorth : (Nat → Int)) (v_cuts : (Nat → Int)) (v_first : (Nat → Int)) (v_isBlanched : (Nat → Int)) (v_many : (Nat → Int)) (v_pence : (Nat → Int)) (v_second : (Nat → Int)) (v_sort : (Nat → Int)) (v_sumEnd : (Nat → Int)) (v_sumFrom : (Nat → Int)) (v_testEnd : (Nat → Int)) (v_voidAt : (Nat → Int)) (v_knownAt : Int) (v_moved : Int) (v_movedAct : Int) (v_movedTerm : Int) (v_best : (Nat → Int)) (v_cost : (Nat → Int)) (v_fits : (Nat → Int)) (v_mates : (Nat → Int)) (k113 : Int → Int → Int → Int → Int → Int → Int → Int → Int → Int → Int → (Nat → Int) → (Nat → Int) → Option R_iM_slip) : Nat → Int → Int → Int → Int → Int → Int → Int → Int → Int → Int → Int → Int → (Nat → Int) → (Nat → Int) → Option R_iM_slip := zlp14 (iM_slip_b50_F N a1 a2 a3 v_acts v_as v_grain v_limit v_lost v_actKind v_actNumber v_actShire v_actTerm v_codes v_cutAt v_cutWorth v_cuts v_first v_isBlanched v_many v_pence v_second v_sort v_sumEnd v_sumFrom v_testEnd v_voidAt v_knownAt v_moved v_movedAct v_movedTerm v_best v_cost v_fits v_mates k113)
def iM_slip_b225 (N : Nat) (a1 : Int) (a2 : Int) (a3 : Int) (v_acts : Int) (v_as : Int) (v_grain : Int) (v_limit : Int) (v_lost : Int) (v_actKind : (Nat → Int)) (v_actNumber : (Nat → Int)) (v_actShire : (Nat → Int)) (v_actTerm : (Nat → Int)) (v_codes : (Nat → Int)) (v_cutAt : (Nat → Int)) (v_cutWorth : (Nat → Int)) (v_cuts : (Nat → Int)) (v_first : (Nat → Int)) (v_isBlanched : (Nat → Int)) (v_many : (Nat → Int)) (v_pence : (Nat → Int)) (v_second : (Nat → Int)) (v_sort : (Nat → Int)) (v_sumEnd : (Nat → Int)) (v_sumFrom : (Nat → Int)) (v_testEnd : (Nat → Int)) (v_voidAt : (Nat → Int)) (self : Int → Int → Int → Int → Int → Int → Int → Int → Int → Int → Int → Int → Int → (Nat → Int) → (Nat → Int) → Option R_iM_slip) (x5 : Int) (v_allowed : Int) (v_debt : Int) (v_farms : Int) (v_isBlanchedNow : Int) (v_knownAt : Int) (v_moved : Int) (v_movedAct : Int) (v_movedTerm : Int) (v_now : Int) (v_paid : Int) (v_paidTold : Int) (v_pardoned : Int) (v_piled : Int) (v_shireNow : Int) (v_without : Int) (v_best : (Nat → Int)) (v_cost : (Nat → Int)) (v_fits : (Nat → Int)) (v_mates : (Nat → Int)) (v_off : (Nat → Int)) (v_pile : (Nat → Int)) : Option R_iM_slip :=
  gd (jr (x5 + 1)) <|
  self (x5 + 1) v_allowed v_debt v_farms v_isBlanchedNow v_movedAct v_movedTerm v_now v_paid v_paidTold v_pardoned v_piled v_shireNow v_off v_pile
def iM_slip_b165_F (N : Nat) (a1 : Int) (a2 : Int) (a3 : Int) (v_acts : Int) (v_as : Int) (v_grain : Int) (v_limit : Int) (v_lost : Int) (v_actKind : (Nat → Int)) (v_actNumber : (Nat → Int)) (v_actShire : (Nat → Int)) (v_actTerm : (Nat → Int)) (v_codes : (Nat → Int)) (v_cutAt : (Nat → Int)) (v_cutWorth : (Nat → Int)) (v_cuts : (Nat → Int)) (v_first : (Nat → Int)) (v_isBlanched : (Nat → Int)) (v_many : (Nat → Int)) (v_pence : (Nat → Int)) (v_second : (Nat → Int)) (v_sort : (Nat → Int)) (v_sumEnd : (Nat → Int)) (v_sumFrom : (Nat → Int)) (v_testEnd : (Nat → Int)) (v_voidAt : (Nat → Int)) (x5 : Int) (v_knownAt : Int) (v_moved : Int) (v_without : Int) (v_best : (Nat → Int)) (v_cost : (Nat → Int)) (v_fits : (Nat → Int)) (v_mates : (Nat → Int)) (k225 : Int → Int → Int → Int → Int → Int → Int → Int → Int → Int → Int → Int → (Nat → Int) → (Nat → Int) → Option R_iM_slip) (self : Int → Int → Int → Int → Int → Int → Int → Int → Int → Int → Int → Int → Int → (Nat → Int) → (Nat → Int) → Option R_iM_slip) (x6 : Int) (v_allowed : Int) (v_debt : Int) (v_farms : Int) (v_isBlanchedNow : Int) (v_movedAct : Int) (v_movedTerm : Int) (v_now : Int) (v_paid : Int) (v_paidTold : Int) (v_pardoned : Int) (v_piled : Int) (v_shireNow : Int) (v_off : (Nat → Int)) (v_pile : (Nat → Int)) : Option R_iM_slip :=
  if 40 ≤ x6 then
    k225 v_allowed v_debt v_farms v_isBlanchedNow v_movedAct v_movedTerm v_now v_paid v_paidTold v_pardoned v_piled v_shireNow v_off v_pile
  else
    gd (jb x5 201) <|
    if x6 = v_actTerm x5.toNat then
      gd (jr (x6 + 1)) <|
      self (x6 + 1) v_allowed v_debt v_farms v_isBlanchedNow x5 x6 v_now v_paid v_paidTold v_pardoned v_piled v_shireNow v_off v_pile
    else
      bd13 (iM_rolls N a1 a2 v_acts v_allowed v_debt v_farms v_isBlanchedNow v_knownAt x5 x6 v_now v_paid v_paidTold v_pardoned v_piled v_shireNow v_without v_actKind v_actNumber v_actShire v_actTerm v_codes v_cutWorth v_cuts v_first v_isBlanched v_many v_mates v_off v_pence v_pile v_second v_sort v_sumEnd v_sumFrom v_testEnd v_voidAt) fun rc14 v_allowed_c14 v_debt_c14 v_farms_c14 v_isBlanchedNow_c14 v_now_c14 v_paid_c14 v_paidTold_c14 v_pardoned_c14 v_piled_c14 v_shireNow_c14 v_off_c14 v_pile_c14 =>
      if rc14 = a3 then
        some (x5, v_allowed_c14, v_debt_c14, v_farms_c14, v_isBlanchedNow_c14, v_knownAt, x6, x5, x6, v_now_c14, v_paid_c14, v_paidTold_c14, v_pardoned_c14, v_piled_c14, v_shireNow_c14, v_without, v_best, v_cost, v_fits, v_mates, v_off_c14, v_pile_c14)
      else
        gd (jr (x6 + 1)) <|
        self (x6 + 1) v_allowed_c14 v_debt_c14 v_farms_c14 v_isBlanchedNow_c14 x5 x6 v_now_c14 v_paid_c14 v_paidTold_c14 v_pardoned_c14 v_piled_c14 v_shireNow_c14 v_off_c14 v_pile_c14
def iM_slip_b165 (N : Nat) (a1 : Int) (a2 : Int) (a3 : Int) (v_acts : Int) (v_as : Int) (v_grain : Int) (v_limit : Int) (v_lost : Int) (v_actKind : (Nat → Int)) (v_actNumber : (Nat → Int)) (v_actShire : (Nat → Int)) (v_actTerm : (Nat → Int)) (v_codes : (Nat → Int)) (v_cutAt : (Nat → Int)) (v_cutWorth : (Nat → Int)) (v_cuts : (Nat → Int)) (v_first : (Nat → Int)) (v_isBlanched : (Nat → Int)) (v_many : (Nat → Int)) (v_pence : (Nat → Int)) (v_second : (Nat → Int)) (v_sort : (Nat → Int)) (v_sumEnd : (Nat → Int)) (v_sumFrom : (Nat → Int)) (v_testEnd : (Nat → Int)) (v_voidAt : (Nat → Int)) (x5 : Int) (v_knownAt : Int) (v_moved : Int) (v_without : Int) (v_best : (Nat → Int)) (v_cost : (Nat → Int)) (v_fits : (Nat → Int)) (v_mates : (Nat → Int)) (k225 : Int → Int → Int → Int → Int → Int → Int → Int → Int → Int → Int → Int → (Nat → Int) → (Nat → Int) → Option R_iM_slip) : Nat → Int → Int → Int → Int → Int → Int → Int → Int → Int → Int → Int → Int → Int → (Nat → Int) → (Nat → Int) → Option R_iM_slip := zlp15 (iM_slip_b165_F N a1 a2 a3 v_acts v_as v_grain v_limit v_lost v_actKind v_actNumber v_actShire v_actTerm v_codes v_cutAt v_cutWorth v_cuts v_first v_isBlanched v_many v_pence v_second v_sort v_sumEnd v_sumFrom v_testEnd v_voidAt x5 v_knownAt v_moved v_without v_best v_cost v_fits v_mates k225)
def iM_slip_b121_F (N : Nat) (a1 : Int) (a2 : Int) (a3 : Int) (v_acts : Int) (v_as : Int) (v_grain : Int) (v_limit : Int) (v_lost : Int) (v_actKind : (Nat → Int)) (v_actNumber : (Nat → Int)) (v_actShire : (Nat → Int)) (v_actTerm : (Nat → Int)) (v_codes : (Nat → Int)) (v_cutAt : (Nat → Int)) (v_cutWorth : (Nat → Int)) (v_cuts : (Nat → Int)) (v_first : (Nat → Int)) (v_isBlanched : (Nat → Int)) (v_many : (Nat → Int)) (v_pence : (Nat → Int)) (v_second : (Nat → Int)) (v_sort : (Nat → Int)) (v_sumEnd : (Nat → Int)) (v_sumFrom : (Nat → Int)) (v_testEnd : (Nat → Int)) (v_voidAt : (Nat → Int)) (v_knownAt : Int) (v_moved : Int) (v_without : Int) (v_best : (Nat → Int)) (v_cost : (Nat → Int)) (v_fits : (Nat → Int)) (v_mates : (Nat → Int)) (self : Int → Int → Int → Int → Int → Int → Int → Int → Int → Int → Int → Int → Int → (Nat → Int) → (Nat → Int) → Option R_iM_slip) (x5 : Int) (v_allowed : Int) (v_debt : Int) (v_farms : Int) (v_isBlanchedNow : Int) (v_movedAct : Int) (v_movedTerm : Int) (v_now : Int) (v_paid : Int) (v_paidTold : Int) (v_pardoned : Int) (v_piled : Int) (v_shireNow : Int) (v_off : (Nat → Int)) (v_pile : (Nat → Int)) : Option R_iM_slip :=
  if v_acts < x5 then
    some ((-1), v_allowed, v_debt, v_farms, v_isBlanchedNow, v_knownAt, v_moved, v_movedAct, v_movedTerm, v_now, v_paid, v_paidTold, v_pardoned, v_piled, v_shireNow, v_without, v_best, v_cost, v_fits, v_mates, v_off, v_pile)
  else
    bd1 (iM_isPayment x5 v_actKind) fun rc10 =>
    if rc10 = 0 then
      iM_slip_b225 N a1 a2 a3 v_acts v_as v_grain v_limit v_lost v_actKind v_actNumber v_actShire v_actTerm v_codes v_cutAt v_cutWorth v_cuts v_first v_isBlanched v_many v_pence v_second v_sort v_sumEnd v_sumFrom v_testEnd v_voidAt self x5 v_allowed v_debt v_farms v_isBlanchedNow v_knownAt v_moved v_movedAct v_movedTerm v_now v_paid v_paidTold v_pardoned v_piled v_shireNow v_without v_best v_cost v_fits v_mates v_off v_pile
    else
      bd1 (iM_isKnown x5 v_knownAt v_without v_voidAt) fun rc11 =>
      if rc11 = 0 then
        iM_slip_b225 N a1 a2 a3 v_acts v_as v_grain v_limit v_lost v_actKind v_actNumber v_actShire v_actTerm v_codes v_cutAt v_cutWorth v_cuts v_first v_isBlanched v_many v_pence v_second v_sort v_sumEnd v_sumFrom v_testEnd v_voidAt self x5 v_allowed v_debt v_farms v_isBlanchedNow v_knownAt v_moved v_movedAct v_movedTerm v_now v_paid v_paidTold v_pardoned v_piled v_shireNow v_without v_best v_cost v_fits v_mates v_off v_pile
      else
        gd (jb x5 201) <|
        if v_actShire x5.toNat = a1 then
          iM_slip_b165 N a1 a2 a3 v_acts v_as v_grain v_limit v_lost v_actKind v_actNumber v_actShire v_actTerm v_codes v_cutAt v_cutWorth v_cuts v_first v_isBlanched v_many v_pence v_second v_sort v_sumEnd v_sumFrom v_testEnd v_voidAt x5 v_knownAt v_moved v_without v_best v_cost v_fits v_mates (fun v_allowed_k14 v_debt_k15 v_farms_k16 v_isBlanchedNow_k17 v_movedAct_k18 v_movedTerm_k19 v_now_k20 v_paid_k21 v_paidTold_k22 v_pardoned_k23 v_piled_k24 v_shireNow_k25 e48_ e49_ => iM_slip_b225 N a1 a2 a3 v_acts v_as v_grain v_limit v_lost v_actKind v_actNumber v_actShire v_actTerm v_codes v_cutAt v_cutWorth v_cuts v_first v_isBlanched v_many v_pence v_second v_sort v_sumEnd v_sumFrom v_testEnd v_voidAt self x5 v_allowed_k14 v_debt_k15 v_farms_k16 v_isBlanchedNow_k17 v_knownAt v_moved v_movedAct_k18 v_movedTerm_k19 v_now_k20 v_paid_k21 v_paidTold_k22 v_pardoned_k23 v_piled_k24 v_shireNow_k25 v_without v_best v_cost v_fits v_mates e48_ e49_) N 0 v_allowed v_debt v_farms v_isBlanchedNow v_movedAct v_movedTerm v_now v_paid v_paidTold v_pardoned v_piled v_shireNow v_off v_pile
        else
          iM_slip_b225 N a1 a2 a3 v_acts v_as v_grain v_limit v_lost v_actKind v_actNumber v_actShire v_actTerm v_codes v_cutAt v_cutWorth v_cuts v_first v_isBlanched v_many v_pence v_second v_sort v_sumEnd v_sumFrom v_testEnd v_voidAt self x5 v_allowed v_debt v_farms v_isBlanchedNow v_knownAt v_moved v_movedAct v_movedTerm v_now v_paid v_paidTold v_pardoned v_piled v_shireNow v_without v_best v_cost v_fits v_mates v_off v_pile
def iM_slip_b121 (N : Nat) (a1 : Int) (a2 : Int) (a3 : Int) (v_acts : Int) (v_as : Int) (v_grain : Int) (v_limit : Int) (v_lost : Int) (v_actKind : (Nat → Int)) (v_actNumber : (Nat → Int)) (v_actShire : (Nat → Int)) (v_actTerm : (Nat → Int)) (v_codes : (Nat → Int)) (v_cutAt : (Nat → Int)) (v_cutWorth : (Nat → Int)) (v_cuts : (Nat → Int)) (v_first : (Nat → Int)) (v_isBlanched : (Nat → Int)) (v_many : (Nat → Int)) (v_pence : (Nat → Int)) (v_second : (Nat → Int)) (v_sort : (Nat → Int)) (v_sumEnd : (Nat → Int)) (v_sumFrom : (Nat → Int)) (v_testEnd : (Nat → Int)) (v_voidAt : (Nat → Int)) (v_knownAt : Int) (v_moved : Int) (v_without : Int) (v_best : (Nat → Int)) (v_cost : (Nat → Int)) (v_fits : (Nat → Int)) (v_mates : (Nat → Int)) : Nat → Int → Int → Int → Int → Int → Int → Int → Int → Int → Int → Int → Int → Int → (Nat → Int) → (Nat → Int) → Option R_iM_slip := zlp15 (iM_slip_b121_F N a1 a2 a3 v_acts v_as v_grain v_limit v_lost v_actKind v_actNumber v_actShire v_actTerm v_codes v_cutAt v_cutWorth v_cuts v_first v_isBlanched v_many v_pence v_second v_sort v_sumEnd v_sumFrom v_testEnd v_voidAt v_knownAt v_moved v_without v_best v_cost v_fits v_mates)
def iM_slip_b113 (N : Nat) (a1 : Int) (a2 : Int) (a3 : Int) (v_acts : Int) (v_as : Int) (v_grain : Int) (v_limit : Int) (v_lost : Int) (v_actKind : (Nat → Int)) (v_actNumber : (Nat → Int)) (v_actShire : (Nat → Int)) (v_actTerm : (Nat → Int)) (v_codes : (Nat → Int)) (v_cutAt : (Nat → Int)) (v_cutWorth : (Nat → Int)) (v_cuts : (Nat → Int)) (v_first : (Nat → Int)) (v_isBlanched : (Nat → Int)) (v_many : (Nat → Int)) (v_pence : (Nat → Int)) (v_second : (Nat → Int)) (v_sort : (Nat → Int)) (v_sumEnd : (Nat → Int)) (v_sumFrom : (Nat → Int)) (v_testEnd : (Nat → Int)) (v_voidAt : (Nat → Int)) (v_allowed : Int) (v_debt : Int) (v_farms : Int) (v_isBlanchedNow : Int) (v_knownAt : Int) (v_moved : Int) (v_movedAct : Int) (v_movedTerm : Int) (v_now : Int) (v_paid : Int) (v_paidTold : Int) (v_pardoned : Int) (v_piled : Int) (v_shireNow : Int) (v_without : Int) (v_best : (Nat → Int)) (v_cost : (Nat → Int)) (v_fits : (Nat → Int)) (v_mates : (Nat → Int)) (v_off : (Nat → Int)) (v_pile : (Nat → Int)) : Option R_iM_slip :=
  iM_slip_b121 N a1 a2 a3 v_acts v_as v_grain v_limit v_lost v_actKind v_actNumber v_actShire v_actTerm v_codes v_cutAt v_cutWorth v_cuts v_first v_isBlanched v_many v_pence v_second v_sort v_sumEnd v_sumFrom v_testEnd v_voidAt v_knownAt v_moved (-1) v_best v_cost v_fits v_mates N 1 v_allowed v_debt v_farms v_isBlanchedNow v_movedAct v_movedTerm v_now v_paid v_paidTold v_pardoned v_piled v_shireNow v_off v_pile
def iM_slip (N : Nat) (a1 : Int) (a2 : Int) (a3 : Int) (v_acts : Int) (v_allowed : Int) (v_as : Int) (v_debt : Int) (v_farms : Int) (v_grain : Int) (v_isBlanchedNow : Int) (v_knownAt : Int) (v_limit : Int) (v_lost : Int) (v_moved : Int) (v_movedAct : Int) (v_movedTerm : Int) (v_now : Int) (v_paid : Int) (v_paidTold : Int) (v_pardoned : Int) (v_piled : Int) (v_shireNow : Int) (v_without : Int) (v_actKind : (Nat → Int)) (v_actNumber : (Nat → Int)) (v_actShire : (Nat → Int)) (v_actTerm : (Nat → Int)) (v_best : (Nat → Int)) (v_codes : (Nat → Int)) (v_cost : (Nat → Int)) (v_cutAt : (Nat → Int)) (v_cutWorth : (Nat → Int)) (v_cuts : (Nat → Int)) (v_first : (Nat → Int)) (v_fits : (Nat → Int)) (v_isBlanched : (Nat → Int)) (v_many : (Nat → Int)) (v_mates : (Nat → Int)) (v_off : (Nat → Int)) (v_pence : (Nat → Int)) (v_pile : (Nat → Int)) (v_second : (Nat → Int)) (v_sort : (Nat → Int)) (v_sumEnd : (Nat → Int)) (v_sumFrom : (Nat → Int)) (v_testEnd : (Nat → Int)) (v_voidAt : (Nat → Int)) : Option R_iM_slip :=
  bd1 (iM_isShire a1) fun rc1 =>
  if rc1 = 0 then
    some ((-2), v_allowed, v_debt, v_farms, v_isBlanchedNow, v_knownAt, v_moved, v_movedAct, v_movedTerm, v_now, v_paid, v_paidTold, v_pardoned, v_piled, v_shireNow, v_without, v_best, v_cost, v_fits, v_mates, v_off, v_pile)
  else
    bd1 (iM_isTerm a2) fun rc2 =>
    if rc2 = 0 then
      some ((-2), v_allowed, v_debt, v_farms, v_isBlanchedNow, v_knownAt, v_moved, v_movedAct, v_movedTerm, v_now, v_paid, v_paidTold, v_pardoned, v_piled, v_shireNow, v_without, v_best, v_cost, v_fits, v_mates, v_off, v_pile)
    else
      bd4 (iM_matches N v_grain v_limit v_lost v_best v_cost v_cutAt v_cutWorth v_cuts v_fits v_mates) fun v_best_c3 v_cost_c3 v_fits_c3 v_mates_c3 =>
      bd1 (iM_asNow v_acts v_as) fun rc4 =>
      bd3 (iM_tellsAsKnown rc4 v_knownAt v_movedAct v_without) fun v_knownAt_c5 v_movedAct_c5 v_without_c5 =>
      bd13 (iM_rolls N a1 a2 v_acts v_allowed v_debt v_farms v_isBlanchedNow v_knownAt_c5 v_movedAct_c5 v_movedTerm v_now v_paid v_paidTold v_pardoned v_piled v_shireNow v_without_c5 v_actKind v_actNumber v_actShire v_actTerm v_codes v_cutWorth v_cuts v_first v_isBlanched v_many v_mates_c3 v_off v_pence v_pile v_second v_sort v_sumEnd v_sumFrom v_testEnd v_voidAt) fun rc6 v_allowed_c6 v_debt_c6 v_farms_c6 v_isBlanchedNow_c6 v_now_c6 v_paid_c6 v_paidTold_c6 v_pardoned_c6 v_piled_c6 v_shireNow_c6 v_off_c6 v_pile_c6 =>
      if rc6 = a3 then
        some (0, v_allowed_c6, v_debt_c6, v_farms_c6, v_isBlanchedNow_c6, v_knownAt_c5, (-1), v_movedAct_c5, v_movedTerm, v_now_c6, v_paid_c6, v_paidTold_c6, v_pardoned_c6, v_piled_c6, v_shireNow_c6, v_without_c5, v_best_c3, v_cost_c3, v_fits_c3, v_mates_c3, v_off_c6, v_pile_c6)
      else
        iM_slip_b50 N a1 a2 a3 v_acts v_as v_grain v_limit v_lost v_actKind v_actNumber v_actShire v_actTerm v_codes v_cutAt v_cutWorth v_cuts v_first v_isBlanched v_many v_pence v_second v_sort v_sumEnd v_sumFrom v_testEnd v_voidAt v_knownAt_c5 (-1) v_movedAct_c5 v_movedTerm v_best_c3 v_cost_c3 v_fits_c3 v_mates_c3 (fun v_allowed_k1 v_debt_k2 v_farms_k3 v_isBlanchedNow_k4 v_now_k5 v_paid_k6 v_paidTold_k7 v_pardoned_k8 v_piled_k9 v_shireNow_k10 v_without_k11 e46_ e47_ => iM_slip_b113 N a1 a2 a3 v_acts v_as v_grain v_limit v_lost v_actKind v_actNumber v_actShire v_actTerm v_codes v_cutAt v_cutWorth v_cuts v_first v_isBlanched v_many v_pence v_second v_sort v_sumEnd v_sumFrom v_testEnd v_voidAt v_allowed_k1 v_debt_k2 v_farms_k3 v_isBlanchedNow_k4 v_knownAt_c5 (-1) v_movedAct_c5 v_movedTerm v_now_k5 v_paid_k6 v_paidTold_k7 v_pardoned_k8 v_piled_k9 v_shireNow_k10 v_without_k11 v_best_c3 v_cost_c3 v_fits_c3 v_mates_c3 e46_ e47_) N 1 v_allowed_c6 v_debt_c6 v_farms_c6 v_isBlanchedNow_c6 v_now_c6 v_paid_c6 v_paidTold_c6 v_pardoned_c6 v_piled_c6 v_shireNow_c6 v_without_c5 v_off_c6 v_pile_c6
def iM_moved (v_moved : Int) : Option Int :=
  some v_moved
abbrev R_iM_since : Type := Int × Int × Int × Int × Int × Int × Int × Int × Int × Int × Int × Int × Int × Int × (Nat → Int) × (Nat → Int) × (Nat → Int) × (Nat → Int) × (Nat → Int) × (Nat → Int)
def iM_since_b78 (N : Nat) (a1 : Int) (a2 : Int) (v_acts : Int) (v_grain : Int) (v_limit : Int) (v_lost : Int) (v_movedTerm : Int) (v_actKind : (Nat → Int)) (v_actNumber : (Nat → Int)) (v_actShire : (Nat → Int)) (v_actTerm : (Nat → Int)) (v_codes : (Nat → Int)) (v_cutAt : (Nat → Int)) (v_cutWorth : (Nat → Int)) (v_cuts : (Nat → Int)) (v_first : (Nat → Int)) (v_isBlanched : (Nat → Int)) (v_many : (Nat → Int)) (v_pence : (Nat → Int)) (v_second : (Nat → Int)) (v_sort : (Nat → Int)) (v_sumEnd : (Nat → Int)) (v_sumFrom : (Nat → Int)) (v_testEnd : (Nat → Int)) (v_voidAt : (Nat → Int)) (self : Int → Int → Int → Int → Int → Int → Int → Int → Int → Int → Int → Int → Int → Int → Int → (Nat → Int) → (Nat → Int) → Option R_iM_since) (x3 : Int) (x5 : Int) (s0 : Int) (v_allowed : Int) (v_debt : Int) (v_farms : Int) (v_isBlanchedNow : Int) (v_knownAt : Int) (v_movedAct : Int) (v_now : Int) (v_paid : Int) (v_paidTold : Int) (v_pardoned : Int) (v_piled : Int) (v_shireNow : Int) (v_without : Int) (v_best : (Nat → Int)) (v_cost : (Nat → Int)) (v_fits : (Nat → Int)) (v_mates : (Nat → Int)) (v_off : (Nat → Int)) (v_pile : (Nat → Int)) : Option R_iM_since :=
  if s0 = 0 then
    self x5 s0 v_allowed v_debt v_farms v_isBlanchedNow v_knownAt v_movedAct v_now v_paid v_paidTold v_pardoned v_piled v_shireNow v_without v_off v_pile
  else
    gd (jr (x5 + (-1))) <|
    self (x5 + (-1)) s0 v_allowed v_debt v_farms v_isBlanchedNow v_knownAt v_movedAct v_now v_paid v_paidTold v_pardoned v_piled v_shireNow v_without v_off v_pile
def iM_since_b44_F (N : Nat) (a1 : Int) (a2 : Int) (v_acts : Int) (v_grain : Int) (v_limit : Int) (v_lost : Int) (v_movedTerm : Int) (v_actKind : (Nat → Int)) (v_actNumber : (Nat → Int)) (v_actShire : (Nat → Int)) (v_actTerm : (Nat → Int)) (v_codes : (Nat → Int)) (v_cutAt : (Nat → Int)) (v_cutWorth : (Nat → Int)) (v_cuts : (Nat → Int)) (v_first : (Nat → Int)) (v_isBlanched : (Nat → Int)) (v_many : (Nat → Int)) (v_pence : (Nat → Int)) (v_second : (Nat → Int)) (v_sort : (Nat → Int)) (v_sumEnd : (Nat → Int)) (v_sumFrom : (Nat → Int)) (v_testEnd : (Nat → Int)) (v_voidAt : (Nat → Int)) (x3 : Int) (v_best : (Nat → Int)) (v_cost : (Nat → Int)) (v_fits : (Nat → Int)) (v_mates : (Nat → Int)) (self : Int → Int → Int → Int → Int → Int → Int → Int → Int → Int → Int → Int → Int → Int → Int → (Nat → Int) → (Nat → Int) → Option R_iM_since) (x5 : Int) (x6 : Int) (v_allowed : Int) (v_debt : Int) (v_farms : Int) (v_isBlanchedNow : Int) (v_knownAt : Int) (v_movedAct : Int) (v_now : Int) (v_paid : Int) (v_paidTold : Int) (v_pardoned : Int) (v_piled : Int) (v_shireNow : Int) (v_without : Int) (v_off : (Nat → Int)) (v_pile : (Nat → Int)) : Option R_iM_since :=
  if x6 = 0 then
    some (x5, v_allowed, v_debt, v_farms, v_isBlanchedNow, v_knownAt, v_movedAct, v_now, v_paid, v_paidTold, v_pardoned, v_piled, v_shireNow, v_without, v_best, v_cost, v_fits, v_mates, v_off, v_pile)
  else
    if x5 ≤ 0 then
      some (x5, v_allowed, v_debt, v_farms, v_isBlanchedNow, v_knownAt, v_movedAct, v_now, v_paid, v_paidTold, v_pardoned, v_piled, v_shireNow, v_without, v_best, v_cost, v_fits, v_mates, v_off, v_pile)
    else
      gd (jr (x5 - 1)) <|
      bd3 (iM_tellsAsKnown (x5 - 1) v_knownAt v_movedAct v_without) fun v_knownAt_c6 v_movedAct_c6 v_without_c6 =>
      bd13 (iM_rolls N a1 a2 v_acts v_allowed v_debt v_farms v_isBlanchedNow v_knownAt_c6 v_movedAct_c6 v_movedTerm v_now v_paid v_paidTold v_pardoned v_piled v_shireNow v_without_c6 v_actKind v_actNumber v_actShire v_actTerm v_codes v_cutWorth v_cuts v_first v_isBlanched v_many v_mates v_off v_pence v_pile v_second v_sort v_sumEnd v_sumFrom v_testEnd v_voidAt) fun rc7 v_allowed_c7 v_debt_c7 v_farms_c7 v_isBlanchedNow_c7 v_now_c7 v_paid_c7 v_paidTold_c7 v_pardoned_c7 v_piled_c7 v_shireNow_c7 v_off_c7 v_pile_c7 =>
      if rc7 = x3 then
        iM_since_b78 N a1 a2 v_acts v_grain v_limit v_lost v_movedTerm v_actKind v_actNumber v_actShire v_actTerm v_codes v_cutAt v_cutWorth v_cuts v_first v_isBlanched v_many v_pence v_second v_sort v_sumEnd v_sumFrom v_testEnd v_voidAt self x3 x5 1 v_allowed_c7 v_debt_c7 v_farms_c7 v_isBlanchedNow_c7 v_knownAt_c6 v_movedAct_c6 v_now_c7 v_paid_c7 v_paidTold_c7 v_pardoned_c7 v_piled_c7 v_shireNow_c7 v_without_c6 v_best v_cost v_fits v_mates v_off_c7 v_pile_c7
      else
        iM_since_b78 N a1 a2 v_acts v_grain v_limit v_lost v_movedTerm v_actKind v_actNumber v_actShire v_actTerm v_codes v_cutAt v_cutWorth v_cuts v_first v_isBlanched v_many v_pence v_second v_sort v_sumEnd v_sumFrom v_testEnd v_voidAt self x3 x5 0 v_allowed_c7 v_debt_c7 v_farms_c7 v_isBlanchedNow_c7 v_knownAt_c6 v_movedAct_c6 v_now_c7 v_paid_c7 v_paidTold_c7 v_pardoned_c7 v_piled_c7 v_shireNow_c7 v_without_c6 v_best v_cost v_fits v_mates v_off_c7 v_pile_c7
def iM_since_b44 (N : Nat) (a1 : Int) (a2 : Int) (v_acts : Int) (v_grain : Int) (v_limit : Int) (v_lost : Int) (v_movedTerm : Int) (v_actKind : (Nat → Int)) (v_actNumber : (Nat → Int)) (v_actShire : (Nat → Int)) (v_actTerm : (Nat → Int)) (v_codes : (Nat → Int)) (v_cutAt : (Nat → Int)) (v_cutWorth : (Nat → Int)) (v_cuts : (Nat → Int)) (v_first : (Nat → Int)) (v_isBlanched : (Nat → Int)) (v_many : (Nat → Int)) (v_pence : (Nat → Int)) (v_second : (Nat → Int)) (v_sort : (Nat → Int)) (v_sumEnd : (Nat → Int)) (v_sumFrom : (Nat → Int)) (v_testEnd : (Nat → Int)) (v_voidAt : (Nat → Int)) (x3 : Int) (v_best : (Nat → Int)) (v_cost : (Nat → Int)) (v_fits : (Nat → Int)) (v_mates : (Nat → Int)) : Nat → Int → Int → Int → Int → Int → Int → Int → Int → Int → Int → Int → Int → Int → Int → Int → (Nat → Int) → (Nat → Int) → Option R_iM_since := zlp17 (iM_since_b44_F N a1 a2 v_acts v_grain v_limit v_lost v_movedTerm v_actKind v_actNumber v_actShire v_actTerm v_codes v_cutAt v_cutWorth v_cuts v_first v_isBlanched v_many v_pence v_second v_sort v_sumEnd v_sumFrom v_testEnd v_voidAt x3 v_best v_cost v_fits v_mates)
def iM_since (N : Nat) (a1 : Int) (a2 : Int) (v_acts : Int) (v_allowed : Int) (v_debt : Int) (v_farms : Int) (v_grain : Int) (v_isBlanchedNow : Int) (v_knownAt : Int) (v_limit : Int) (v_lost : Int) (v_movedAct : Int) (v_movedTerm : Int) (v_now : Int) (v_paid : Int) (v_paidTold : Int) (v_pardoned : Int) (v_piled : Int) (v_shireNow : Int) (v_without : Int) (v_actKind : (Nat → Int)) (v_actNumber : (Nat → Int)) (v_actShire : (Nat → Int)) (v_actTerm : (Nat → Int)) (v_best : (Nat → Int)) (v_codes : (Nat → Int)) (v_cost : (Nat → Int)) (v_cutAt : (Nat → Int)) (v_cutWorth : (Nat → Int)) (v_cuts : (Nat → Int)) (v_first : (Nat → Int)) (v_fits : (Nat → Int)) (v_isBlanched : (Nat → Int)) (v_many : (Nat → Int)) (v_mates : (Nat → Int)) (v_off : (Nat → Int)) (v_pence : (Nat → Int)) (v_pile : (Nat → Int)) (v_second : (Nat → Int)) (v_sort : (Nat → Int)) (v_sumEnd : (Nat → Int)) (v_sumFrom : (Nat → Int)) (v_testEnd : (Nat → Int)) (v_voidAt : (Nat → Int)) : Option R_iM_since :=
  bd1 (iM_isShire a1) fun rc1 =>
  if rc1 = 0 then
    some ((-1), v_allowed, v_debt, v_farms, v_isBlanchedNow, v_knownAt, v_movedAct, v_now, v_paid, v_paidTold, v_pardoned, v_piled, v_shireNow, v_without, v_best, v_cost, v_fits, v_mates, v_off, v_pile)
  else
    bd1 (iM_isTerm a2) fun rc2 =>
    if rc2 = 0 then
      some ((-1), v_allowed, v_debt, v_farms, v_isBlanchedNow, v_knownAt, v_movedAct, v_now, v_paid, v_paidTold, v_pardoned, v_piled, v_shireNow, v_without, v_best, v_cost, v_fits, v_mates, v_off, v_pile)
    else
      bd4 (iM_matches N v_grain v_limit v_lost v_best v_cost v_cutAt v_cutWorth v_cuts v_fits v_mates) fun v_best_c3 v_cost_c3 v_fits_c3 v_mates_c3 =>
      bd3 (iM_tellsAsKnown v_acts v_knownAt v_movedAct v_without) fun v_knownAt_c4 v_movedAct_c4 v_without_c4 =>
      bd13 (iM_rolls N a1 a2 v_acts v_allowed v_debt v_farms v_isBlanchedNow v_knownAt_c4 v_movedAct_c4 v_movedTerm v_now v_paid v_paidTold v_pardoned v_piled v_shireNow v_without_c4 v_actKind v_actNumber v_actShire v_actTerm v_codes v_cutWorth v_cuts v_first v_isBlanched v_many v_mates_c3 v_off v_pence v_pile v_second v_sort v_sumEnd v_sumFrom v_testEnd v_voidAt) fun rc5 v_allowed_c5 v_debt_c5 v_farms_c5 v_isBlanchedNow_c5 v_now_c5 v_paid_c5 v_paidTold_c5 v_pardoned_c5 v_piled_c5 v_shireNow_c5 v_off_c5 v_pile_c5 =>
      iM_since_b44 N a1 a2 v_acts v_grain v_limit v_lost v_movedTerm v_actKind v_actNumber v_actShire v_actTerm v_codes v_cutAt v_cutWorth v_cuts v_first v_isBlanched v_many v_pence v_second v_sort v_sumEnd v_sumFrom v_testEnd v_voidAt rc5 v_best_c3 v_cost_c3 v_fits_c3 v_mates_c3 N v_acts 1 v_allowed_c5 v_debt_c5 v_farms_c5 v_isBlanchedNow_c5 v_knownAt_c4 v_movedAct_c4 v_now_c5 v_paid_c5 v_paidTold_c5 v_pardoned_c5 v_piled_c5 v_shireNow_c5 v_without_c4 v_off_c5 v_pile_c5
def iM_all_b44_F (N : Nat) (a1 : Int) (v_acts : Int) (v_as : Int) (v_cuts : (Nat → Int)) (self : Int → Int → Option Int) (x2 : Int) (x3 : Int) : Option Int :=
  if 10 ≤ x3 then
    some x2
  else
    bd1 (iM_isThere x3 v_cuts) fun rc2 =>
    if rc2 = 0 then
      gd (jr (x3 + 1)) <|
      self x2 (x3 + 1)
    else
      gd (jr (x2 + 1)) <|
      gd (jr (x3 + 1)) <|
      self (x2 + 1) (x3 + 1)
def iM_all_b44 (N : Nat) (a1 : Int) (v_acts : Int) (v_as : Int) (v_cuts : (Nat → Int)) : Nat → Int → Int → Option Int := zlp2 (iM_all_b44_F N a1 v_acts v_as v_cuts)
def iM_all_b71_F (N : Nat) (a1 : Int) (v_acts : Int) (v_as : Int) (v_cuts : (Nat → Int)) (self : Int → Int → Option Int) (x2 : Int) (x3 : Int) : Option Int :=
  if 10 ≤ x3 then
    some x2
  else
    gd (jr (10 + x3)) <|
    bd1 (iM_isThere (10 + x3) v_cuts) fun rc3 =>
    if rc3 = 0 then
      gd (jr (x3 + 1)) <|
      self x2 (x3 + 1)
    else
      gd (jr (x2 + 1)) <|
      gd (jr (x3 + 1)) <|
      self (x2 + 1) (x3 + 1)
def iM_all_b71 (N : Nat) (a1 : Int) (v_acts : Int) (v_as : Int) (v_cuts : (Nat → Int)) : Nat → Int → Int → Option Int := zlp2 (iM_all_b71_F N a1 v_acts v_as v_cuts)
def iM_all (N : Nat) (a1 : Int) (v_acts : Int) (v_as : Int) (v_cuts : (Nat → Int)) : Option Int :=
  if a1 = 0 then
    some v_acts
  else
    if a1 = 1 then
      bd1 (iM_asNow v_acts v_as) fun rc1 =>
      some rc1
    else
      if a1 = 2 then
        iM_all_b44 N a1 v_acts v_as v_cuts N 0 0
      else
        if a1 = 3 then
          iM_all_b71 N a1 v_acts v_as v_cuts N 0 0
        else
          some (-1)
