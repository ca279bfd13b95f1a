set_option maxHeartbeats 4000000
set_option maxRecDepth 100000
abbrev R_pM_hasSquare : Type := Int32
def pM_hasSquare_b2_F (N : Nat) (v_waits : Int32) (v_wait : (Nat → Int32)) (self : Int32 → Option R_pM_hasSquare) (x1 : Int32) : Option R_pM_hasSquare :=
  if v_waits ≤ x1 then
    some 0
  else
    gd (ib x1 700) <|
    if (v_wait (ix x1)) = 25 then
      some 1
    else
      self (x1 + 1)
def pM_hasSquare_b2 (N : Nat) (v_waits : Int32) (v_wait : (Nat → Int32)) : Nat → Int32 → Option R_pM_hasSquare := zlp1 (pM_hasSquare_b2_F N v_waits v_wait)
def pM_hasSquare (N : Nat) (v_waits : Int32) (v_wait : (Nat → Int32)) : Option R_pM_hasSquare :=
  pM_hasSquare_b2 N v_waits v_wait N 0
abbrev R_pM_dropsNots : Type := Int32 × Int32 × Int32 × (Nat → Int32)
def pM_dropsNots_b0_F (N : Nat) (v_bad : Int32) (v_wait : (Nat → Int32)) (self : Int32 → Int32 → Int32 → (Nat → Int32) → Option R_pM_dropsNots) (v_coded : Int32) (v_open : Int32) (v_waits : Int32) (v_codes : (Nat → Int32)) : Option R_pM_dropsNots :=
  if v_bad = 0 then
    bd1 (pM_isOn 16 v_waits v_wait) fun rc1 =>
    if rc1 = 0 then
      some (v_coded, v_open, v_waits, v_codes)
    else
      bd3 (pM_drops v_coded v_waits v_codes v_wait) fun v_coded_c2 v_waits_c2 v_codes_c2 =>
      self v_coded_c2 (v_open - 1) v_waits_c2 v_codes_c2
  else
    some (v_coded, v_open, v_waits, v_codes)
def pM_dropsNots_b0 (N : Nat) (v_bad : Int32) (v_wait : (Nat → Int32)) : Nat → Int32 → Int32 → Int32 → (Nat → Int32) → Option R_pM_dropsNots := zlp4 (pM_dropsNots_b0_F N v_bad v_wait)
def pM_dropsNots (N : Nat) (v_bad : Int32) (v_coded : Int32) (v_open : Int32) (v_waits : Int32) (v_codes : (Nat → Int32)) (v_wait : (Nat → Int32)) : Option R_pM_dropsNots :=
  pM_dropsNots_b0 N v_bad v_wait N v_coded v_open v_waits v_codes
abbrev R_pM_goesOnTest : Type := Int32 × Int32 × Int32 × Int32 × Int32 × Int32 × Int32 × Int32 × (Nat → Int32) × (Nat → Int32)
def pM_goesOnTest_b33_F (N : Nat) (v_end : Int32) (v_andWord : (Nat → Int32)) (v_orWord : (Nat → Int32)) (v_tape : (Nat → Int32)) (v_at : Int32) (v_bad : Int32) (v_badPlace : Int32) (v_ended : Int32) (v_open : Int32) (v_wait : (Nat → Int32)) (k49 : Int32 → Int32 → (Nat → Int32) → Option R_pM_goesOnTest) (self : Int32 → Int32 → (Nat → Int32) → Option R_pM_goesOnTest) (v_coded : Int32) (v_waits : Int32) (v_codes : (Nat → Int32)) : Option R_pM_goesOnTest :=
  bd1 (pM_isOn 25 v_waits v_wait) fun rc7 =>
  if rc7 = 0 then
    bd3 (pM_drops v_coded v_waits v_codes v_wait) fun v_coded_c8 v_waits_c8 v_codes_c8 =>
    self v_coded_c8 v_waits_c8 v_codes_c8
  else
    k49 v_coded v_waits v_codes
def pM_goesOnTest_b33 (N : Nat) (v_end : Int32) (v_andWord : (Nat → Int32)) (v_orWord : (Nat → Int32)) (v_tape : (Nat → Int32)) (v_at : Int32) (v_bad : Int32) (v_badPlace : Int32) (v_ended : Int32) (v_open : Int32) (v_wait : (Nat → Int32)) (k49 : Int32 → Int32 → (Nat → Int32) → Option R_pM_goesOnTest) : Nat → Int32 → Int32 → (Nat → Int32) → Option R_pM_goesOnTest := zlp3 (pM_goesOnTest_b33_F N v_end v_andWord v_orWord v_tape v_at v_bad v_badPlace v_ended v_open v_wait k49)
def pM_goesOnTest_b49 (N : Nat) (v_end : Int32) (v_andWord : (Nat → Int32)) (v_orWord : (Nat → Int32)) (v_tape : (Nat → Int32)) (self : Int32 → Int32 → Int32 → Int32 → (Nat → Int32) → Option R_pM_goesOnTest) (k76 : Int32 → Int32 → Int32 → Int32 → (Nat → Int32) → Option R_pM_goesOnTest) (v_at : Int32) (v_bad : Int32) (v_badPlace : Int32) (v_coded : Int32) (v_ended : Int32) (v_open : Int32) (v_waits : Int32) (v_codes : (Nat → Int32)) (v_wait : (Nat → Int32)) : Option R_pM_goesOnTest :=
  bd4 (pM_dropsNots N v_bad v_coded (v_open - 1) (v_waits - 1) v_codes v_wait) fun v_coded_c15 v_open_c15 v_waits_c15 v_codes_c15 =>
  self v_at v_coded_c15 v_open_c15 v_waits_c15 v_codes_c15
def pM_goesOnTest_b0_F (N : Nat) (v_end : Int32) (v_andWord : (Nat → Int32)) (v_orWord : (Nat → Int32)) (v_tape : (Nat → Int32)) (v_bad : Int32) (v_badPlace : Int32) (v_ended : Int32) (v_wait : (Nat → Int32)) (k76 : Int32 → Int32 → Int32 → Int32 → (Nat → Int32) → Option R_pM_goesOnTest) (self : Int32 → Int32 → Int32 → Int32 → (Nat → Int32) → Option R_pM_goesOnTest) (v_at : Int32) (v_coded : Int32) (v_open : Int32) (v_waits : Int32) (v_codes : (Nat → Int32)) : Option R_pM_goesOnTest :=
  if v_bad = 0 then
    bd2 (pM_look N v_at v_end v_tape) fun rc1 v_at_c1 =>
    if rc1 = 93 then
      bd1 (pM_hasSquare N v_waits v_wait) fun rc2 =>
      if rc2 = 0 then
        k76 v_at_c1 v_coded v_open v_waits v_codes
      else
        pM_goesOnTest_b33 N v_end v_andWord v_orWord v_tape (v_at_c1 + 1) v_bad v_badPlace v_ended v_open v_wait (fun v_coded_k1 v_waits_k2 v_codes_k3 => pM_goesOnTest_b49 N v_end v_andWord v_orWord v_tape self k76 (v_at_c1 + 1) v_bad v_badPlace v_coded_k1 v_ended v_open v_waits_k2 v_codes_k3 v_wait) N v_coded v_waits v_codes
    else
      k76 v_at_c1 v_coded v_open v_waits v_codes
  else
    k76 v_at v_coded v_open v_waits v_codes
def pM_goesOnTest_b0 (N : Nat) (v_end : Int32) (v_andWord : (Nat → Int32)) (v_orWord : (Nat → Int32)) (v_tape : (Nat → Int32)) (v_bad : Int32) (v_badPlace : Int32) (v_ended : Int32) (v_wait : (Nat → Int32)) (k76 : Int32 → Int32 → Int32 → Int32 → (Nat → Int32) → Option R_pM_goesOnTest) : Nat → Int32 → Int32 → Int32 → Int32 → (Nat → Int32) → Option R_pM_goesOnTest := zlp5 (pM_goesOnTest_b0_F N v_end v_andWord v_orWord v_tape v_bad v_badPlace v_ended v_wait k76)
def pM_goesOnTest_b155 (N : Nat) (v_end : Int32) (v_andWord : (Nat → Int32)) (v_orWord : (Nat → Int32)) (v_tape : (Nat → Int32)) (self : Int32 → Int32 → (Nat → Int32) → Option R_pM_goesOnTest) (v_at : Int32) (v_bad : Int32) (v_badPlace : Int32) (v_coded : Int32) (v_ended : Int32) (v_open : Int32) (v_waits : Int32) (v_codes : (Nat → Int32)) (v_wait : (Nat → Int32)) : Option R_pM_goesOnTest :=
  bd3 (pM_drops v_coded v_waits v_codes v_wait) fun v_coded_c16 v_waits_c16 v_codes_c16 =>
  self v_coded_c16 v_waits_c16 v_codes_c16
def pM_goesOnTest_b137_F (N : Nat) (v_end : Int32) (v_andWord : (Nat → Int32)) (v_orWord : (Nat → Int32)) (v_tape : (Nat → Int32)) (v_at : Int32) (v_bad : Int32) (v_badPlace : Int32) (v_ended : Int32) (v_open : Int32) (v_wait : (Nat → Int32)) (self : Int32 → Int32 → (Nat → Int32) → Option R_pM_goesOnTest) (v_coded : Int32) (v_waits : Int32) (v_codes : (Nat → Int32)) : Option R_pM_goesOnTest :=
  bd1 (pM_isOn 14 v_waits v_wait) fun rc9 =>
  if rc9 = 0 then
    bd1 (pM_isOn 15 v_waits v_wait) fun rc10 =>
    if rc10 = 0 then
      gd (ib v_waits 700) <|
      some (1, v_at, v_bad, v_badPlace, v_coded, v_ended, v_open, (v_waits + 1), v_codes, (upd v_wait (ix v_waits) 15))
    else
      pM_goesOnTest_b155 N v_end v_andWord v_orWord v_tape self v_at v_bad v_badPlace v_coded v_ended v_open v_waits v_codes v_wait
  else
    pM_goesOnTest_b155 N v_end v_andWord v_orWord v_tape self v_at v_bad v_badPlace v_coded v_ended v_open v_waits v_codes v_wait
def pM_goesOnTest_b137 (N : Nat) (v_end : Int32) (v_andWord : (Nat → Int32)) (v_orWord : (Nat → Int32)) (v_tape : (Nat → Int32)) (v_at : Int32) (v_bad : Int32) (v_badPlace : Int32) (v_ended : Int32) (v_open : Int32) (v_wait : (Nat → Int32)) : Nat → Int32 → Int32 → (Nat → Int32) → Option R_pM_goesOnTest := zlp3 (pM_goesOnTest_b137_F N v_end v_andWord v_orWord v_tape v_at v_bad v_badPlace v_ended v_open v_wait)
def pM_goesOnTest_b87_F (N : Nat) (v_end : Int32) (v_andWord : (Nat → Int32)) (v_orWord : (Nat → Int32)) (v_tape : (Nat → Int32)) (v_at : Int32) (v_bad : Int32) (v_badPlace : Int32) (v_ended : Int32) (v_open : Int32) (v_wait : (Nat → Int32)) (self : Int32 → Int32 → (Nat → Int32) → Option R_pM_goesOnTest) (v_coded : Int32) (v_waits : Int32) (v_codes : (Nat → Int32)) : Option R_pM_goesOnTest :=
  bd1 (pM_isOn 14 v_waits v_wait) fun rc12 =>
  if rc12 = 0 then
    gd (ib v_waits 700) <|
    some (1, v_at, v_bad, v_badPlace, v_coded, v_ended, v_open, (v_waits + 1), v_codes, (upd v_wait (ix v_waits) 14))
  else
    bd3 (pM_drops v_coded v_waits v_codes v_wait) fun v_coded_c14 v_waits_c14 v_codes_c14 =>
    self v_coded_c14 v_waits_c14 v_codes_c14
def pM_goesOnTest_b87 (N : Nat) (v_end : Int32) (v_andWord : (Nat → Int32)) (v_orWord : (Nat → Int32)) (v_tape : (Nat → Int32)) (v_at : Int32) (v_bad : Int32) (v_badPlace : Int32) (v_ended : Int32) (v_open : Int32) (v_wait : (Nat → Int32)) : Nat → Int32 → Int32 → (Nat → Int32) → Option R_pM_goesOnTest := zlp3 (pM_goesOnTest_b87_F N v_end v_andWord v_orWord v_tape v_at v_bad v_badPlace v_ended v_open v_wait)
def pM_goesOnTest_b76 (N : Nat) (v_end : Int32) (v_andWord : (Nat → Int32)) (v_orWord : (Nat → Int32)) (v_tape : (Nat → Int32)) (v_at : Int32) (v_bad : Int32) (v_badPlace : Int32) (v_coded : Int32) (v_ended : Int32) (v_open : Int32) (v_waits : Int32) (v_codes : (Nat → Int32)) (v_wait : (Nat → Int32)) : Option R_pM_goesOnTest :=
  bd3 (pM_takes N 3 v_andWord v_at v_bad v_end v_ended v_tape) fun rc3 v_at_c3 v_ended_c3 =>
  if rc3 = 0 then
    bd3 (pM_takes N 2 v_orWord v_at_c3 v_bad v_end v_ended_c3 v_tape) fun rc4 v_at_c4 v_ended_c4 =>
    if rc4 = 0 then
      if v_bad = 0 then
        bd1 (pM_hasSquare N v_waits v_wait) fun rc5 =>
        if rc5 = 0 then
          some (0, v_at_c4, v_bad, v_badPlace, v_coded, v_ended_c4, v_open, v_waits, v_codes, v_wait)
        else
          bd2 (pM_fail 1 v_at_c4 v_bad v_badPlace) fun v_bad_c6 v_badPlace_c6 =>
          some (0, v_at_c4, v_bad_c6, v_badPlace_c6, v_coded, v_ended_c4, v_open, v_waits, v_codes, v_wait)
      else
        some (0, v_at_c4, v_bad, v_badPlace, v_coded, v_ended_c4, v_open, v_waits, v_codes, v_wait)
    else
      pM_goesOnTest_b137 N v_end v_andWord v_orWord v_tape v_at_c4 v_bad v_badPlace v_ended_c4 v_open v_wait N v_coded v_waits v_codes
  else
    pM_goesOnTest_b87 N v_end v_andWord v_orWord v_tape v_at_c3 v_bad v_badPlace v_ended_c3 v_open v_wait N v_coded v_waits v_codes
def pM_goesOnTest (N : Nat) (v_at : Int32) (v_bad : Int32) (v_badPlace : Int32) (v_coded : Int32) (v_end : Int32) (v_ended : Int32) (v_open : Int32) (v_waits : Int32) (v_andWord : (Nat → Int32)) (v_codes : (Nat → Int32)) (v_orWord : (Nat → Int32)) (v_tape : (Nat → Int32)) (v_wait : (Nat → Int32)) : Option R_pM_goesOnTest :=
  pM_goesOnTest_b0 N v_end v_andWord v_orWord v_tape v_bad v_badPlace v_ended v_wait (fun v_at_k4 v_coded_k5 v_open_k6 v_waits_k7 v_codes_k8 => pM_goesOnTest_b76 N v_end v_andWord v_orWord v_tape v_at_k4 v_bad v_badPlace v_coded_k5 v_ended v_open_k6 v_waits_k7 v_codes_k8 v_wait) N v_at v_coded v_open v_waits v_codes
abbrev R_pM_test : Type := Int32 × Int32 × Int32 × Int32 × Int32 × Int32 × Int32 × Int32 × (Nat → Int32) × (Nat → Int32)
def pM_test_b2_F (N : Nat) (v_end : Int32) (v_allWord : (Nat → Int32)) (v_andWord : (Nat → Int32)) (v_debtWord : (Nat → Int32)) (v_maxWord : (Nat → Int32)) (v_minWord : (Nat → Int32)) (v_notWord : (Nat → Int32)) (v_orWord : (Nat → Int32)) (v_paidWord : (Nat → Int32)) (v_penceWord : (Nat → Int32)) (v_poundsWord : (Nat → Int32)) (v_shillingsWord : (Nat → Int32)) (v_shireWord : (Nat → Int32)) (v_tape : (Nat → Int32)) (v_termWord : (Nat → Int32)) (v_yearWord : (Nat → Int32)) (k110 : Int32 → Int32 → Int32 → Int32 → Int32 → Int32 → Int32 → Int32 → (Nat → Int32) → (Nat → Int32) → Option R_pM_test) (self : Int32 → Int32 → Int32 → Int32 → Int32 → Int32 → Int32 → Int32 → Int32 → (Nat → Int32) → (Nat → Int32) → Option R_pM_test) (x1 : Int32) (v_at : Int32) (v_bad : Int32) (v_badPlace : Int32) (v_base : Int32) (v_coded : Int32) (v_ended : Int32) (v_open : Int32) (v_waits : Int32) (v_codes : (Nat → Int32)) (v_wait : (Nat → Int32)) : Option R_pM_test :=
  if x1 = 0 then
    k110 v_at v_bad v_badPlace v_base v_coded v_ended v_open v_waits v_codes v_wait
  else
    if v_bad = 0 then
      bd2 (pM_look N v_at v_end v_tape) fun rc1 v_at_c1 =>
      if rc1 = 91 then
        bd5 (pM_opens 25 v_at_c1 v_bad v_badPlace v_open v_waits v_wait) fun v_bad_c8 v_badPlace_c8 v_open_c8 v_waits_c8 v_wait_c8 =>
        self x1 (v_at_c1 + 1) v_bad_c8 v_badPlace_c8 v_base v_coded v_ended v_open_c8 v_waits_c8 v_codes v_wait_c8
      else
        bd2 (pM_isHere N 3 v_notWord v_at_c1 v_bad v_end v_ended v_tape) fun rc2 v_at_c2 =>
        if rc2 = 0 then
          bd10 (pM_fact N v_at_c2 v_bad v_badPlace v_base v_coded v_end v_ended v_open v_waits v_allWord v_codes v_debtWord v_maxWord v_minWord v_paidWord v_penceWord v_poundsWord v_shillingsWord v_shireWord v_tape v_termWord v_wait v_yearWord) fun v_at_c3 v_bad_c3 v_badPlace_c3 v_base_c3 v_coded_c3 v_ended_c3 v_open_c3 v_waits_c3 v_codes_c3 v_wait_c3 =>
          bd4 (pM_dropsNots N v_bad_c3 v_coded_c3 v_open_c3 v_waits_c3 v_codes_c3 v_wait_c3) fun v_coded_c4 v_open_c4 v_waits_c4 v_codes_c4 =>
          if v_bad_c3 = 0 then
            bd10 (pM_goesOnTest N v_at_c3 v_bad_c3 v_badPlace_c3 v_coded_c4 v_end v_ended_c3 v_open_c4 v_waits_c4 v_andWord v_codes_c4 v_orWord v_tape v_wait_c3) fun rc5 v_at_c5 v_bad_c5 v_badPlace_c5 v_coded_c5 v_ended_c5 v_open_c5 v_waits_c5 v_codes_c5 v_wait_c5 =>
            if rc5 = 0 then
              self 0 v_at_c5 v_bad_c5 v_badPlace_c5 v_base_c3 v_coded_c5 v_ended_c5 v_open_c5 v_waits_c5 v_codes_c5 v_wait_c5
            else
              self 1 v_at_c5 v_bad_c5 v_badPlace_c5 v_base_c3 v_coded_c5 v_ended_c5 v_open_c5 v_waits_c5 v_codes_c5 v_wait_c5
          else
            self 0 v_at_c3 v_bad_c3 v_badPlace_c3 v_base_c3 v_coded_c4 v_ended_c3 v_open_c4 v_waits_c4 v_codes_c4 v_wait_c3
        else
          bd5 (pM_opens 16 v_at_c2 v_bad v_badPlace v_open v_waits v_wait) fun v_bad_c6 v_badPlace_c6 v_open_c6 v_waits_c6 v_wait_c6 =>
          bd4 (pM_asks N 3 v_notWord v_at_c2 v_bad_c6 v_badPlace_c6 v_end v_ended v_tape) fun v_at_c7 v_bad_c7 v_badPlace_c7 v_ended_c7 =>
          self x1 v_at_c7 v_bad_c7 v_badPlace_c7 v_base v_coded v_ended_c7 v_open_c6 v_waits_c6 v_codes v_wait_c6
    else
      k110 v_at v_bad v_badPlace v_base v_coded v_ended v_open v_waits v_codes v_wait
def pM_test_b2 (N : Nat) (v_end : Int32) (v_allWord : (Nat → Int32)) (v_andWord : (Nat → Int32)) (v_debtWord : (Nat → Int32)) (v_maxWord : (Nat → Int32)) (v_minWord : (Nat → Int32)) (v_notWord : (Nat → Int32)) (v_orWord : (Nat → Int32)) (v_paidWord : (Nat → Int32)) (v_penceWord : (Nat → Int32)) (v_poundsWord : (Nat → Int32)) (v_shillingsWord : (Nat → Int32)) (v_shireWord : (Nat → Int32)) (v_tape : (Nat → Int32)) (v_termWord : (Nat → Int32)) (v_yearWord : (Nat → Int32)) (k110 : Int32 → Int32 → Int32 → Int32 → Int32 → Int32 → Int32 → Int32 → (Nat → Int32) → (Nat → Int32) → Option R_pM_test) : Nat → Int32 → Int32 → Int32 → Int32 → Int32 → Int32 → Int32 → Int32 → Int32 → (Nat → Int32) → (Nat → Int32) → Option R_pM_test := zlp11 (pM_test_b2_F N v_end v_allWord v_andWord v_debtWord v_maxWord v_minWord v_notWord v_orWord v_paidWord v_penceWord v_poundsWord v_shillingsWord v_shireWord v_tape v_termWord v_yearWord k110)
def pM_test_b110_F (N : Nat) (v_end : Int32) (v_allWord : (Nat → Int32)) (v_andWord : (Nat → Int32)) (v_debtWord : (Nat → Int32)) (v_maxWord : (Nat → Int32)) (v_minWord : (Nat → Int32)) (v_notWord : (Nat → Int32)) (v_orWord : (Nat → Int32)) (v_paidWord : (Nat → Int32)) (v_penceWord : (Nat → Int32)) (v_poundsWord : (Nat → Int32)) (v_shillingsWord : (Nat → Int32)) (v_shireWord : (Nat → Int32)) (v_tape : (Nat → Int32)) (v_termWord : (Nat → Int32)) (v_yearWord : (Nat → Int32)) (v_at : Int32) (v_bad : Int32) (v_badPlace : Int32) (v_base : Int32) (v_ended : Int32) (v_open : Int32) (v_wait : (Nat → Int32)) (self : Int32 → Int32 → (Nat → Int32) → Option R_pM_test) (v_coded : Int32) (v_waits : Int32) (v_codes : (Nat → Int32)) : Option R_pM_test :=
  if v_bad = 0 then
    if v_waits ≤ 0 then
      some (v_at, v_bad, v_badPlace, v_base, v_coded, v_ended, v_open, v_waits, v_codes, v_wait)
    else
      bd3 (pM_drops v_coded v_waits v_codes v_wait) fun v_coded_c9 v_waits_c9 v_codes_c9 =>
      self v_coded_c9 v_waits_c9 v_codes_c9
  else
    some (v_at, v_bad, v_badPlace, v_base, v_coded, v_ended, v_open, v_waits, v_codes, v_wait)
def pM_test_b110 (N : Nat) (v_end : Int32) (v_allWord : (Nat → Int32)) (v_andWord : (Nat → Int32)) (v_debtWord : (Nat → Int32)) (v_maxWord : (Nat → Int32)) (v_minWord : (Nat → Int32)) (v_notWord : (Nat → Int32)) (v_orWord : (Nat → Int32)) (v_paidWord : (Nat → Int32)) (v_penceWord : (Nat → Int32)) (v_poundsWord : (Nat → Int32)) (v_shillingsWord : (Nat → Int32)) (v_shireWord : (Nat → Int32)) (v_tape : (Nat → Int32)) (v_termWord : (Nat → Int32)) (v_yearWord : (Nat → Int32)) (v_at : Int32) (v_bad : Int32) (v_badPlace : Int32) (v_base : Int32) (v_ended : Int32) (v_open : Int32) (v_wait : (Nat → Int32)) : Nat → Int32 → Int32 → (Nat → Int32) → Option R_pM_test := zlp3 (pM_test_b110_F N v_end v_allWord v_andWord v_debtWord v_maxWord v_minWord v_notWord v_orWord v_paidWord v_penceWord v_poundsWord v_shillingsWord v_shireWord v_tape v_termWord v_yearWord v_at v_bad v_badPlace v_base v_ended v_open v_wait)
def pM_test (N : Nat) (v_at : Int32) (v_bad : Int32) (v_badPlace : Int32) (v_base : Int32) (v_coded : Int32) (v_end : Int32) (v_ended : Int32) (v_open : Int32) (v_waits : Int32) (v_allWord : (Nat → Int32)) (v_andWord : (Nat → Int32)) (v_codes : (Nat → Int32)) (v_debtWord : (Nat → Int32)) (v_maxWord : (Nat → Int32)) (v_minWord : (Nat → Int32)) (v_notWord : (Nat → Int32)) (v_orWord : (Nat → Int32)) (v_paidWord : (Nat → Int32)) (v_penceWord : (Nat → Int32)) (v_poundsWord : (Nat → Int32)) (v_shillingsWord : (Nat → Int32)) (v_shireWord : (Nat → Int32)) (v_tape : (Nat → Int32)) (v_termWord : (Nat → Int32)) (v_wait : (Nat → Int32)) (v_yearWord : (Nat → Int32)) : Option R_pM_test :=
  pM_test_b2 N v_end v_allWord v_andWord v_debtWord v_maxWord v_minWord v_notWord v_orWord v_paidWord v_penceWord v_poundsWord v_shillingsWord v_shireWord v_tape v_termWord v_yearWord (fun v_at_k1 v_bad_k2 v_badPlace_k3 v_base_k4 v_coded_k5 v_ended_k6 v_open_k7 v_waits_k8 v_codes_k9 v_wait_k10 => pM_test_b110 N v_end v_allWord v_andWord v_debtWord v_maxWord v_minWord v_notWord v_orWord v_paidWord v_penceWord v_poundsWord v_shillingsWord v_shireWord v_tape v_termWord v_yearWord v_at_k1 v_bad_k2 v_badPlace_k3 v_base_k4 v_ended_k6 v_open_k7 v_wait_k10 N v_coded_k5 v_waits_k8 v_codes_k9) N 1 v_at v_bad v_badPlace v_base v_coded v_ended v_open v_waits v_codes v_wait
abbrev R_pM_statement : Type := Int32 × Int32 × Int32 × Int32 × Int32 × Int32 × Int32 × Int32 × (Nat → Int32) × (Nat → Int32) × (Nat → Int32) × (Nat → Int32) × (Nat → Int32) × (Nat → Int32) × (Nat → Int32) × (Nat → Int32) × (Nat → Int32) × (Nat → Int32)
def pM_statement_b279 (N : Nat) (v_end : Int32) (v_allWord : (Nat → Int32)) (v_allowWord : (Nat → Int32)) (v_andWord : (Nat → Int32)) (v_blanchedWord : (Nat → Int32)) (v_debtWord : (Nat → Int32)) (v_farmWord : (Nat → Int32)) (v_forWord : (Nat → Int32)) (v_inWord : (Nat → Int32)) (v_maxWord : (Nat → Int32)) (v_minWord : (Nat → Int32)) (v_notWord : (Nat → Int32)) (v_orWord : (Nat → Int32)) (v_paidWord : (Nat → Int32)) (v_pardonWord : (Nat → Int32)) (v_penceWord : (Nat → Int32)) (v_poundsWord : (Nat → Int32)) (v_shillingsWord : (Nat → Int32)) (v_shireWord : (Nat → Int32)) (v_splitWord : (Nat → Int32)) (v_tape : (Nat → Int32)) (v_termWord : (Nat → Int32)) (v_yearWord : (Nat → Int32)) (x1 : Int32) (v_at : Int32) (v_bad : Int32) (v_badPlace : Int32) (v_base : Int32) (v_coded : Int32) (v_ended : Int32) (v_open : Int32) (v_waits : Int32) (v_codes : (Nat → Int32)) (v_first : (Nat → Int32)) (v_isBlanched : (Nat → Int32)) (v_many : (Nat → Int32)) (v_second : (Nat → Int32)) (v_sort : (Nat → Int32)) (v_sumEnd : (Nat → Int32)) (v_sumFrom : (Nat → Int32)) (v_testEnd : (Nat → Int32)) (v_wait : (Nat → Int32)) : Option R_pM_statement :=
  gd (ib x1 4824) <|
  bd3 (pM_asksSign N 59 v_at v_bad v_badPlace v_end v_tape) fun v_at_c20 v_bad_c20 v_badPlace_c20 =>
  some (v_at_c20, v_bad_c20, v_badPlace_c20, v_base, v_coded, v_ended, v_open, v_waits, v_codes, v_first, v_isBlanched, (upd v_many (ix 0) ((v_many (ix 0)) + 1)), v_second, v_sort, v_sumEnd, v_sumFrom, (upd v_testEnd (ix x1) v_coded), v_wait)
def pM_statement_b250 (N : Nat) (v_end : Int32) (v_allWord : (Nat → Int32)) (v_allowWord : (Nat → Int32)) (v_andWord : (Nat → Int32)) (v_blanchedWord : (Nat → Int32)) (v_debtWord : (Nat → Int32)) (v_farmWord : (Nat → Int32)) (v_forWord : (Nat → Int32)) (v_inWord : (Nat → Int32)) (v_maxWord : (Nat → Int32)) (v_minWord : (Nat → Int32)) (v_notWord : (Nat → Int32)) (v_orWord : (Nat → Int32)) (v_paidWord : (Nat → Int32)) (v_pardonWord : (Nat → Int32)) (v_penceWord : (Nat → Int32)) (v_poundsWord : (Nat → Int32)) (v_shillingsWord : (Nat → Int32)) (v_shireWord : (Nat → Int32)) (v_splitWord : (Nat → Int32)) (v_tape : (Nat → Int32)) (v_termWord : (Nat → Int32)) (v_yearWord : (Nat → Int32)) (x1 : Int32) (v_at : Int32) (v_bad : Int32) (v_badPlace : Int32) (v_base : Int32) (v_coded : Int32) (v_ended : Int32) (v_open : Int32) (v_waits : Int32) (v_codes : (Nat → Int32)) (v_first : (Nat → Int32)) (v_isBlanched : (Nat → Int32)) (v_many : (Nat → Int32)) (v_second : (Nat → Int32)) (v_sort : (Nat → Int32)) (v_sumEnd : (Nat → Int32)) (v_sumFrom : (Nat → Int32)) (v_testEnd : (Nat → Int32)) (v_wait : (Nat → Int32)) : Option R_pM_statement :=
  gd (ib x1 4824) <|
  bd4 (pM_asks N 3 v_forWord v_at v_bad v_badPlace v_end v_ended v_tape) fun v_at_c17 v_bad_c17 v_badPlace_c17 v_ended_c17 =>
  if v_bad_c17 = 0 then
    bd10 (pM_test N v_at_c17 v_bad_c17 v_badPlace_c17 v_base v_coded v_end v_ended_c17 v_open v_waits v_allWord v_andWord v_codes v_debtWord v_maxWord v_minWord v_notWord v_orWord v_paidWord v_penceWord v_poundsWord v_shillingsWord v_shireWord v_tape v_termWord v_wait v_yearWord) fun v_at_c18 v_bad_c18 v_badPlace_c18 v_base_c18 v_coded_c18 v_ended_c18 v_open_c18 v_waits_c18 v_codes_c18 v_wait_c18 =>
    pM_statement_b279 N v_end v_allWord v_allowWord v_andWord v_blanchedWord v_debtWord v_farmWord v_forWord v_inWord v_maxWord v_minWord v_notWord v_orWord v_paidWord v_pardonWord v_penceWord v_poundsWord v_shillingsWord v_shireWord v_splitWord v_tape v_termWord v_yearWord x1 v_at_c18 v_bad_c18 v_badPlace_c18 v_base_c18 v_coded_c18 v_ended_c18 v_open_c18 v_waits_c18 v_codes_c18 v_first v_isBlanched v_many v_second v_sort (upd v_sumEnd (ix x1) v_coded) v_sumFrom v_testEnd v_wait_c18
  else
    pM_statement_b279 N v_end v_allWord v_allowWord v_andWord v_blanchedWord v_debtWord v_farmWord v_forWord v_inWord v_maxWord v_minWord v_notWord v_orWord v_paidWord v_pardonWord v_penceWord v_poundsWord v_shillingsWord v_shireWord v_splitWord v_tape v_termWord v_yearWord x1 v_at_c17 v_bad_c17 v_badPlace_c17 v_base v_coded v_ended_c17 v_open v_waits v_codes v_first v_isBlanched v_many v_second v_sort (upd v_sumEnd (ix x1) v_coded) v_sumFrom v_testEnd v_wait
def pM_statement (N : Nat) (v_at : Int32) (v_bad : Int32) (v_badPlace : Int32) (v_base : Int32) (v_coded : Int32) (v_end : Int32) (v_ended : Int32) (v_open : Int32) (v_waits : Int32) (v_allWord : (Nat → Int32)) (v_allowWord : (Nat → Int32)) (v_andWord : (Nat → Int32)) (v_blanchedWord : (Nat → Int32)) (v_codes : (Nat → Int32)) (v_debtWord : (Nat → Int32)) (v_farmWord : (Nat → Int32)) (v_first : (Nat → Int32)) (v_forWord : (Nat → Int32)) (v_inWord : (Nat → Int32)) (v_isBlanched : (Nat → Int32)) (v_many : (Nat → Int32)) (v_maxWord : (Nat → Int32)) (v_minWord : (Nat → Int32)) (v_notWord : (Nat → Int32)) (v_orWord : (Nat → Int32)) (v_paidWord : (Nat → Int32)) (v_pardonWord : (Nat → Int32)) (v_penceWord : (Nat → Int32)) (v_poundsWord : (Nat → Int32)) (v_second : (Nat → Int32)) (v_shillingsWord : (Nat → Int32)) (v_shireWord : (Nat → Int32)) (v_sort : (Nat → Int32)) (v_splitWord : (Nat → Int32)) (v_sumEnd : (Nat → Int32)) (v_sumFrom : (Nat → Int32)) (v_tape : (Nat → Int32)) (v_termWord : (Nat → Int32)) (v_testEnd : (Nat → Int32)) (v_wait : (Nat → Int32)) (v_yearWord : (Nat → Int32)) : Option R_pM_statement :=
  bd2 (pM_look N v_at v_end v_tape) fun rc1 v_at_c1 =>
  if (v_many (ix 0)) = 24 then
    bd2 (pM_fail 4 v_at_c1 v_bad v_badPlace) fun v_bad_c15 v_badPlace_c15 =>
    some (v_at_c1, v_bad_c15, v_badPlace_c15, v_base, v_coded, v_ended, v_open, v_waits, v_codes, v_first, v_isBlanched, v_many, v_second, v_sort, v_sumEnd, v_sumFrom, v_testEnd, v_wait)
  else
    gd (ib (0 + (v_many (ix 0))) 4824) <|
    bd3 (pM_takes N 4 v_farmWord v_at_c1 v_bad v_end v_ended v_tape) fun rc3 v_at_c3 v_ended_c3 =>
    if rc3 = 0 then
      bd3 (pM_takes N 5 v_allowWord v_at_c3 v_bad v_end v_ended_c3 v_tape) fun rc4 v_at_c4 v_ended_c4 =>
      if rc4 = 0 then
        bd3 (pM_takes N 6 v_pardonWord v_at_c4 v_bad v_end v_ended_c4 v_tape) fun rc5 v_at_c5 v_ended_c5 =>
        if rc5 = 0 then
          bd3 (pM_takes N 5 v_splitWord v_at_c5 v_bad v_end v_ended_c5 v_tape) fun rc6 v_at_c6 v_ended_c6 =>
          if rc6 = 0 then
            bd2 (pM_fail 1 v_at_c6 v_bad v_badPlace) fun v_bad_c7 v_badPlace_c7 =>
            pM_statement_b250 N v_end v_allWord v_allowWord v_andWord v_blanchedWord v_debtWord v_farmWord v_forWord v_inWord v_maxWord v_minWord v_notWord v_orWord v_paidWord v_pardonWord v_penceWord v_poundsWord v_shillingsWord v_shireWord v_splitWord v_tape v_termWord v_yearWord (0 + (v_many (ix 0))) v_at_c6 v_bad_c7 v_badPlace_c7 0 v_coded v_ended_c6 0 0 v_codes (upd v_first (ix (0 + (v_many (ix 0)))) 0) (upd v_isBlanched (ix (0 + (v_many (ix 0)))) 0) v_many (upd v_second (ix (0 + (v_many (ix 0)))) 0) v_sort v_sumEnd (upd v_sumFrom (ix (0 + (v_many (ix 0)))) v_coded) v_testEnd v_wait
          else
            bd5 (pM_number N 2 20 v_at_c6 v_bad v_badPlace v_end v_ended_c6 v_tape) fun rc8 v_at_c8 v_bad_c8 v_badPlace_c8 v_ended_c8 =>
            pM_statement_b250 N v_end v_allWord v_allowWord v_andWord v_blanchedWord v_debtWord v_farmWord v_forWord v_inWord v_maxWord v_minWord v_notWord v_orWord v_paidWord v_pardonWord v_penceWord v_poundsWord v_shillingsWord v_shireWord v_splitWord v_tape v_termWord v_yearWord (0 + (v_many (ix 0))) v_at_c8 v_bad_c8 v_badPlace_c8 0 v_coded v_ended_c8 0 0 v_codes (upd (upd v_first (ix (0 + (v_many (ix 0)))) 0) (ix (0 + (v_many (ix 0)))) rc8) (upd v_isBlanched (ix (0 + (v_many (ix 0)))) 0) v_many (upd v_second (ix (0 + (v_many (ix 0)))) 0) (upd v_sort (ix (0 + (v_many (ix 0)))) 3) v_sumEnd (upd v_sumFrom (ix (0 + (v_many (ix 0)))) v_coded) v_testEnd v_wait
        else
          bd5 (pM_number N 1 999 v_at_c5 v_bad v_badPlace v_end v_ended_c5 v_tape) fun rc9 v_at_c9 v_bad_c9 v_badPlace_c9 v_ended_c9 =>
          bd4 (pM_asks N 2 v_inWord v_at_c9 v_bad_c9 v_badPlace_c9 v_end v_ended_c9 v_tape) fun v_at_c10 v_bad_c10 v_badPlace_c10 v_ended_c10 =>
          bd5 (pM_number N ((upd (upd v_first (ix (0 + (v_many (ix 0)))) 0) (ix (0 + (v_many (ix 0)))) rc9) (ix (0 + (v_many (ix 0))))) 999 v_at_c10 v_bad_c10 v_badPlace_c10 v_end v_ended_c10 v_tape) fun rc11 v_at_c11 v_bad_c11 v_badPlace_c11 v_ended_c11 =>
          pM_statement_b250 N v_end v_allWord v_allowWord v_andWord v_blanchedWord v_debtWord v_farmWord v_forWord v_inWord v_maxWord v_minWord v_notWord v_orWord v_paidWord v_pardonWord v_penceWord v_poundsWord v_shillingsWord v_shireWord v_splitWord v_tape v_termWord v_yearWord (0 + (v_many (ix 0))) v_at_c11 v_bad_c11 v_badPlace_c11 0 v_coded v_ended_c11 0 0 v_codes (upd (upd v_first (ix (0 + (v_many (ix 0)))) 0) (ix (0 + (v_many (ix 0)))) rc9) (upd v_isBlanched (ix (0 + (v_many (ix 0)))) 0) v_many (upd (upd v_second (ix (0 + (v_many (ix 0)))) 0) (ix (0 + (v_many (ix 0)))) rc11) (upd v_sort (ix (0 + (v_many (ix 0)))) 2) v_sumEnd (upd v_sumFrom (ix (0 + (v_many (ix 0)))) v_coded) v_testEnd v_wait
      else
        bd10 (pM_sums N v_at_c4 v_bad v_badPlace 0 v_coded v_end v_ended_c4 0 0 v_codes v_debtWord v_maxWord v_minWord v_paidWord v_penceWord v_poundsWord v_shillingsWord v_tape v_termWord v_wait v_yearWord) fun v_at_c12 v_bad_c12 v_badPlace_c12 v_base_c12 v_coded_c12 v_ended_c12 v_open_c12 v_waits_c12 v_codes_c12 v_wait_c12 =>
        pM_statement_b250 N v_end v_allWord v_allowWord v_andWord v_blanchedWord v_debtWord v_farmWord v_forWord v_inWord v_maxWord v_minWord v_notWord v_orWord v_paidWord v_pardonWord v_penceWord v_poundsWord v_shillingsWord v_shireWord v_splitWord v_tape v_termWord v_yearWord (0 + (v_many (ix 0))) v_at_c12 v_bad_c12 v_badPlace_c12 v_base_c12 v_coded_c12 v_ended_c12 v_open_c12 v_waits_c12 v_codes_c12 (upd v_first (ix (0 + (v_many (ix 0)))) 0) (upd v_isBlanched (ix (0 + (v_many (ix 0)))) 0) v_many (upd v_second (ix (0 + (v_many (ix 0)))) 0) (upd v_sort (ix (0 + (v_many (ix 0)))) 1) v_sumEnd (upd v_sumFrom (ix (0 + (v_many (ix 0)))) v_coded) v_testEnd v_wait_c12
    else
      bd10 (pM_sums N v_at_c3 v_bad v_badPlace 0 v_coded v_end v_ended_c3 0 0 v_codes v_debtWord v_maxWord v_minWord v_paidWord v_penceWord v_poundsWord v_shillingsWord v_tape v_termWord v_wait v_yearWord) fun v_at_c13 v_bad_c13 v_badPlace_c13 v_base_c13 v_coded_c13 v_ended_c13 v_open_c13 v_waits_c13 v_codes_c13 v_wait_c13 =>
      bd3 (pM_takes N 8 v_blanchedWord v_at_c13 v_bad_c13 v_end v_ended_c13 v_tape) fun rc14 v_at_c14 v_ended_c14 =>
      pM_statement_b250 N v_end v_allWord v_allowWord v_andWord v_blanchedWord v_debtWord v_farmWord v_forWord v_inWord v_maxWord v_minWord v_notWord v_orWord v_paidWord v_pardonWord v_penceWord v_poundsWord v_shillingsWord v_shireWord v_splitWord v_tape v_termWord v_yearWord (0 + (v_many (ix 0))) v_at_c14 v_bad_c13 v_badPlace_c13 v_base_c13 v_coded_c13 v_ended_c14 v_open_c13 v_waits_c13 v_codes_c13 (upd v_first (ix (0 + (v_many (ix 0)))) 0) (upd (upd v_isBlanched (ix (0 + (v_many (ix 0)))) 0) (ix (0 + (v_many (ix 0)))) (nZ rc14)) v_many (upd v_second (ix (0 + (v_many (ix 0)))) 0) (upd v_sort (ix (0 + (v_many (ix 0)))) 0) v_sumEnd (upd v_sumFrom (ix (0 + (v_many (ix 0)))) v_coded) v_testEnd v_wait_c13
abbrev R_pM_reads : Type := Int32 × Int32 × Int32 × Int32 × Int32 × Int32 × Int32 × Int32 × Int32 × Int32 × Int32 × Int32 × Int32 × (Nat → Int32) × (Nat → Int32) × (Nat → Int32) × (Nat → Int32) × (Nat → Int32) × (Nat → Int32) × (Nat → Int32) × (Nat → Int32) × (Nat → Int32) × (Nat → Int32)
def pM_reads_b45_F (N : Nat) (v_allWord : (Nat → Int32)) (v_allowWord : (Nat → Int32)) (v_andWord : (Nat → Int32)) (v_blanchedWord : (Nat → Int32)) (v_debtWord : (Nat → Int32)) (v_farmWord : (Nat → Int32)) (v_forWord : (Nat → Int32)) (v_inWord : (Nat → Int32)) (v_maxWord : (Nat → Int32)) (v_minWord : (Nat → Int32)) (v_notWord : (Nat → Int32)) (v_orWord : (Nat → Int32)) (v_paidWord : (Nat → Int32)) (v_pardonWord : (Nat → Int32)) (v_penceWord : (Nat → Int32)) (v_poundsWord : (Nat → Int32)) (v_shillingsWord : (Nat → Int32)) (v_shireWord : (Nat → Int32)) (v_splitWord : (Nat → Int32)) (v_tape : (Nat → Int32)) (v_termWord : (Nat → Int32)) (v_yearWord : (Nat → Int32)) (v_end : Int32) (v_fault : Int32) (v_faultPlace : Int32) (v_taped : Int32) (k67 : Int32 → Int32 → Int32 → Int32 → Int32 → Int32 → Int32 → Int32 → (Nat → Int32) → (Nat → Int32) → (Nat → Int32) → (Nat → Int32) → (Nat → Int32) → (Nat → Int32) → (Nat → Int32) → (Nat → Int32) → (Nat → Int32) → (Nat → Int32) → Option R_pM_reads) (self : Int32 → Int32 → Int32 → Int32 → Int32 → Int32 → Int32 → Int32 → (Nat → Int32) → (Nat → Int32) → (Nat → Int32) → (Nat → Int32) → (Nat → Int32) → (Nat → Int32) → (Nat → Int32) → (Nat → Int32) → (Nat → Int32) → (Nat → Int32) → Option R_pM_reads) (v_at : Int32) (v_bad : Int32) (v_badPlace : Int32) (v_base : Int32) (v_coded : Int32) (v_ended : Int32) (v_open : Int32) (v_waits : Int32) (v_codes : (Nat → Int32)) (v_first : (Nat → Int32)) (v_isBlanched : (Nat → Int32)) (v_many : (Nat → Int32)) (v_second : (Nat → Int32)) (v_sort : (Nat → Int32)) (v_sumEnd : (Nat → Int32)) (v_sumFrom : (Nat → Int32)) (v_testEnd : (Nat → Int32)) (v_wait : (Nat → Int32)) : Option R_pM_reads :=
  if v_bad = 0 then
    bd2 (pM_look N v_at v_end v_tape) fun rc1 v_at_c1 =>
    if rc1 = (-1) then
      k67 v_at_c1 v_bad v_badPlace v_base v_coded v_ended v_open v_waits v_codes v_first v_isBlanched v_many v_second v_sort v_sumEnd v_sumFrom v_testEnd v_wait
    else
      bd18 (pM_statement N v_at_c1 v_bad v_badPlace v_base v_coded v_end v_ended v_open v_waits v_allWord v_allowWord v_andWord v_blanchedWord v_codes v_debtWord v_farmWord v_first v_forWord v_inWord v_isBlanched v_many v_maxWord v_minWord v_notWord v_orWord v_paidWord v_pardonWord v_penceWord v_poundsWord v_second v_shillingsWord v_shireWord v_sort v_splitWord v_sumEnd v_sumFrom v_tape v_termWord v_testEnd v_wait v_yearWord) fun v_at_c2 v_bad_c2 v_badPlace_c2 v_base_c2 v_coded_c2 v_ended_c2 v_open_c2 v_waits_c2 v_codes_c2 v_first_c2 v_isBlanched_c2 v_many_c2 v_second_c2 v_sort_c2 v_sumEnd_c2 v_sumFrom_c2 v_testEnd_c2 v_wait_c2 =>
      self v_at_c2 v_bad_c2 v_badPlace_c2 v_base_c2 v_coded_c2 v_ended_c2 v_open_c2 v_waits_c2 v_codes_c2 v_first_c2 v_isBlanched_c2 v_many_c2 v_second_c2 v_sort_c2 v_sumEnd_c2 v_sumFrom_c2 v_testEnd_c2 v_wait_c2
  else
    k67 v_at v_bad v_badPlace v_base v_coded v_ended v_open v_waits v_codes v_first v_isBlanched v_many v_second v_sort v_sumEnd v_sumFrom v_testEnd v_wait
def pM_reads_b45 (N : Nat) (v_allWord : (Nat → Int32)) (v_allowWord : (Nat → Int32)) (v_andWord : (Nat → Int32)) (v_blanchedWord : (Nat → Int32)) (v_debtWord : (Nat → Int32)) (v_farmWord : (Nat → Int32)) (v_forWord : (Nat → Int32)) (v_inWord : (Nat → Int32)) (v_maxWord : (Nat → Int32)) (v_minWord : (Nat → Int32)) (v_notWord : (Nat → Int32)) (v_orWord : (Nat → Int32)) (v_paidWord : (Nat → Int32)) (v_pardonWord : (Nat → Int32)) (v_penceWord : (Nat → Int32)) (v_poundsWord : (Nat → Int32)) (v_shillingsWord : (Nat → Int32)) (v_shireWord : (Nat → Int32)) (v_splitWord : (Nat → Int32)) (v_tape : (Nat → Int32)) (v_termWord : (Nat → Int32)) (v_yearWord : (Nat → Int32)) (v_end : Int32) (v_fault : Int32) (v_faultPlace : Int32) (v_taped : Int32) (k67 : Int32 → Int32 → Int32 → Int32 → Int32 → Int32 → Int32 → Int32 → (Nat → Int32) → (Nat → Int32) → (Nat → Int32) → (Nat → Int32) → (Nat → Int32) → (Nat → Int32) → (Nat → Int32) → (Nat → Int32) → (Nat → Int32) → (Nat → Int32) → Option R_pM_reads) : Nat → Int32 → Int32 → Int32 → Int32 → Int32 → Int32 → Int32 → Int32 → (Nat → Int32) → (Nat → Int32) → (Nat → Int32) → (Nat → Int32) → (Nat → Int32) → (Nat → Int32) → (Nat → Int32) → (Nat → Int32) → (Nat → Int32) → (Nat → Int32) → Option R_pM_reads := zlp18 (pM_reads_b45_F N v_allWord v_allowWord v_andWord v_blanchedWord v_debtWord v_farmWord v_forWord v_inWord v_maxWord v_minWord v_notWord v_orWord v_paidWord v_pardonWord v_penceWord v_poundsWord v_shillingsWord v_shireWord v_splitWord v_tape v_termWord v_yearWord v_end v_fault v_faultPlace v_taped k67)
def pM_reads_b67 (N : Nat) (v_allWord : (Nat → Int32)) (v_allowWord : (Nat → Int32)) (v_andWord : (Nat → Int32)) (v_blanchedWord : (Nat → Int32)) (v_debtWord : (Nat → Int32)) (v_farmWord : (Nat → Int32)) (v_forWord : (Nat → Int32)) (v_inWord : (Nat → Int32)) (v_maxWord : (Nat → Int32)) (v_minWord : (Nat → Int32)) (v_notWord : (Nat → Int32)) (v_orWord : (Nat → Int32)) (v_paidWord : (Nat → Int32)) (v_pardonWord : (Nat → Int32)) (v_penceWord : (Nat → Int32)) (v_poundsWord : (Nat → Int32)) (v_shillingsWord : (Nat → Int32)) (v_shireWord : (Nat → Int32)) (v_splitWord : (Nat → Int32)) (v_tape : (Nat → Int32)) (v_termWord : (Nat → Int32)) (v_yearWord : (Nat → Int32)) (v_at : Int32) (v_bad : Int32) (v_badPlace : Int32) (v_base : Int32) (v_coded : Int32) (v_end : Int32) (v_ended : Int32) (v_fault : Int32) (v_faultPlace : Int32) (v_open : Int32) (v_taped : Int32) (v_waits : Int32) (v_codes : (Nat → Int32)) (v_first : (Nat → Int32)) (v_isBlanched : (Nat → Int32)) (v_many : (Nat → Int32)) (v_second : (Nat → Int32)) (v_sort : (Nat → Int32)) (v_sumEnd : (Nat → Int32)) (v_sumFrom : (Nat → Int32)) (v_testEnd : (Nat → Int32)) (v_wait : (Nat → Int32)) : Option R_pM_reads :=
  if v_bad = 0 then
    some (1, v_at, v_bad, v_badPlace, v_base, v_coded, v_end, v_ended, v_bad, v_badPlace, v_open, v_taped, v_waits, v_codes, v_first, v_isBlanched, v_many, v_second, v_sort, v_sumEnd, v_sumFrom, v_testEnd, v_wait)
  else
    some (0, v_at, v_bad, v_badPlace, v_base, v_coded, v_end, v_ended, v_bad, v_badPlace, v_open, v_taped, v_waits, v_codes, v_first, v_isBlanched, v_many, v_second, v_sort, v_sumEnd, v_sumFrom, v_testEnd, v_wait)
def pM_reads (N : Nat) (v_at : Int32) (v_bad : Int32) (v_badPlace : Int32) (v_base : Int32) (v_coded : Int32) (v_end : Int32) (v_ended : Int32) (v_fault : Int32) (v_faultPlace : Int32) (v_open : Int32) (v_taped : Int32) (v_waits : Int32) (v_allWord : (Nat → Int32)) (v_allowWord : (Nat → Int32)) (v_andWord : (Nat → Int32)) (v_blanchedWord : (Nat → Int32)) (v_codes : (Nat → Int32)) (v_debtWord : (Nat → Int32)) (v_farmWord : (Nat → Int32)) (v_first : (Nat → Int32)) (v_forWord : (Nat → Int32)) (v_inWord : (Nat → Int32)) (v_isBlanched : (Nat → Int32)) (v_many : (Nat → Int32)) (v_maxWord : (Nat → Int32)) (v_minWord : (Nat → Int32)) (v_notWord : (Nat → Int32)) (v_orWord : (Nat → Int32)) (v_paidWord : (Nat → Int32)) (v_pardonWord : (Nat → Int32)) (v_penceWord : (Nat → Int32)) (v_poundsWord : (Nat → Int32)) (v_second : (Nat → Int32)) (v_shillingsWord : (Nat → Int32)) (v_shireWord : (Nat → Int32)) (v_sort : (Nat → Int32)) (v_splitWord : (Nat → Int32)) (v_sumEnd : (Nat → Int32)) (v_sumFrom : (Nat → Int32)) (v_tape : (Nat → Int32)) (v_termWord : (Nat → Int32)) (v_testEnd : (Nat → Int32)) (v_wait : (Nat → Int32)) (v_yearWord : (Nat → Int32)) : Option R_pM_reads :=
  pM_reads_b45 N v_allWord v_allowWord v_andWord v_blanchedWord v_debtWord v_farmWord v_forWord v_inWord v_maxWord v_minWord v_notWord v_orWord v_paidWord v_pardonWord v_penceWord v_poundsWord v_shillingsWord v_shireWord v_splitWord v_tape v_termWord v_yearWord v_taped v_fault v_faultPlace 0 (fun v_at_k1 v_bad_k2 v_badPlace_k3 v_base_k4 v_coded_k5 v_ended_k6 v_open_k7 => pM_reads_b67 N v_allWord v_allowWord v_andWord v_blanchedWord v_debtWord v_farmWord v_forWord v_inWord v_maxWord v_minWord v_notWord v_orWord v_paidWord v_pardonWord v_penceWord v_poundsWord v_shillingsWord v_shireWord v_splitWord v_tape v_termWord v_yearWord v_at_k1 v_bad_k2 v_badPlace_k3 v_base_k4 v_coded_k5 v_taped v_ended_k6 v_fault v_faultPlace v_open_k7 0) N 0 0 (-1) v_base 0 (-1) v_open v_waits v_codes v_first v_isBlanched (upd v_many (ix 0) 0) v_second v_sort v_sumEnd v_sumFrom v_testEnd v_wait
abbrev R_pM_copies : Type := (Nat → Int32) × (Nat → Int32) × (Nat → Int32) × (Nat → Int32) × (Nat → Int32) × (Nat → Int32) × (Nat → Int32) × (Nat → Int32) × (Nat → Int32)
def pM_copies_b14_F (N : Nat) (a1 : Int32) (v_coded : Int32) (v_codes : (Nat → Int32)) (v_many : (Nat → Int32)) (k133 : (Nat → Int32) → (Nat → Int32) → (Nat → Int32) → (Nat → Int32) → (Nat → Int32) → (Nat → Int32) → (Nat → Int32) → Option R_pM_copies) (self : Int32 → (Nat → Int32) → (Nat → Int32) → (Nat → Int32) → (Nat → Int32) → (Nat → Int32) → (Nat → Int32) → (Nat → Int32) → Option R_pM_copies) (x2 : Int32) (v_first : (Nat → Int32)) (v_isBlanched : (Nat → Int32)) (v_second : (Nat → Int32)) (v_sort : (Nat → Int32)) (v_sumEnd : (Nat → Int32)) (v_sumFrom : (Nat → Int32)) (v_testEnd : (Nat → Int32)) : Option R_pM_copies :=
  if (v_many (ix 0)) ≤ x2 then
    k133 v_first v_isBlanched v_second v_sort v_sumEnd v_sumFrom v_testEnd
  else
    gd (ib (0 + x2) 4824) <|
    gd (ib ((24 * a1) + x2) 4824) <|
    self (x2 + 1) (upd v_first (ix ((24 * a1) + x2)) (v_first (ix (0 + x2)))) (upd v_isBlanched (ix ((24 * a1) + x2)) (nZ (v_isBlanched (ix (0 + x2))))) (upd v_second (ix ((24 * a1) + x2)) (v_second (ix (0 + x2)))) (upd v_sort (ix ((24 * a1) + x2)) (v_sort (ix (0 + x2)))) (upd v_sumEnd (ix ((24 * a1) + x2)) (v_sumEnd (ix (0 + x2)))) (upd v_sumFrom (ix ((24 * a1) + x2)) (v_sumFrom (ix (0 + x2)))) (upd v_testEnd (ix ((24 * a1) + x2)) (v_testEnd (ix (0 + x2))))
def pM_copies_b14 (N : Nat) (a1 : Int32) (v_coded : Int32) (v_codes : (Nat → Int32)) (v_many : (Nat → Int32)) (k133 : (Nat → Int32) → (Nat → Int32) → (Nat → Int32) → (Nat → Int32) → (Nat → Int32) → (Nat → Int32) → (Nat → Int32) → Option R_pM_copies) : Nat → Int32 → (Nat → Int32) → (Nat → Int32) → (Nat → Int32) → (Nat → Int32) → (Nat → Int32) → (Nat → Int32) → (Nat → Int32) → Option R_pM_copies := zlp8 (pM_copies_b14_F N a1 v_coded v_codes v_many k133)
def pM_copies_b135_F (N : Nat) (a1 : Int32) (v_coded : Int32) (v_first : (Nat → Int32)) (v_isBlanched : (Nat → Int32)) (v_many : (Nat → Int32)) (v_second : (Nat → Int32)) (v_sort : (Nat → Int32)) (v_sumEnd : (Nat → Int32)) (v_sumFrom : (Nat → Int32)) (v_testEnd : (Nat → Int32)) (self : Int32 → (Nat → Int32) → Option R_pM_copies) (x2 : Int32) (v_codes : (Nat → Int32)) : Option R_pM_copies :=
  if v_coded ≤ x2 then
    some (v_codes, v_first, v_isBlanched, v_many, v_second, v_sort, v_sumEnd, v_sumFrom, v_testEnd)
  else
    gd (ib (0 + x2) 128640) <|
    gd (ib ((640 * a1) + x2) 128640) <|
    self (x2 + 1) (upd v_codes (ix ((640 * a1) + x2)) (v_codes (ix (0 + x2))))
def pM_copies_b135 (N : Nat) (a1 : Int32) (v_coded : Int32) (v_first : (Nat → Int32)) (v_isBlanched : (Nat → Int32)) (v_many : (Nat → Int32)) (v_second : (Nat → Int32)) (v_sort : (Nat → Int32)) (v_sumEnd : (Nat → Int32)) (v_sumFrom : (Nat → Int32)) (v_testEnd : (Nat → Int32)) : Nat → Int32 → (Nat → Int32) → Option R_pM_copies := zlp2 (pM_copies_b135_F N a1 v_coded v_first v_isBlanched v_many v_second v_sort v_sumEnd v_sumFrom v_testEnd)
def pM_copies_b133 (N : Nat) (a1 : Int32) (v_coded : Int32) (v_codes : (Nat → Int32)) (v_first : (Nat → Int32)) (v_isBlanched : (Nat → Int32)) (v_many : (Nat → Int32)) (v_second : (Nat → Int32)) (v_sort : (Nat → Int32)) (v_sumEnd : (Nat → Int32)) (v_sumFrom : (Nat → Int32)) (v_testEnd : (Nat → Int32)) : Option R_pM_copies :=
  pM_copies_b135 N a1 v_coded v_first v_isBlanched v_many v_second v_sort v_sumEnd v_sumFrom v_testEnd N 0 v_codes
def pM_copies (N : Nat) (a1 : Int32) (v_coded : Int32) (v_codes : (Nat → Int32)) (v_first : (Nat → Int32)) (v_isBlanched : (Nat → Int32)) (v_many : (Nat → Int32)) (v_second : (Nat → Int32)) (v_sort : (Nat → Int32)) (v_sumEnd : (Nat → Int32)) (v_sumFrom : (Nat → Int32)) (v_testEnd : (Nat → Int32)) : Option R_pM_copies :=
  gd (ib a1 201) <|
  pM_copies_b14 N a1 v_coded v_codes (upd v_many (ix a1) (v_many (ix 0))) (fun v_first_k1 v_isBlanched_k2 => pM_copies_b133 N a1 v_coded v_codes v_first_k1 v_isBlanched_k2 (upd v_many (ix a1) (v_many (ix 0)))) N 0 v_first v_isBlanched v_second v_sort v_sumEnd v_sumFrom v_testEnd
abbrev R_pM_clip : Type := Int64
def pM_clip (a0 : Int64) : Option R_pM_clip :=
  if (lg_cmp a0 1000000000) ≤ 0 then
    if 0 ≤ (lg_cmp a0 (-1000000000)) then
      some a0
    else
      some (-1000000000)
  else
    some 1000000000
abbrev R_pM_floor : Type := Int64
def pM_floor_b43 (a0 : Int64) (a2 : Int64) (x4 : Int64) (s0 : Int32) (s1 : Int32) : Option R_pM_floor :=
  if s0 = s1 then
    some x4
  else
    some (x4 - 1)
def pM_floor_b32 (a0 : Int64) (a2 : Int64) (x4 : Int64) (s0 : Int32) : Option R_pM_floor :=
  if 0 ≤ (lg_cmp a2 0) then
    pM_floor_b43 a0 a2 x4 s0 0
  else
    pM_floor_b43 a0 a2 x4 s0 1
def pM_floor (a0 : Int64) (a2 : Int64) : Option R_pM_floor :=
  if (lg_cmp a2 0) = 0 then
    some 0
  else
    gd (!(a2 == 0)) <|
    if (lg_cmp (a0 - a0 / a2 * a2) 0) = 0 then
      some (a0 / a2)
    else
      if 0 ≤ (lg_cmp a0 0) then
        pM_floor_b32 a0 a2 (a0 / a2) 0
      else
        pM_floor_b32 a0 a2 (a0 / a2) 1
abbrev R_pM_puts : Type := Int32 × (Nat → Int64)
def pM_puts (a1 : Int64) (v_piled : Int32) (v_pile : (Nat → Int64)) : Option R_pM_puts :=
  gd (ib v_piled 700) <|
  some ((v_piled + 1), (vp_updL v_pile (ix v_piled) a1))
abbrev R_pM_joins : Type := Int32 × (Nat → Int64)
def pM_joins_b177 (a1 : Int32) (s1 : Int64) (v_piled : Int32) (v_pile : (Nat → Int64)) : Option R_pM_joins :=
  bd2 (pM_puts s1 v_piled v_pile) fun v_piled_c12 v_pile_c12 =>
  some (v_piled_c12, v_pile_c12)
def pM_joins_b197 (a1 : Int32) (s1 : Int64) (v_piled : Int32) (v_pile : (Nat → Int64)) : Option R_pM_joins :=
  bd2 (pM_puts s1 v_piled v_pile) fun v_piled_c13 v_pile_c13 =>
  some (v_piled_c13, v_pile_c13)
def pM_joins_b216 (a1 : Int32) (s1 : Int64) (v_piled : Int32) (v_pile : (Nat → Int64)) : Option R_pM_joins :=
  bd2 (pM_puts s1 v_piled v_pile) fun v_piled_c14 v_pile_c14 =>
  some (v_piled_c14, v_pile_c14)
def pM_joins_b235 (a1 : Int32) (s1 : Int64) (v_piled : Int32) (v_pile : (Nat → Int64)) : Option R_pM_joins :=
  bd2 (pM_puts s1 v_piled v_pile) fun v_piled_c15 v_pile_c15 =>
  some (v_piled_c15, v_pile_c15)
def pM_joins_b254 (a1 : Int32) (s1 : Int64) (v_piled : Int32) (v_pile : (Nat → Int64)) : Option R_pM_joins :=
  bd2 (pM_puts s1 v_piled v_pile) fun v_piled_c16 v_pile_c16 =>
  some (v_piled_c16, v_pile_c16)
def pM_joins_b286 (a1 : Int32) (s1 : Int64) (v_piled : Int32) (v_pile : (Nat → Int64)) : Option R_pM_joins :=
  bd2 (pM_puts s1 v_piled v_pile) fun v_piled_c17 v_pile_c17 =>
  some (v_piled_c17, v_pile_c17)
def pM_joins (a1 : Int32) (v_piled : Int32) (v_pile : (Nat → Int64)) : Option R_pM_joins :=
  gd (ib (v_piled - 1) 700) <|
  gd (ib (v_piled - 2) 700) <|
  if a1 = 1 then
    bd1 (pM_clip ((v_pile (ix (v_piled - 2))) + (v_pile (ix (v_piled - 1))))) fun rc3 =>
    bd2 (pM_puts rc3 (v_piled - 2) v_pile) fun v_piled_c4 v_pile_c4 =>
    some (v_piled_c4, v_pile_c4)
  else if a1 = 2 then
    bd1 (pM_clip ((v_pile (ix (v_piled - 2))) - (v_pile (ix (v_piled - 1))))) fun rc5 =>
    bd2 (pM_puts rc5 (v_piled - 2) v_pile) fun v_piled_c6 v_pile_c6 =>
    some (v_piled_c6, v_pile_c6)
  else if a1 = 3 then
    bd1 (pM_clip ((v_pile (ix (v_piled - 2))) * (v_pile (ix (v_piled - 1))))) fun rc7 =>
    bd2 (pM_puts rc7 (v_piled - 2) v_pile) fun v_piled_c8 v_pile_c8 =>
    some (v_piled_c8, v_pile_c8)
  else if a1 = 4 then
    bd1 (pM_floor (v_pile (ix (v_piled - 2))) (v_pile (ix (v_piled - 1)))) fun rc9 =>
    bd2 (pM_puts rc9 (v_piled - 2) v_pile) fun v_piled_c10 v_pile_c10 =>
    some (v_piled_c10, v_pile_c10)
  else if a1 = 5 then
    if 0 ≤ (lg_cmp (v_pile (ix (v_piled - 2))) (v_pile (ix (v_piled - 1)))) then
      pM_joins_b177 a1 (v_pile (ix (v_piled - 1))) (v_piled - 2) v_pile
    else
      pM_joins_b177 a1 (v_pile (ix (v_piled - 2))) (v_piled - 2) v_pile
  else if a1 = 6 then
    if (lg_cmp (v_pile (ix (v_piled - 2))) (v_pile (ix (v_piled - 1)))) ≤ 0 then
      pM_joins_b197 a1 (v_pile (ix (v_piled - 1))) (v_piled - 2) v_pile
    else
      pM_joins_b197 a1 (v_pile (ix (v_piled - 2))) (v_piled - 2) v_pile
  else if a1 = 11 then
    if 0 ≤ (lg_cmp (v_pile (ix (v_piled - 2))) (v_pile (ix (v_piled - 1)))) then
      pM_joins_b216 a1 0 (v_piled - 2) v_pile
    else
      pM_joins_b216 a1 1 (v_piled - 2) v_pile
  else if a1 = 12 then
    if (lg_cmp (v_pile (ix (v_piled - 2))) (v_pile (ix (v_piled - 1)))) ≤ 0 then
      pM_joins_b235 a1 0 (v_piled - 2) v_pile
    else
      pM_joins_b235 a1 1 (v_piled - 2) v_pile
  else if a1 = 13 then
    if (lg_cmp (v_pile (ix (v_piled - 2))) (v_pile (ix (v_piled - 1)))) = 0 then
      pM_joins_b254 a1 1 (v_piled - 2) v_pile
    else
      pM_joins_b254 a1 0 (v_piled - 2) v_pile
  else if a1 = 14 then
    bd2 (pM_puts ((v_pile (ix (v_piled - 2))) * (v_pile (ix (v_piled - 1)))) (v_piled - 2) v_pile) fun v_piled_c11 v_pile_c11 =>
    some (v_piled_c11, v_pile_c11)
  else
    if (lg_cmp ((v_pile (ix (v_piled - 2))) + (v_pile (ix (v_piled - 1)))) 0) ≤ 0 then
      pM_joins_b286 a1 0 (v_piled - 2) v_pile
    else
      pM_joins_b286 a1 1 (v_piled - 2) v_pile
abbrev R_pM_tells : Type := Int64 × Int32 × (Nat → Int64)
def pM_tells_b76 (N : Nat) (a1 : Int32) (a2 : Int32) (a3 : Int32) (v_debt : Int64) (v_now : Int32) (v_paid : Int64) (v_shireNow : Int32) (v_codes : (Nat → Int32)) (self : Int32 → Int32 → (Nat → Int64) → Option R_pM_tells) (x4 : Int32) (s1 : Int64) (v_piled : Int32) (v_pile : (Nat → Int64)) : Option R_pM_tells :=
  bd2 (pM_puts s1 v_piled v_pile) fun v_piled_c12 v_pile_c12 =>
  self (x4 + 1) v_piled_c12 v_pile_c12
def pM_tells_b8_F (N : Nat) (a1 : Int32) (a2 : Int32) (a3 : Int32) (v_debt : Int64) (v_now : Int32) (v_paid : Int64) (v_shireNow : Int32) (v_codes : (Nat → Int32)) (self : Int32 → Int32 → (Nat → Int64) → Option R_pM_tells) (x4 : Int32) (v_piled : Int32) (v_pile : (Nat → Int64)) : Option R_pM_tells :=
  if a3 ≤ x4 then
    some ((v_pile (ix 0)), v_piled, v_pile)
  else
    gd (ib ((640 * a1) + x4) 128640) <|
    if (v_codes (ix ((640 * a1) + x4))) < 1000 then
      if (v_codes (ix ((640 * a1) + x4))) < 100 then
        if (v_codes (ix ((640 * a1) + x4))) = 7 then
          bd2 (pM_puts (i2l v_now) v_piled v_pile) fun v_piled_c10 v_pile_c10 =>
          self (x4 + 1) v_piled_c10 v_pile_c10
        else
          if (v_codes (ix ((640 * a1) + x4))) = 8 then
            bd2 (pM_puts (i2l (v_now / 2)) v_piled v_pile) fun v_piled_c9 v_pile_c9 =>
            self (x4 + 1) v_piled_c9 v_pile_c9
          else
            if (v_codes (ix ((640 * a1) + x4))) = 9 then
              bd1 (pM_clip v_debt) fun rc7 =>
              bd2 (pM_puts rc7 v_piled v_pile) fun v_piled_c8 v_pile_c8 =>
              self (x4 + 1) v_piled_c8 v_pile_c8
            else
              if (v_codes (ix ((640 * a1) + x4))) = 10 then
                bd1 (pM_clip v_paid) fun rc5 =>
                bd2 (pM_puts rc5 v_piled v_pile) fun v_piled_c6 v_pile_c6 =>
                self (x4 + 1) v_piled_c6 v_pile_c6
              else
                if (v_codes (ix ((640 * a1) + x4))) = 17 then
                  bd2 (pM_puts 1 v_piled v_pile) fun v_piled_c4 v_pile_c4 =>
                  self (x4 + 1) v_piled_c4 v_pile_c4
                else
                  if (v_codes (ix ((640 * a1) + x4))) = 16 then
                    gd (ib (v_piled - 1) 700) <|
                    self (x4 + 1) v_piled (vp_updL v_pile (ix (v_piled - 1)) (1 - (v_pile (ix (v_piled - 1)))))
                  else
                    bd2 (pM_joins (v_codes (ix ((640 * a1) + x4))) v_piled v_pile) fun v_piled_c2 v_pile_c2 =>
                    self (x4 + 1) v_piled_c2 v_pile_c2
      else
        if ((v_codes (ix ((640 * a1) + x4))) - 100) = v_shireNow then
          pM_tells_b76 N a1 a2 a3 v_debt v_now v_paid v_shireNow v_codes self x4 1 v_piled v_pile
        else
          pM_tells_b76 N a1 a2 a3 v_debt v_now v_paid v_shireNow v_codes self x4 0 v_piled v_pile
    else
      bd2 (pM_puts (i2l ((v_codes (ix ((640 * a1) + x4))) - 1000)) v_piled v_pile) fun v_piled_c11 v_pile_c11 =>
      self (x4 + 1) v_piled_c11 v_pile_c11
def pM_tells_b8 (N : Nat) (a1 : Int32) (a2 : Int32) (a3 : Int32) (v_debt : Int64) (v_now : Int32) (v_paid : Int64) (v_shireNow : Int32) (v_codes : (Nat → Int32)) : Nat → Int32 → Int32 → (Nat → Int64) → Option R_pM_tells := zlp3 (pM_tells_b8_F N a1 a2 a3 v_debt v_now v_paid v_shireNow v_codes)
def pM_tells (N : Nat) (a1 : Int32) (a2 : Int32) (a3 : Int32) (v_debt : Int64) (v_now : Int32) (v_paid : Int64) (v_piled : Int32) (v_shireNow : Int32) (v_codes : (Nat → Int32)) (v_pile : (Nat → Int64)) : Option R_pM_tells :=
  pM_tells_b8 N a1 a2 a3 v_debt v_now v_paid v_shireNow v_codes N a2 0 v_pile
abbrev R_pM_isTerm : Type := Int32
def pM_isTerm (a0 : Int32) : Option R_pM_isTerm :=
  bd1 (pM_isIn (i2l a0) 0 39) fun rc1 =>
  gd (isB rc1) (some rc1)
abbrev R_pM_isShire : Type := Int32
def pM_isShire (a0 : Int32) : Option R_pM_isShire :=
  bd1 (pM_isIn (i2l a0) 0 7) fun rc1 =>
  gd (isB rc1) (some rc1)
abbrev R_pM_act : Type := Int32 × Int32 × (Nat → Int32) × (Nat → Int32) × (Nat → Int32) × (Nat → Int32) × (Nat → Int32)
def pM_act (a1 : Int32) (a2 : Int32) (a3 : Int32) (a4 : Int32) (v_acts : Int32) (v_actKind : (Nat → Int32)) (v_actNumber : (Nat → Int32)) (v_actShire : (Nat → Int32)) (v_actTerm : (Nat → Int32)) (v_voidAt : (Nat → Int32)) : Option R_pM_act :=
  if v_acts = 200 then
    some ((-1), v_acts, v_actKind, v_actNumber, v_actShire, v_actTerm, v_voidAt)
  else
    gd (ib (v_acts + 1) 201) <|
    some ((v_acts + 1), (v_acts + 1), (upd v_actKind (ix (v_acts + 1)) a1), (upd v_actNumber (ix (v_acts + 1)) a4), (upd v_actShire (ix (v_acts + 1)) a2), (upd v_actTerm (ix (v_acts + 1)) a3), (upd v_voidAt (ix (v_acts + 1)) 0))
abbrev R_pM_writ : Type := Int32 × Int32 × Int32 × Int32 × Int32 × Int32 × Int32 × Int32 × Int32 × Int32 × Int32 × Int32 × Int32 × Int32 × (Nat → Int32) × (Nat → Int32) × (Nat → Int32) × (Nat → Int32) × (Nat → Int32) × (Nat → Int32) × (Nat → Int32) × (Nat → Int32) × (Nat → Int32) × (Nat → Int32) × (Nat → Int32) × (Nat → Int32) × (Nat → Int32) × (Nat → Int32) × (Nat → Int32)
def pM_writ_b17 (N : Nat) (a1 : Int32) (v_allWord : (Nat → Int32)) (v_allowWord : (Nat → Int32)) (v_andWord : (Nat → Int32)) (v_blanchedWord : (Nat → Int32)) (v_debtWord : (Nat → Int32)) (v_farmWord : (Nat → Int32)) (v_forWord : (Nat → Int32)) (v_inWord : (Nat → Int32)) (v_maxWord : (Nat → Int32)) (v_minWord : (Nat → Int32)) (v_notWord : (Nat → Int32)) (v_orWord : (Nat → Int32)) (v_paidWord : (Nat → Int32)) (v_pardonWord : (Nat → Int32)) (v_penceWord : (Nat → Int32)) (v_poundsWord : (Nat → Int32)) (v_shillingsWord : (Nat → Int32)) (v_shireWord : (Nat → Int32)) (v_splitWord : (Nat → Int32)) (v_tape : (Nat → Int32)) (v_termWord : (Nat → Int32)) (v_yearWord : (Nat → Int32)) (v_acts : Int32) (v_at : Int32) (v_bad : Int32) (v_badPlace : Int32) (v_base : Int32) (v_coded : Int32) (v_end : Int32) (v_ended : Int32) (v_fault : Int32) (v_faultPlace : Int32) (v_open : Int32) (v_taped : Int32) (v_waits : Int32) (v_actKind : (Nat → Int32)) (v_actNumber : (Nat → Int32)) (v_actShire : (Nat → Int32)) (v_actTerm : (Nat → Int32)) (v_codes : (Nat → Int32)) (v_first : (Nat → Int32)) (v_isBlanched : (Nat → Int32)) (v_many : (Nat → Int32)) (v_second : (Nat → Int32)) (v_sort : (Nat → Int32)) (v_sumEnd : (Nat → Int32)) (v_sumFrom : (Nat → Int32)) (v_testEnd : (Nat → Int32)) (v_voidAt : (Nat → Int32)) (v_wait : (Nat → Int32)) : Option R_pM_writ :=
  some ((-2), v_acts, v_at, v_bad, v_badPlace, v_base, v_coded, v_end, v_ended, v_fault, v_faultPlace, v_open, 0, v_waits, v_actKind, v_actNumber, v_actShire, v_actTerm, v_codes, v_first, v_isBlanched, v_many, v_second, v_sort, v_sumEnd, v_sumFrom, v_testEnd, v_voidAt, v_wait)
def pM_writ (N : Nat) (a1 : Int32) (v_acts : Int32) (v_at : Int32) (v_bad : Int32) (v_badPlace : Int32) (v_base : Int32) (v_coded : Int32) (v_end : Int32) (v_ended : Int32) (v_fault : Int32) (v_faultPlace : Int32) (v_open : Int32) (v_taped : Int32) (v_waits : Int32) (v_actKind : (Nat → Int32)) (v_actNumber : (Nat → Int32)) (v_actShire : (Nat → Int32)) (v_actTerm : (Nat → Int32)) (v_allWord : (Nat → Int32)) (v_allowWord : (Nat → Int32)) (v_andWord : (Nat → Int32)) (v_blanchedWord : (Nat → Int32)) (v_codes : (Nat → Int32)) (v_debtWord : (Nat → Int32)) (v_farmWord : (Nat → Int32)) (v_first : (Nat → Int32)) (v_forWord : (Nat → Int32)) (v_inWord : (Nat → Int32)) (v_isBlanched : (Nat → Int32)) (v_many : (Nat → Int32)) (v_maxWord : (Nat → Int32)) (v_minWord : (Nat → Int32)) (v_notWord : (Nat → Int32)) (v_orWord : (Nat → Int32)) (v_paidWord : (Nat → Int32)) (v_pardonWord : (Nat → Int32)) (v_penceWord : (Nat → Int32)) (v_poundsWord : (Nat → Int32)) (v_second : (Nat → Int32)) (v_shillingsWord : (Nat → Int32)) (v_shireWord : (Nat → Int32)) (v_sort : (Nat → Int32)) (v_splitWord : (Nat → Int32)) (v_sumEnd : (Nat → Int32)) (v_sumFrom : (Nat → Int32)) (v_tape : (Nat → Int32)) (v_termWord : (Nat → Int32)) (v_testEnd : (Nat → Int32)) (v_voidAt : (Nat → Int32)) (v_wait : (Nat → Int32)) (v_yearWord : (Nat → Int32)) : Option R_pM_writ :=
  bd1 (pM_isTerm a1) fun rc1 =>
  if rc1 = 0 then
    pM_writ_b17 N a1 v_allWord v_allowWord v_andWord v_blanchedWord v_debtWord v_farmWord v_forWord v_inWord v_maxWord v_minWord v_notWord v_orWord v_paidWord v_pardonWord v_penceWord v_poundsWord v_shillingsWord v_shireWord v_splitWord v_tape v_termWord v_yearWord v_acts v_at v_bad v_badPlace v_base v_coded v_end v_ended v_fault v_faultPlace v_open v_taped v_waits v_actKind v_actNumber v_actShire v_actTerm v_codes v_first v_isBlanched v_many v_second v_sort v_sumEnd v_sumFrom v_testEnd v_voidAt v_wait
  else
    if v_acts = 200 then
      pM_writ_b17 N a1 v_allWord v_allowWord v_andWord v_blanchedWord v_debtWord v_farmWord v_forWord v_inWord v_maxWord v_minWord v_notWord v_orWord v_paidWord v_pardonWord v_penceWord v_poundsWord v_shillingsWord v_shireWord v_splitWord v_tape v_termWord v_yearWord v_acts v_at v_bad v_badPlace v_base v_coded v_end v_ended v_fault v_faultPlace v_open v_taped v_waits v_actKind v_actNumber v_actShire v_actTerm v_codes v_first v_isBlanched v_many v_second v_sort v_sumEnd v_sumFrom v_testEnd v_voidAt v_wait
    else
      bd23 (pM_reads N v_at v_bad v_badPlace v_base v_coded v_end v_ended v_fault v_faultPlace v_open v_taped v_waits v_allWord v_allowWord v_andWord v_blanchedWord v_codes v_debtWord v_farmWord v_first v_forWord v_inWord v_isBlanched v_many v_maxWord v_minWord v_notWord v_orWord v_paidWord v_pardonWord v_penceWord v_poundsWord v_second v_shillingsWord v_shireWord v_sort v_splitWord v_sumEnd v_sumFrom v_tape v_termWord v_testEnd v_wait v_yearWord) fun rc2 v_at_c2 v_bad_c2 v_badPlace_c2 v_base_c2 v_coded_c2 v_end_c2 v_ended_c2 v_fault_c2 v_faultPlace_c2 v_open_c2 v_taped_c2 v_waits_c2 v_codes_c2 v_first_c2 v_isBlanched_c2 v_many_c2 v_second_c2 v_sort_c2 v_sumEnd_c2 v_sumFrom_c2 v_testEnd_c2 v_wait_c2 =>
      if rc2 = 0 then
        some ((-1), v_acts, v_at_c2, v_bad_c2, v_badPlace_c2, v_base_c2, v_coded_c2, v_end_c2, v_ended_c2, v_fault_c2, v_faultPlace_c2, v_open_c2, v_taped_c2, v_waits_c2, v_actKind, v_actNumber, v_actShire, v_actTerm, v_codes_c2, v_first_c2, v_isBlanched_c2, v_many_c2, v_second_c2, v_sort_c2, v_sumEnd_c2, v_sumFrom_c2, v_testEnd_c2, v_voidAt, v_wait_c2)
      else
        bd7 (pM_act 1 0 a1 0 v_acts v_actKind v_actNumber v_actShire v_actTerm v_voidAt) fun rc3 v_acts_c3 v_actKind_c3 v_actNumber_c3 v_actShire_c3 v_actTerm_c3 v_voidAt_c3 =>
        bd9 (pM_copies N rc3 v_coded_c2 v_codes_c2 v_first_c2 v_isBlanched_c2 v_many_c2 v_second_c2 v_sort_c2 v_sumEnd_c2 v_sumFrom_c2 v_testEnd_c2) fun v_codes_c4 v_first_c4 v_isBlanched_c4 v_many_c4 v_second_c4 v_sort_c4 v_sumEnd_c4 v_sumFrom_c4 v_testEnd_c4 =>
        some (rc3, v_acts_c3, v_at_c2, v_bad_c2, v_badPlace_c2, v_base_c2, v_coded_c2, v_end_c2, v_ended_c2, v_fault_c2, v_faultPlace_c2, v_open_c2, v_taped_c2, v_waits_c2, v_actKind_c3, v_actNumber_c3, v_actShire_c3, v_actTerm_c3, v_codes_c4, v_first_c4, v_isBlanched_c4, v_many_c4, v_second_c4, v_sort_c4, v_sumEnd_c4, v_sumFrom_c4, v_testEnd_c4, v_voidAt_c3, v_wait_c2)
abbrev R_pM_fault : Type := Int32
def pM_fault (a1 : Int32) (v_fault : Int32) (v_faultPlace : Int32) : Option R_pM_fault :=
  if a1 = 0 then
    some v_fault
  else
    if a1 = 1 then
      some v_faultPlace
    else
      some (-1)
abbrev R_pM_isPayment : Type := Int32
def pM_isPayment (a1 : Int32) (v_actKind : (Nat → Int32)) : Option R_pM_isPayment :=
  gd (ib a1 201) <|
  if (v_actKind (ix a1)) = 2 then
    some 1
  else
    if (v_actKind (ix a1)) = 3 then
      some 1
    else
      some 0
abbrev R_pM_mayPay : Type := Int32
def pM_mayPay_b5_F (N : Nat) (a1 : Int32) (a2 : Int32) (v_acts : Int32) (v_actKind : (Nat → Int32)) (k32 : Int32 → Option R_pM_mayPay) (self : Int32 → Int32 → Option R_pM_mayPay) (x3 : Int32) (x4 : Int32) : Option R_pM_mayPay :=
  if v_acts < x4 then
    k32 x3
  else
    bd1 (pM_isPayment x4 v_actKind) fun rc1 =>
    if rc1 = 0 then
      self x3 (x4 + 1)
    else
      self (x3 + 1) (x4 + 1)
def pM_mayPay_b5 (N : Nat) (a1 : Int32) (a2 : Int32) (v_acts : Int32) (v_actKind : (Nat → Int32)) (k32 : Int32 → Option R_pM_mayPay) : Nat → Int32 → Int32 → Option R_pM_mayPay := zlp2 (pM_mayPay_b5_F N a1 a2 v_acts v_actKind k32)
def pM_mayPay_b32 (N : Nat) (a1 : Int32) (a2 : Int32) (v_acts : Int32) (v_actKind : (Nat → Int32)) (x3 : Int32) : Option R_pM_mayPay :=
  bd1 (pM_isShire a1) fun rc2 =>
  if rc2 = 0 then
    some 0
  else
    bd1 (pM_isTerm a2) fun rc3 =>
    if rc3 = 0 then
      some 0
    else
      if 60 ≤ x3 then
        some 0
      else
        some 1
def pM_mayPay (N : Nat) (a1 : Int32) (a2 : Int32) (v_acts : Int32) (v_actKind : (Nat → Int32)) : Option R_pM_mayPay :=
  pM_mayPay_b5 N a1 a2 v_acts v_actKind (pM_mayPay_b32 N a1 a2 v_acts v_actKind) N 0 1
abbrev R_pM_pays : Type := Int32 × Int32 × (Nat → Int32) × (Nat → Int32) × (Nat → Int32) × (Nat → Int32) × (Nat → Int32)
def pM_pays (N : Nat) (a1 : Int32) (a2 : Int32) (a3 : Int32) (v_acts : Int32) (v_actKind : (Nat → Int32)) (v_actNumber : (Nat → Int32)) (v_actShire : (Nat → Int32)) (v_actTerm : (Nat → Int32)) (v_voidAt : (Nat → Int32)) : Option R_pM_pays :=
  bd1 (pM_mayPay N a1 a2 v_acts v_actKind) fun rc1 =>
  if rc1 = 0 then
    some ((-1), v_acts, v_actKind, v_actNumber, v_actShire, v_actTerm, v_voidAt)
  else
    bd1 (pM_isIn (i2l a3) 1 1000000) fun rc2 =>
    if rc2 = 0 then
      some ((-1), v_acts, v_actKind, v_actNumber, v_actShire, v_actTerm, v_voidAt)
    else
      bd7 (pM_act 2 a1 a2 a3 v_acts v_actKind v_actNumber v_actShire v_actTerm v_voidAt) fun rc3 v_acts_c3 v_actKind_c3 v_actNumber_c3 v_actShire_c3 v_actTerm_c3 v_voidAt_c3 =>
      some (rc3, v_acts_c3, v_actKind_c3, v_actNumber_c3, v_actShire_c3, v_actTerm_c3, v_voidAt_c3)
abbrev R_pM_tally : Type := Int32 × Int32 × (Nat → Int32) × (Nat → Int32) × (Nat → Int32) × (Nat → Int32) × (Nat → Int32)
def pM_tally (N : Nat) (a1 : Int32) (a2 : Int32) (a3 : Int32) (v_acts : Int32) (v_actKind : (Nat → Int32)) (v_actNumber : (Nat → Int32)) (v_actShire : (Nat → Int32)) (v_actTerm : (Nat → Int32)) (v_voidAt : (Nat → Int32)) : Option R_pM_tally :=
  bd1 (pM_mayPay N a1 a2 v_acts v_actKind) fun rc1 =>
  if rc1 = 0 then
    some ((-1), v_acts, v_actKind, v_actNumber, v_actShire, v_actTerm, v_voidAt)
  else
    bd1 (pM_isIn (i2l a3) 0 9) fun rc2 =>
    if rc2 = 0 then
      some ((-1), v_acts, v_actKind, v_actNumber, v_actShire, v_actTerm, v_voidAt)
    else
      bd7 (pM_act 3 a1 a2 a3 v_acts v_actKind v_actNumber v_actShire v_actTerm v_voidAt) fun rc3 v_acts_c3 v_actKind_c3 v_actNumber_c3 v_actShire_c3 v_actTerm_c3 v_voidAt_c3 =>
      some (rc3, v_acts_c3, v_actKind_c3, v_actNumber_c3, v_actShire_c3, v_actTerm_c3, v_voidAt_c3)
abbrev R_pM_fire : Type := Int32 × Int32 × (Nat → Int32) × (Nat → Int32) × (Nat → Int32) × (Nat → Int32) × (Nat → Int32)
def pM_fire (a1 : Int32) (a2 : Int32) (v_acts : Int32) (v_actKind : (Nat → Int32)) (v_actNumber : (Nat → Int32)) (v_actShire : (Nat → Int32)) (v_actTerm : (Nat → Int32)) (v_voidAt : (Nat → Int32)) : Option R_pM_fire :=
  bd1 (pM_isTerm a1) fun rc1 =>
  if rc1 = 0 then
    some ((-1), v_acts, v_actKind, v_actNumber, v_actShire, v_actTerm, v_voidAt)
  else
    bd1 (pM_isIn (i2l a2) 0 120) fun rc2 =>
    if rc2 = 0 then
      some ((-1), v_acts, v_actKind, v_actNumber, v_actShire, v_actTerm, v_voidAt)
    else
      bd7 (pM_act 4 0 a1 a2 v_acts v_actKind v_actNumber v_actShire v_actTerm v_voidAt) fun rc3 v_acts_c3 v_actKind_c3 v_actNumber_c3 v_actShire_c3 v_actTerm_c3 v_voidAt_c3 =>
      some (rc3, v_acts_c3, v_actKind_c3, v_actNumber_c3, v_actShire_c3, v_actTerm_c3, v_voidAt_c3)
abbrev R_pM_annul : Type := Int32 × Int32 × (Nat → Int32) × (Nat → Int32) × (Nat → Int32) × (Nat → Int32) × (Nat → Int32)
def pM_annul (a1 : Int32) (v_acts : Int32) (v_actKind : (Nat → Int32)) (v_actNumber : (Nat → Int32)) (v_actShire : (Nat → Int32)) (v_actTerm : (Nat → Int32)) (v_voidAt : (Nat → Int32)) : Option R_pM_annul :=
  bd1 (pM_isIn (i2l a1) 1 (i2l v_acts)) fun rc1 =>
  if rc1 = 0 then
    some ((-1), v_acts, v_actKind, v_actNumber, v_actShire, v_actTerm, v_voidAt)
  else
    gd (ib a1 201) <|
    if (v_voidAt (ix a1)) = 0 then
      if (v_actKind (ix a1)) = 5 then
        some ((-1), v_acts, v_actKind, v_actNumber, v_actShire, v_actTerm, v_voidAt)
      else
        if v_acts = 200 then
          some ((-1), v_acts, v_actKind, v_actNumber, v_actShire, v_actTerm, v_voidAt)
        else
          bd7 (pM_act 5 0 0 a1 v_acts v_actKind v_actNumber v_actShire v_actTerm (upd v_voidAt (ix a1) (v_acts + 1))) fun rc3 v_acts_c3 v_actKind_c3 v_actNumber_c3 v_actShire_c3 v_actTerm_c3 v_voidAt_c3 =>
          some (rc3, v_acts_c3, v_actKind_c3, v_actNumber_c3, v_actShire_c3, v_actTerm_c3, v_voidAt_c3)
    else
      some ((-1), v_acts, v_actKind, v_actNumber, v_actShire, v_actTerm, v_voidAt)
abbrev R_pM_as : Type := Int32 × Int32
def pM_as (a1 : Int32) (v_acts : Int32) (v_as : Int32) : Option R_pM_as :=
  bd1 (pM_isIn (i2l a1) (-1) (i2l v_acts)) fun rc1 =>
  if rc1 = 0 then
    some (0, v_as)
  else
    some (1, a1)
abbrev R_pM_asNow : Type := Int32
def pM_asNow (v_acts : Int32) (v_as : Int32) : Option R_pM_asNow :=
  if v_as = (-1) then
    some v_acts
  else
    some v_as
abbrev R_pM_isKnown : Type := Int32
def pM_isKnown_b30 (a1 : Int32) (v_knownAt : Int32) (v_without : Int32) (v_voidAt : (Nat → Int32)) : Option R_pM_isKnown :=
  if a1 = v_without then
    some 0
  else
    some 1
def pM_isKnown (a1 : Int32) (v_knownAt : Int32) (v_without : Int32) (v_voidAt : (Nat → Int32)) : Option R_pM_isKnown :=
  if v_knownAt < a1 then
    some 0
  else
    gd (ib a1 201) <|
    if (v_voidAt (ix a1)) = 0 then
      pM_isKnown_b30 a1 v_knownAt v_without v_voidAt
    else
      if (v_voidAt (ix a1)) ≤ v_knownAt then
        some 0
      else
        pM_isKnown_b30 a1 v_knownAt v_without v_voidAt
abbrev R_pM_writOf : Type := Int32
def pM_writOf_b4_F (N : Nat) (a1 : Int32) (v_acts : Int32) (v_knownAt : Int32) (v_without : Int32) (v_actKind : (Nat → Int32)) (v_actTerm : (Nat → Int32)) (v_voidAt : (Nat → Int32)) (self : Int32 → Int32 → Option R_pM_writOf) (x2 : Int32) (x3 : Int32) : Option R_pM_writOf :=
  if v_acts < x3 then
    some x2
  else
    gd (ib x3 201) <|
    if (v_actKind (ix x3)) = 1 then
      bd1 (pM_isKnown x3 v_knownAt v_without v_voidAt) fun rc2 =>
      if rc2 = 0 then
        self x2 (x3 + 1)
      else
        if a1 < (v_actTerm (ix x3)) then
          self x2 (x3 + 1)
        else
          if x2 = 0 then
            self x3 (x3 + 1)
          else
            gd (ib x2 201) <|
            if (v_actTerm (ix x3)) < (v_actTerm (ix x2)) then
              self x2 (x3 + 1)
            else
              self x3 (x3 + 1)
    else
      self x2 (x3 + 1)
def pM_writOf_b4 (N : Nat) (a1 : Int32) (v_acts : Int32) (v_knownAt : Int32) (v_without : Int32) (v_actKind : (Nat → Int32)) (v_actTerm : (Nat → Int32)) (v_voidAt : (Nat → Int32)) : Nat → Int32 → Int32 → Option R_pM_writOf := zlp2 (pM_writOf_b4_F N a1 v_acts v_knownAt v_without v_actKind v_actTerm v_voidAt)
def pM_writOf (N : Nat) (a1 : Int32) (v_acts : Int32) (v_knownAt : Int32) (v_without : Int32) (v_actKind : (Nat → Int32)) (v_actTerm : (Nat → Int32)) (v_voidAt : (Nat → Int32)) : Option R_pM_writOf :=
  pM_writOf_b4 N a1 v_acts v_knownAt v_without v_actKind v_actTerm v_voidAt N 0 1
abbrev R_pM_fireOf : Type := Int32
def pM_fireOf_b4_F (N : Nat) (a1 : Int32) (v_acts : Int32) (v_knownAt : Int32) (v_without : Int32) (v_actKind : (Nat → Int32)) (v_actNumber : (Nat → Int32)) (v_actTerm : (Nat → Int32)) (v_voidAt : (Nat → Int32)) (self : Int32 → Int32 → Option R_pM_fireOf) (x2 : Int32) (x3 : Int32) : Option R_pM_fireOf :=
  if v_acts < x3 then
    some x2
  else
    gd (ib x3 201) <|
    if (v_actKind (ix x3)) = 4 then
      bd1 (pM_isKnown x3 v_knownAt v_without v_voidAt) fun rc2 =>
      if rc2 = 0 then
        self x2 (x3 + 1)
      else
        if (v_actTerm (ix x3)) = a1 then
          self (v_actNumber (ix x3)) (x3 + 1)
        else
          self x2 (x3 + 1)
    else
      self x2 (x3 + 1)
def pM_fireOf_b4 (N : Nat) (a1 : Int32) (v_acts : Int32) (v_knownAt : Int32) (v_without : Int32) (v_actKind : (Nat → Int32)) (v_actNumber : (Nat → Int32)) (v_actTerm : (Nat → Int32)) (v_voidAt : (Nat → Int32)) : Nat → Int32 → Int32 → Option R_pM_fireOf := zlp2 (pM_fireOf_b4_F N a1 v_acts v_knownAt v_without v_actKind v_actNumber v_actTerm v_voidAt)
def pM_fireOf (N : Nat) (a1 : Int32) (v_acts : Int32) (v_knownAt : Int32) (v_without : Int32) (v_actKind : (Nat → Int32)) (v_actNumber : (Nat → Int32)) (v_actTerm : (Nat → Int32)) (v_voidAt : (Nat → Int32)) : Option R_pM_fireOf :=
  pM_fireOf_b4 N a1 v_acts v_knownAt v_without v_actKind v_actNumber v_actTerm v_voidAt N 0 1
abbrev R_pM_tellsAsKnown : Type := Int32 × Int32 × Int32
def pM_tellsAsKnown (a1 : Int32) (v_knownAt : Int32) (v_movedAct : Int32) (v_without : Int32) : Option R_pM_tellsAsKnown :=
  some (a1, (-1), (-1))
abbrev R_pM_force : Type := Int32 × Int32 × Int32 × Int32
def pM_force (N : Nat) (a1 : Int32) (v_acts : Int32) (v_as : Int32) (v_knownAt : Int32) (v_movedAct : Int32) (v_without : Int32) (v_actKind : (Nat → Int32)) (v_actTerm : (Nat → Int32)) (v_many : (Nat → Int32)) (v_voidAt : (Nat → Int32)) : Option R_pM_force :=
  bd1 (pM_isTerm a1) fun rc1 =>
  if rc1 = 0 then
    some ((-1), v_knownAt, v_movedAct, v_without)
  else
    bd1 (pM_asNow v_acts v_as) fun rc2 =>
    bd3 (pM_tellsAsKnown rc2 v_knownAt v_movedAct v_without) fun v_knownAt_c3 v_movedAct_c3 v_without_c3 =>
    bd1 (pM_writOf N a1 v_acts v_knownAt_c3 v_without_c3 v_actKind v_actTerm v_voidAt) fun rc4 =>
    if rc4 = 0 then
      some ((-1), v_knownAt_c3, v_movedAct_c3, v_without_c3)
    else
      gd (ib rc4 201) <|
      some ((v_many (ix rc4)), v_knownAt_c3, v_movedAct_c3, v_without_c3)
abbrev R_pM_holds : Type := Int32 × Int32 × (Nat → Int64)
def pM_holds (N : Nat) (a1 : Int32) (a2 : Int32) (v_debt : Int64) (v_now : Int32) (v_paid : Int64) (v_piled : Int32) (v_shireNow : Int32) (v_codes : (Nat → Int32)) (v_pile : (Nat → Int64)) (v_sumEnd : (Nat → Int32)) (v_testEnd : (Nat → Int32)) : Option R_pM_holds :=
  gd (ib a2 4824) <|
  bd3 (pM_tells N a1 (v_sumEnd (ix a2)) (v_testEnd (ix a2)) v_debt v_now v_paid v_piled v_shireNow v_codes v_pile) fun rc2 v_piled_c2 v_pile_c2 =>
  if (lg_cmp rc2 1) = 0 then
    some (1, v_piled_c2, v_pile_c2)
  else
    some (0, v_piled_c2, v_pile_c2)
abbrev R_pM_amount : Type := Int64 × Int32 × (Nat → Int64)
def pM_amount (N : Nat) (a1 : Int32) (a2 : Int32) (v_debt : Int64) (v_now : Int32) (v_paid : Int64) (v_piled : Int32) (v_shireNow : Int32) (v_codes : (Nat → Int32)) (v_pile : (Nat → Int64)) (v_sumEnd : (Nat → Int32)) (v_sumFrom : (Nat → Int32)) : Option R_pM_amount :=
  gd (ib a2 4824) <|
  bd3 (pM_tells N a1 (v_sumFrom (ix a2)) (v_sumEnd (ix a2)) v_debt v_now v_paid v_piled v_shireNow v_codes v_pile) fun rc2 v_piled_c2 v_pile_c2 =>
  if 0 ≤ (lg_cmp rc2 0) then
    some (rc2, v_piled_c2, v_pile_c2)
  else
    some (0, v_piled_c2, v_pile_c2)
abbrev R_pM_does : Type := Int64 × Int64 × Int64 × Int32 × Int64 × Int32 × (Nat → Int64) × (Nat → Int64)
def pM_does_b102 (N : Nat) (a1 : Int32) (a2 : Int32) (v_now : Int32) (v_paid : Int64) (v_shireNow : Int32) (v_codes : (Nat → Int32)) (v_first : (Nat → Int32)) (v_isBlanched : (Nat → Int32)) (v_many : (Nat → Int32)) (v_second : (Nat → Int32)) (v_sort : (Nat → Int32)) (v_sumEnd : (Nat → Int32)) (v_sumFrom : (Nat → Int32)) (v_testEnd : (Nat → Int32)) (self : Int32 → Int64 → Int64 → Int64 → Int32 → Int64 → Int32 → (Nat → Int64) → (Nat → Int64) → Option R_pM_does) (x3 : Int32) (s1 : Int32) (v_allowed : Int64) (v_debt : Int64) (v_farms : Int64) (v_isBlanchedNow : Int32) (v_pardoned : Int64) (v_piled : Int32) (v_off : (Nat → Int64)) (v_pile : (Nat → Int64)) : Option R_pM_does :=
  gd (isB s1) <|
  self (x3 + 1) v_allowed v_debt v_farms s1 v_pardoned v_piled v_off v_pile
def pM_does_b246_F (N : Nat) (a1 : Int32) (a2 : Int32) (v_now : Int32) (v_paid : Int64) (v_shireNow : Int32) (v_codes : (Nat → Int32)) (v_first : (Nat → Int32)) (v_isBlanched : (Nat → Int32)) (v_many : (Nat → Int32)) (v_second : (Nat → Int32)) (v_sort : (Nat → Int32)) (v_sumEnd : (Nat → Int32)) (v_sumFrom : (Nat → Int32)) (v_testEnd : (Nat → Int32)) (x3 : Int32) (x4 : Int32) (x5 : Int64) (v_allowed : Int64) (v_debt : Int64) (v_farms : Int64) (v_isBlanchedNow : Int32) (v_pardoned : Int64) (v_piled : Int32) (v_pile : (Nat → Int64)) (k281 : (Nat → Int64) → Option R_pM_does) (self : Int32 → (Nat → Int64) → Option R_pM_does) (x7 : Int32) (v_off : (Nat → Int64)) : Option R_pM_does :=
  gd (ib x4 4824) <|
  if (v_first (ix x4)) ≤ x7 then
    k281 v_off
  else
    gd (ib (v_now + x7) 60) <|
    self (x7 + 1) (vp_updL v_off (ix (v_now + x7)) ((v_off (ix (v_now + x7))) + x5))
def pM_does_b246 (N : Nat) (a1 : Int32) (a2 : Int32) (v_now : Int32) (v_paid : Int64) (v_shireNow : Int32) (v_codes : (Nat → Int32)) (v_first : (Nat → Int32)) (v_isBlanched : (Nat → Int32)) (v_many : (Nat → Int32)) (v_second : (Nat → Int32)) (v_sort : (Nat → Int32)) (v_sumEnd : (Nat → Int32)) (v_sumFrom : (Nat → Int32)) (v_testEnd : (Nat → Int32)) (x3 : Int32) (x4 : Int32) (x5 : Int64) (v_allowed : Int64) (v_debt : Int64) (v_farms : Int64) (v_isBlanchedNow : Int32) (v_pardoned : Int64) (v_piled : Int32) (v_pile : (Nat → Int64)) (k281 : (Nat → Int64) → Option R_pM_does) : Nat → Int32 → (Nat → Int64) → Option R_pM_does := zlp2 (pM_does_b246_F N a1 a2 v_now v_paid v_shireNow v_codes v_first v_isBlanched v_many v_second v_sort v_sumEnd v_sumFrom v_testEnd x3 x4 x5 v_allowed v_debt v_farms v_isBlanchedNow v_pardoned v_piled v_pile k281)
def pM_does_b281 (N : Nat) (a1 : Int32) (a2 : Int32) (v_now : Int32) (v_paid : Int64) (v_shireNow : Int32) (v_codes : (Nat → Int32)) (v_first : (Nat → Int32)) (v_isBlanched : (Nat → Int32)) (v_many : (Nat → Int32)) (v_second : (Nat → Int32)) (v_sort : (Nat → Int32)) (v_sumEnd : (Nat → Int32)) (v_sumFrom : (Nat → Int32)) (v_testEnd : (Nat → Int32)) (self : Int32 → Int64 → Int64 → Int64 → Int32 → Int64 → Int32 → (Nat → Int64) → (Nat → Int64) → Option R_pM_does) (x3 : Int32) (x4 : Int32) (x5 : Int64) (v_allowed : Int64) (v_debt : Int64) (v_farms : Int64) (v_isBlanchedNow : Int32) (v_pardoned : Int64) (v_piled : Int32) (v_off : (Nat → Int64)) (v_pile : (Nat → Int64)) : Option R_pM_does :=
  gd (ib x4 4824) <|
  self (x3 + 1) v_allowed (v_debt - (x5 * (i2l ((v_first (ix x4)) - 1)))) v_farms v_isBlanchedNow v_pardoned v_piled v_off v_pile
def pM_does_b212 (N : Nat) (a1 : Int32) (a2 : Int32) (v_now : Int32) (v_paid : Int64) (v_shireNow : Int32) (v_codes : (Nat → Int32)) (v_first : (Nat → Int32)) (v_isBlanched : (Nat → Int32)) (v_many : (Nat → Int32)) (v_second : (Nat → Int32)) (v_sort : (Nat → Int32)) (v_sumEnd : (Nat → Int32)) (v_sumFrom : (Nat → Int32)) (v_testEnd : (Nat → Int32)) (self : Int32 → Int64 → Int64 → Int64 → Int32 → Int64 → Int32 → (Nat → Int64) → (Nat → Int64) → Option R_pM_does) (x3 : Int32) (x4 : Int32) (v_allowed : Int64) (v_debt : Int64) (v_farms : Int64) (v_isBlanchedNow : Int32) (v_pardoned : Int64) (v_piled : Int32) (v_off : (Nat → Int64)) (v_pile : (Nat → Int64)) : Option R_pM_does :=
  if a2 = 3 then
    if (lg_cmp v_debt 0) ≤ 0 then
      self (x3 + 1) v_allowed v_debt v_farms v_isBlanchedNow v_pardoned v_piled v_off v_pile
    else
      gd (ib x4 4824) <|
      bd1 (pM_floor v_debt (i2l (v_first (ix x4)))) fun rc8 =>
      pM_does_b246 N a1 a2 v_now v_paid v_shireNow v_codes v_first v_isBlanched v_many v_second v_sort v_sumEnd v_sumFrom v_testEnd x3 x4 rc8 v_allowed v_debt v_farms v_isBlanchedNow v_pardoned v_piled v_pile (fun v_off_k1 => pM_does_b281 N a1 a2 v_now v_paid v_shireNow v_codes v_first v_isBlanched v_many v_second v_sort v_sumEnd v_sumFrom v_testEnd self x3 x4 rc8 v_allowed v_debt v_farms v_isBlanchedNow v_pardoned v_piled v_off_k1 v_pile) N 1 v_off
  else
    self (x3 + 1) v_allowed v_debt v_farms v_isBlanchedNow v_pardoned v_piled v_off v_pile
def pM_does_b2_F (N : Nat) (a1 : Int32) (a2 : Int32) (v_now : Int32) (v_paid : Int64) (v_shireNow : Int32) (v_codes : (Nat → Int32)) (v_first : (Nat → Int32)) (v_isBlanched : (Nat → Int32)) (v_many : (Nat → Int32)) (v_second : (Nat → Int32)) (v_sort : (Nat → Int32)) (v_sumEnd : (Nat → Int32)) (v_sumFrom : (Nat → Int32)) (v_testEnd : (Nat → Int32)) (self : Int32 → Int64 → Int64 → Int64 → Int32 → Int64 → Int32 → (Nat → Int64) → (Nat → Int64) → Option R_pM_does) (x3 : Int32) (v_allowed : Int64) (v_debt : Int64) (v_farms : Int64) (v_isBlanchedNow : Int32) (v_pardoned : Int64) (v_piled : Int32) (v_off : (Nat → Int64)) (v_pile : (Nat → Int64)) : Option R_pM_does :=
  gd (ib a1 201) <|
  if (v_many (ix a1)) ≤ x3 then
    some (v_allowed, v_debt, v_farms, v_isBlanchedNow, v_pardoned, v_piled, v_off, v_pile)
  else
    gd (ib ((24 * a1) + x3) 4824) <|
    if (v_sort (ix ((24 * a1) + x3))) = a2 then
      bd3 (pM_holds N a1 ((24 * a1) + x3) v_debt v_now v_paid v_piled v_shireNow v_codes v_pile v_sumEnd v_testEnd) fun rc3 v_piled_c3 v_pile_c3 =>
      if rc3 = 0 then
        self (x3 + 1) v_allowed v_debt v_farms v_isBlanchedNow v_pardoned v_piled_c3 v_off v_pile_c3
      else
        if a2 = 0 then
          bd3 (pM_amount N a1 ((24 * a1) + x3) v_debt v_now v_paid v_piled_c3 v_shireNow v_codes v_pile_c3 v_sumEnd v_sumFrom) fun rc6 v_piled_c6 v_pile_c6 =>
          if v_isBlanchedNow = 0 then
            if (v_isBlanched (ix ((24 * a1) + x3))) = 0 then
              pM_does_b102 N a1 a2 v_now v_paid v_shireNow v_codes v_first v_isBlanched v_many v_second v_sort v_sumEnd v_sumFrom v_testEnd self x3 0 v_allowed (v_debt + rc6) (v_farms + rc6) v_isBlanchedNow v_pardoned v_piled_c6 v_off v_pile_c6
            else
              pM_does_b102 N a1 a2 v_now v_paid v_shireNow v_codes v_first v_isBlanched v_many v_second v_sort v_sumEnd v_sumFrom v_testEnd self x3 1 v_allowed (v_debt + rc6) (v_farms + rc6) v_isBlanchedNow v_pardoned v_piled_c6 v_off v_pile_c6
          else
            pM_does_b102 N a1 a2 v_now v_paid v_shireNow v_codes v_first v_isBlanched v_many v_second v_sort v_sumEnd v_sumFrom v_testEnd self x3 1 v_allowed (v_debt + rc6) (v_farms + rc6) v_isBlanchedNow v_pardoned v_piled_c6 v_off v_pile_c6
        else
          if a2 = 1 then
            bd3 (pM_amount N a1 ((24 * a1) + x3) v_debt v_now v_paid v_piled_c3 v_shireNow v_codes v_pile_c3 v_sumEnd v_sumFrom) fun rc5 v_piled_c5 v_pile_c5 =>
            self (x3 + 1) (v_allowed + rc5) (v_debt - rc5) v_farms v_isBlanchedNow v_pardoned v_piled_c5 v_off v_pile_c5
          else
            if a2 = 2 then
              if (lg_cmp v_debt 0) ≤ 0 then
                pM_does_b212 N a1 a2 v_now v_paid v_shireNow v_codes v_first v_isBlanched v_many v_second v_sort v_sumEnd v_sumFrom v_testEnd self x3 ((24 * a1) + x3) v_allowed v_debt v_farms v_isBlanchedNow v_pardoned v_piled_c3 v_off v_pile_c3
              else
                bd1 (pM_floor (v_debt * (i2l (v_first (ix ((24 * a1) + x3))))) (i2l (v_second (ix ((24 * a1) + x3))))) fun rc4 =>
                self (x3 + 1) v_allowed (v_debt - rc4) v_farms v_isBlanchedNow (v_pardoned + rc4) v_piled_c3 v_off v_pile_c3
            else
              pM_does_b212 N a1 a2 v_now v_paid v_shireNow v_codes v_first v_isBlanched v_many v_second v_sort v_sumEnd v_sumFrom v_testEnd self x3 ((24 * a1) + x3) v_allowed v_debt v_farms v_isBlanchedNow v_pardoned v_piled_c3 v_off v_pile_c3
    else
      self (x3 + 1) v_allowed v_debt v_farms v_isBlanchedNow v_pardoned v_piled v_off v_pile
def pM_does_b2 (N : Nat) (a1 : Int32) (a2 : Int32) (v_now : Int32) (v_paid : Int64) (v_shireNow : Int32) (v_codes : (Nat → Int32)) (v_first : (Nat → Int32)) (v_isBlanched : (Nat → Int32)) (v_many : (Nat → Int32)) (v_second : (Nat → Int32)) (v_sort : (Nat → Int32)) (v_sumEnd : (Nat → Int32)) (v_sumFrom : (Nat → Int32)) (v_testEnd : (Nat → Int32)) : Nat → Int32 → Int64 → Int64 → Int64 → Int32 → Int64 → Int32 → (Nat → Int64) → (Nat → Int64) → Option R_pM_does := zlp9 (pM_does_b2_F N a1 a2 v_now v_paid v_shireNow v_codes v_first v_isBlanched v_many v_second v_sort v_sumEnd v_sumFrom v_testEnd)
def pM_does (N : Nat) (a1 : Int32) (a2 : Int32) (v_allowed : Int64) (v_debt : Int64) (v_farms : Int64) (v_isBlanchedNow : Int32) (v_now : Int32) (v_paid : Int64) (v_pardoned : Int64) (v_piled : Int32) (v_shireNow : Int32) (v_codes : (Nat → Int32)) (v_first : (Nat → Int32)) (v_isBlanched : (Nat → Int32)) (v_many : (Nat → Int32)) (v_off : (Nat → Int64)) (v_pile : (Nat → Int64)) (v_second : (Nat → Int32)) (v_sort : (Nat → Int32)) (v_sumEnd : (Nat → Int32)) (v_sumFrom : (Nat → Int32)) (v_testEnd : (Nat → Int32)) : Option R_pM_does :=
  pM_does_b2 N a1 a2 v_now v_paid v_shireNow v_codes v_first v_isBlanched v_many v_second v_sort v_sumEnd v_sumFrom v_testEnd N 0 v_allowed v_debt v_farms v_isBlanchedNow v_pardoned v_piled v_off v_pile
abbrev R_pM_takesPayments : Type := Int64 × Int64
def pM_takesPayments_b153 (N : Nat) (v_acts : Int32) (v_isBlanchedNow : Int32) (v_knownAt : Int32) (v_movedAct : Int32) (v_movedTerm : Int32) (v_now : Int32) (v_shireNow : Int32) (v_without : Int32) (v_actKind : (Nat → Int32)) (v_actNumber : (Nat → Int32)) (v_actShire : (Nat → Int32)) (v_actTerm : (Nat → Int32)) (v_cutWorth : (Nat → Int32)) (v_cuts : (Nat → Int32)) (v_mates : (Nat → Int32)) (v_pence : (Nat → Int32)) (v_voidAt : (Nat → Int32)) (self : Int32 → Int64 → Int64 → Option R_pM_takesPayments) (x1 : Int32) (x2 : Int64) (v_debt : Int64) (v_paid : Int64) : Option R_pM_takesPayments :=
  self (x1 + 1) (v_debt - x2) (v_paid + x2)
def pM_takesPayments_b121 (N : Nat) (v_acts : Int32) (v_isBlanchedNow : Int32) (v_knownAt : Int32) (v_movedAct : Int32) (v_movedTerm : Int32) (v_now : Int32) (v_shireNow : Int32) (v_without : Int32) (v_actKind : (Nat → Int32)) (v_actNumber : (Nat → Int32)) (v_actShire : (Nat → Int32)) (v_actTerm : (Nat → Int32)) (v_cutWorth : (Nat → Int32)) (v_cuts : (Nat → Int32)) (v_mates : (Nat → Int32)) (v_pence : (Nat → Int32)) (v_voidAt : (Nat → Int32)) (self : Int32 → Int64 → Int64 → Option R_pM_takesPayments) (x1 : Int32) (s0 : Int64) (s1 : Int64) (v_debt : Int64) (v_paid : Int64) : Option R_pM_takesPayments :=
  pM_takesPayments_b153 N v_acts v_isBlanchedNow v_knownAt v_movedAct v_movedTerm v_now v_shireNow v_without v_actKind v_actNumber v_actShire v_actTerm v_cutWorth v_cuts v_mates v_pence v_voidAt self x1 (s0 - s1) v_debt v_paid
def pM_takesPayments_b60 (N : Nat) (v_acts : Int32) (v_isBlanchedNow : Int32) (v_knownAt : Int32) (v_movedAct : Int32) (v_movedTerm : Int32) (v_now : Int32) (v_shireNow : Int32) (v_without : Int32) (v_actKind : (Nat → Int32)) (v_actNumber : (Nat → Int32)) (v_actShire : (Nat → Int32)) (v_actTerm : (Nat → Int32)) (v_cutWorth : (Nat → Int32)) (v_cuts : (Nat → Int32)) (v_mates : (Nat → Int32)) (v_pence : (Nat → Int32)) (v_voidAt : (Nat → Int32)) (self : Int32 → Int64 → Int64 → Option R_pM_takesPayments) (x1 : Int32) (s0 : Int32) (v_debt : Int64) (v_paid : Int64) : Option R_pM_takesPayments :=
  if s0 = v_now then
    gd (ib x1 201) <|
    if (v_actKind (ix x1)) = 2 then
      if v_isBlanchedNow = 0 then
        pM_takesPayments_b121 N v_acts v_isBlanchedNow v_knownAt v_movedAct v_movedTerm v_now v_shireNow v_without v_actKind v_actNumber v_actShire v_actTerm v_cutWorth v_cuts v_mates v_pence v_voidAt self x1 (i2l (v_actNumber (ix x1))) 0 v_debt v_paid
      else
        bd1 (pM_fireOf N v_now v_acts v_knownAt v_without v_actKind v_actNumber v_actTerm v_voidAt) fun rc7 =>
        pM_takesPayments_b121 N v_acts v_isBlanchedNow v_knownAt v_movedAct v_movedTerm v_now v_shireNow v_without v_actKind v_actNumber v_actShire v_actTerm v_cutWorth v_cuts v_mates v_pence v_voidAt self x1 (i2l (v_actNumber (ix x1))) (((i2l (v_actNumber (ix x1))) * (i2l rc7)) / 240) v_debt v_paid
    else
      gd (ib (v_actNumber (ix x1)) 10) <|
      if (v_mates (ix (v_actNumber (ix x1)))) = (-1) then
        pM_takesPayments_b153 N v_acts v_isBlanchedNow v_knownAt v_movedAct v_movedTerm v_now v_shireNow v_without v_actKind v_actNumber v_actShire v_actTerm v_cutWorth v_cuts v_mates v_pence v_voidAt self x1 0 v_debt v_paid
      else
        bd1 (pM_sumOf N (v_actNumber (ix x1)) v_cutWorth v_cuts v_pence) fun rc6 =>
        pM_takesPayments_b153 N v_acts v_isBlanchedNow v_knownAt v_movedAct v_movedTerm v_now v_shireNow v_without v_actKind v_actNumber v_actShire v_actTerm v_cutWorth v_cuts v_mates v_pence v_voidAt self x1 (i2l rc6) v_debt v_paid
  else
    self (x1 + 1) v_debt v_paid
def pM_takesPayments_b2_F (N : Nat) (v_acts : Int32) (v_isBlanchedNow : Int32) (v_knownAt : Int32) (v_movedAct : Int32) (v_movedTerm : Int32) (v_now : Int32) (v_shireNow : Int32) (v_without : Int32) (v_actKind : (Nat → Int32)) (v_actNumber : (Nat → Int32)) (v_actShire : (Nat → Int32)) (v_actTerm : (Nat → Int32)) (v_cutWorth : (Nat → Int32)) (v_cuts : (Nat → Int32)) (v_mates : (Nat → Int32)) (v_pence : (Nat → Int32)) (v_voidAt : (Nat → Int32)) (self : Int32 → Int64 → Int64 → Option R_pM_takesPayments) (x1 : Int32) (v_debt : Int64) (v_paid : Int64) : Option R_pM_takesPayments :=
  if v_acts < x1 then
    some (v_debt, v_paid)
  else
    bd1 (pM_isPayment x1 v_actKind) fun rc1 =>
    if rc1 = 0 then
      self (x1 + 1) v_debt v_paid
    else
      bd1 (pM_isKnown x1 v_knownAt v_without v_voidAt) fun rc2 =>
      if rc2 = 0 then
        self (x1 + 1) v_debt v_paid
      else
        gd (ib x1 201) <|
        if (v_actShire (ix x1)) = v_shireNow then
          if x1 = v_movedAct then
            pM_takesPayments_b60 N v_acts v_isBlanchedNow v_knownAt v_movedAct v_movedTerm v_now v_shireNow v_without v_actKind v_actNumber v_actShire v_actTerm v_cutWorth v_cuts v_mates v_pence v_voidAt self x1 v_movedTerm v_debt v_paid
          else
            pM_takesPayments_b60 N v_acts v_isBlanchedNow v_knownAt v_movedAct v_movedTerm v_now v_shireNow v_without v_actKind v_actNumber v_actShire v_actTerm v_cutWorth v_cuts v_mates v_pence v_voidAt self x1 (v_actTerm (ix x1)) v_debt v_paid
        else
          self (x1 + 1) v_debt v_paid
def pM_takesPayments_b2 (N : Nat) (v_acts : Int32) (v_isBlanchedNow : Int32) (v_knownAt : Int32) (v_movedAct : Int32) (v_movedTerm : Int32) (v_now : Int32) (v_shireNow : Int32) (v_without : Int32) (v_actKind : (Nat → Int32)) (v_actNumber : (Nat → Int32)) (v_actShire : (Nat → Int32)) (v_actTerm : (Nat → Int32)) (v_cutWorth : (Nat → Int32)) (v_cuts : (Nat → Int32)) (v_mates : (Nat → Int32)) (v_pence : (Nat → Int32)) (v_voidAt : (Nat → Int32)) : Nat → Int32 → Int64 → Int64 → Option R_pM_takesPayments := zlp3 (pM_takesPayments_b2_F N v_acts v_isBlanchedNow v_knownAt v_movedAct v_movedTerm v_now v_shireNow v_without v_actKind v_actNumber v_actShire v_actTerm v_cutWorth v_cuts v_mates v_pence v_voidAt)
def pM_takesPayments (N : Nat) (v_acts : Int32) (v_debt : Int64) (v_isBlanchedNow : Int32) (v_knownAt : Int32) (v_movedAct : Int32) (v_movedTerm : Int32) (v_now : Int32) (v_paid : Int64) (v_shireNow : Int32) (v_without : Int32) (v_actKind : (Nat → Int32)) (v_actNumber : (Nat → Int32)) (v_actShire : (Nat → Int32)) (v_actTerm : (Nat → Int32)) (v_cutWorth : (Nat → Int32)) (v_cuts : (Nat → Int32)) (v_mates : (Nat → Int32)) (v_pence : (Nat → Int32)) (v_voidAt : (Nat → Int32)) : Option R_pM_takesPayments :=
  pM_takesPayments_b2 N v_acts v_isBlanchedNow v_knownAt v_movedAct v_movedTerm v_now v_shireNow v_without v_actKind v_actNumber v_actShire v_actTerm v_cutWorth v_cuts v_mates v_pence v_voidAt N 1 v_debt v_paid
abbrev R_pM_rolls : Type := Int64 × Int64 × Int64 × Int64 × Int32 × Int32 × Int64 × Int64 × Int64 × Int32 × Int32 × (Nat → Int64) × (Nat → Int64)
def pM_rolls_b2_F (N : Nat) (a1 : Int32) (a2 : Int32) (v_acts : Int32) (v_knownAt : Int32) (v_movedAct : Int32) (v_movedTerm : Int32) (v_without : Int32) (v_actKind : (Nat → Int32)) (v_actNumber : (Nat → Int32)) (v_actShire : (Nat → Int32)) (v_actTerm : (Nat → Int32)) (v_codes : (Nat → Int32)) (v_cutWorth : (Nat → Int32)) (v_cuts : (Nat → Int32)) (v_first : (Nat → Int32)) (v_isBlanched : (Nat → Int32)) (v_many : (Nat → Int32)) (v_mates : (Nat → Int32)) (v_pence : (Nat → Int32)) (v_second : (Nat → Int32)) (v_sort : (Nat → Int32)) (v_sumEnd : (Nat → Int32)) (v_sumFrom : (Nat → Int32)) (v_testEnd : (Nat → Int32)) (v_voidAt : (Nat → Int32)) (v_allowed : Int64) (v_debt : Int64) (v_farms : Int64) (v_isBlanchedNow : Int32) (v_now : Int32) (v_paid : Int64) (v_paidTold : Int64) (v_pardoned : Int64) (v_piled : Int32) (v_shireNow : Int32) (v_pile : (Nat → Int64)) (k21 : (Nat → Int64) → Option R_pM_rolls) (self : Int32 → (Nat → Int64) → Option R_pM_rolls) (x3 : Int32) (v_off : (Nat → Int64)) : Option R_pM_rolls :=
  if 60 ≤ x3 then
    k21 v_off
  else
    gd (ib x3 60) <|
    self (x3 + 1) (vp_updL v_off (ix x3) 0)
def pM_rolls_b2 (N : Nat) (a1 : Int32) (a2 : Int32) (v_acts : Int32) (v_knownAt : Int32) (v_movedAct : Int32) (v_movedTerm : Int32) (v_without : Int32) (v_actKind : (Nat → Int32)) (v_actNumber : (Nat → Int32)) (v_actShire : (Nat → Int32)) (v_actTerm : (Nat → Int32)) (v_codes : (Nat → Int32)) (v_cutWorth : (Nat → Int32)) (v_cuts : (Nat → Int32)) (v_first : (Nat → Int32)) (v_isBlanched : (Nat → Int32)) (v_many : (Nat → Int32)) (v_mates : (Nat → Int32)) (v_pence : (Nat → Int32)) (v_second : (Nat → Int32)) (v_sort : (Nat → Int32)) (v_sumEnd : (Nat → Int32)) (v_sumFrom : (Nat → Int32)) (v_testEnd : (Nat → Int32)) (v_voidAt : (Nat → Int32)) (v_allowed : Int64) (v_debt : Int64) (v_farms : Int64) (v_isBlanchedNow : Int32) (v_now : Int32) (v_paid : Int64) (v_paidTold : Int64) (v_pardoned : Int64) (v_piled : Int32) (v_shireNow : Int32) (v_pile : (Nat → Int64)) (k21 : (Nat → Int64) → Option R_pM_rolls) : Nat → Int32 → (Nat → Int64) → Option R_pM_rolls := zlp2 (pM_rolls_b2_F N a1 a2 v_acts v_knownAt v_movedAct v_movedTerm v_without v_actKind v_actNumber v_actShire v_actTerm v_codes v_cutWorth v_cuts v_first v_isBlanched v_many v_mates v_pence v_second v_sort v_sumEnd v_sumFrom v_testEnd v_voidAt v_allowed v_debt v_farms v_isBlanchedNow v_now v_paid v_paidTold v_pardoned v_piled v_shireNow v_pile k21)
def pM_rolls_b134 (N : Nat) (a1 : Int32) (a2 : Int32) (v_acts : Int32) (v_knownAt : Int32) (v_movedAct : Int32) (v_movedTerm : Int32) (v_without : Int32) (v_actKind : (Nat → Int32)) (v_actNumber : (Nat → Int32)) (v_actShire : (Nat → Int32)) (v_actTerm : (Nat → Int32)) (v_codes : (Nat → Int32)) (v_cutWorth : (Nat → Int32)) (v_cuts : (Nat → Int32)) (v_first : (Nat → Int32)) (v_isBlanched : (Nat → Int32)) (v_many : (Nat → Int32)) (v_mates : (Nat → Int32)) (v_pence : (Nat → Int32)) (v_second : (Nat → Int32)) (v_sort : (Nat → Int32)) (v_sumEnd : (Nat → Int32)) (v_sumFrom : (Nat → Int32)) (v_testEnd : (Nat → Int32)) (v_voidAt : (Nat → Int32)) (self : Int32 → Int64 → Int64 → Int64 → Int32 → Int32 → Int64 → Int64 → Int64 → Int32 → (Nat → Int64) → (Nat → Int64) → Option R_pM_rolls) (x3 : Int32) (v_allowed : Int64) (v_debt : Int64) (v_farms : Int64) (v_isBlanchedNow : Int32) (v_now : Int32) (v_paid : Int64) (v_paidTold : Int64) (v_pardoned : Int64) (v_piled : Int32) (v_shireNow : Int32) (v_off : (Nat → Int64)) (v_pile : (Nat → Int64)) : Option R_pM_rolls :=
  self (x3 + 1) v_allowed v_debt v_farms v_isBlanchedNow v_now v_paid v_paid v_pardoned v_piled v_off v_pile
def pM_rolls_b118 (N : Nat) (a1 : Int32) (a2 : Int32) (v_acts : Int32) (v_knownAt : Int32) (v_movedAct : Int32) (v_movedTerm : Int32) (v_without : Int32) (v_actKind : (Nat → Int32)) (v_actNumber : (Nat → Int32)) (v_actShire : (Nat → Int32)) (v_actTerm : (Nat → Int32)) (v_codes : (Nat → Int32)) (v_cutWorth : (Nat → Int32)) (v_cuts : (Nat → Int32)) (v_first : (Nat → Int32)) (v_isBlanched : (Nat → Int32)) (v_many : (Nat → Int32)) (v_mates : (Nat → Int32)) (v_pence : (Nat → Int32)) (v_second : (Nat → Int32)) (v_sort : (Nat → Int32)) (v_sumEnd : (Nat → Int32)) (v_sumFrom : (Nat → Int32)) (v_testEnd : (Nat → Int32)) (v_voidAt : (Nat → Int32)) (self : Int32 → Int64 → Int64 → Int64 → Int32 → Int32 → Int64 → Int64 → Int64 → Int32 → (Nat → Int64) → (Nat → Int64) → Option R_pM_rolls) (x3 : Int32) (x4 : Int32) (v_allowed : Int64) (v_debt : Int64) (v_farms : Int64) (v_isBlanchedNow : Int32) (v_now : Int32) (v_paid : Int64) (v_paidTold : Int64) (v_pardoned : Int64) (v_piled : Int32) (v_shireNow : Int32) (v_off : (Nat → Int64)) (v_pile : (Nat → Int64)) : Option R_pM_rolls :=
  bd2 (pM_takesPayments N v_acts v_debt v_isBlanchedNow v_knownAt v_movedAct v_movedTerm v_now v_paid v_shireNow v_without v_actKind v_actNumber v_actShire v_actTerm v_cutWorth v_cuts v_mates v_pence v_voidAt) fun v_debt_c4 v_paid_c4 =>
  if x4 ≤ 0 then
    pM_rolls_b134 N a1 a2 v_acts v_knownAt v_movedAct v_movedTerm v_without v_actKind v_actNumber v_actShire v_actTerm v_codes v_cutWorth v_cuts v_first v_isBlanched v_many v_mates v_pence v_second v_sort v_sumEnd v_sumFrom v_testEnd v_voidAt self x3 v_allowed v_debt_c4 v_farms v_isBlanchedNow v_now v_paid_c4 v_paidTold v_pardoned v_piled v_shireNow v_off v_pile
  else
    bd8 (pM_does N x4 3 v_allowed v_debt_c4 v_farms v_isBlanchedNow v_now v_paid_c4 v_pardoned v_piled v_shireNow v_codes v_first v_isBlanched v_many v_off v_pile v_second v_sort v_sumEnd v_sumFrom v_testEnd) fun v_allowed_c5 v_debt_c5 v_farms_c5 v_isBlanchedNow_c5 v_pardoned_c5 v_piled_c5 v_off_c5 v_pile_c5 =>
    pM_rolls_b134 N a1 a2 v_acts v_knownAt v_movedAct v_movedTerm v_without v_actKind v_actNumber v_actShire v_actTerm v_codes v_cutWorth v_cuts v_first v_isBlanched v_many v_mates v_pence v_second v_sort v_sumEnd v_sumFrom v_testEnd v_voidAt self x3 v_allowed_c5 v_debt_c5 v_farms_c5 v_isBlanchedNow_c5 v_now v_paid_c4 v_paidTold v_pardoned_c5 v_piled_c5 v_shireNow v_off_c5 v_pile_c5
def pM_rolls_b98_F (N : Nat) (a1 : Int32) (a2 : Int32) (v_acts : Int32) (v_knownAt : Int32) (v_movedAct : Int32) (v_movedTerm : Int32) (v_without : Int32) (v_actKind : (Nat → Int32)) (v_actNumber : (Nat → Int32)) (v_actShire : (Nat → Int32)) (v_actTerm : (Nat → Int32)) (v_codes : (Nat → Int32)) (v_cutWorth : (Nat → Int32)) (v_cuts : (Nat → Int32)) (v_first : (Nat → Int32)) (v_isBlanched : (Nat → Int32)) (v_many : (Nat → Int32)) (v_mates : (Nat → Int32)) (v_pence : (Nat → Int32)) (v_second : (Nat → Int32)) (v_sort : (Nat → Int32)) (v_sumEnd : (Nat → Int32)) (v_sumFrom : (Nat → Int32)) (v_testEnd : (Nat → Int32)) (v_voidAt : (Nat → Int32)) (x3 : Int32) (x4 : Int32) (v_now : Int32) (v_paid : Int64) (v_paidTold : Int64) (v_shireNow : Int32) (k118 : Int64 → Int64 → Int64 → Int32 → Int64 → Int32 → (Nat → Int64) → (Nat → Int64) → Option R_pM_rolls) (self : Int32 → Int64 → Int64 → Int64 → Int32 → Int64 → Int32 → (Nat → Int64) → (Nat → Int64) → Option R_pM_rolls) (x5 : Int32) (v_allowed : Int64) (v_debt : Int64) (v_farms : Int64) (v_isBlanchedNow : Int32) (v_pardoned : Int64) (v_piled : Int32) (v_off : (Nat → Int64)) (v_pile : (Nat → Int64)) : Option R_pM_rolls :=
  if 2 < x5 then
    k118 v_allowed v_debt v_farms v_isBlanchedNow v_pardoned v_piled v_off v_pile
  else
    bd8 (pM_does N x4 x5 v_allowed v_debt v_farms v_isBlanchedNow v_now v_paid v_pardoned v_piled v_shireNow v_codes v_first v_isBlanched v_many v_off v_pile v_second v_sort v_sumEnd v_sumFrom v_testEnd) fun v_allowed_c6 v_debt_c6 v_farms_c6 v_isBlanchedNow_c6 v_pardoned_c6 v_piled_c6 v_off_c6 v_pile_c6 =>
    self (x5 + 1) v_allowed_c6 v_debt_c6 v_farms_c6 v_isBlanchedNow_c6 v_pardoned_c6 v_piled_c6 v_off_c6 v_pile_c6
def pM_rolls_b98 (N : Nat) (a1 : Int32) (a2 : Int32) (v_acts : Int32) (v_knownAt : Int32) (v_movedAct : Int32) (v_movedTerm : Int32) (v_without : Int32) (v_actKind : (Nat → Int32)) (v_actNumber : (Nat → Int32)) (v_actShire : (Nat → Int32)) (v_actTerm : (Nat → Int32)) (v_codes : (Nat → Int32)) (v_cutWorth : (Nat → Int32)) (v_cuts : (Nat → Int32)) (v_first : (Nat → Int32)) (v_isBlanched : (Nat → Int32)) (v_many : (Nat → Int32)) (v_mates : (Nat → Int32)) (v_pence : (Nat → Int32)) (v_second : (Nat → Int32)) (v_sort : (Nat → Int32)) (v_sumEnd : (Nat → Int32)) (v_sumFrom : (Nat → Int32)) (v_testEnd : (Nat → Int32)) (v_voidAt : (Nat → Int32)) (x3 : Int32) (x4 : Int32) (v_now : Int32) (v_paid : Int64) (v_paidTold : Int64) (v_shireNow : Int32) (k118 : Int64 → Int64 → Int64 → Int32 → Int64 → Int32 → (Nat → Int64) → (Nat → Int64) → Option R_pM_rolls) : Nat → Int32 → Int64 → Int64 → Int64 → Int32 → Int64 → Int32 → (Nat → Int64) → (Nat → Int64) → Option R_pM_rolls := zlp9 (pM_rolls_b98_F N a1 a2 v_acts v_knownAt v_movedAct v_movedTerm v_without v_actKind v_actNumber v_actShire v_actTerm v_codes v_cutWorth v_cuts v_first v_isBlanched v_many v_mates v_pence v_second v_sort v_sumEnd v_sumFrom v_testEnd v_voidAt x3 x4 v_now v_paid v_paidTold v_shireNow k118)
def pM_rolls_b33_F (N : Nat) (a1 : Int32) (a2 : Int32) (v_acts : Int32) (v_knownAt : Int32) (v_movedAct : Int32) (v_movedTerm : Int32) (v_without : Int32) (v_actKind : (Nat → Int32)) (v_actNumber : (Nat → Int32)) (v_actShire : (Nat → Int32)) (v_actTerm : (Nat → Int32)) (v_codes : (Nat → Int32)) (v_cutWorth : (Nat → Int32)) (v_cuts : (Nat → Int32)) (v_first : (Nat → Int32)) (v_isBlanched : (Nat → Int32)) (v_many : (Nat → Int32)) (v_mates : (Nat → Int32)) (v_pence : (Nat → Int32)) (v_second : (Nat → Int32)) (v_sort : (Nat → Int32)) (v_sumEnd : (Nat → Int32)) (v_sumFrom : (Nat → Int32)) (v_testEnd : (Nat → Int32)) (v_voidAt : (Nat → Int32)) (v_shireNow : Int32) (self : Int32 → Int64 → Int64 → Int64 → Int32 → Int32 → Int64 → Int64 → Int64 → Int32 → (Nat → Int64) → (Nat → Int64) → Option R_pM_rolls) (x3 : Int32) (v_allowed : Int64) (v_debt : Int64) (v_farms : Int64) (v_isBlanchedNow : Int32) (v_now : Int32) (v_paid : Int64) (v_paidTold : Int64) (v_pardoned : Int64) (v_piled : Int32) (v_off : (Nat → Int64)) (v_pile : (Nat → Int64)) : Option R_pM_rolls :=
  if a2 < x3 then
    some (v_debt, v_allowed, v_debt, v_farms, v_isBlanchedNow, v_now, v_paid, v_paidTold, v_pardoned, v_piled, v_shireNow, v_off, v_pile)
  else
    gd (ib x3 60) <|
    bd1 (pM_writOf N x3 v_acts v_knownAt v_without v_actKind v_actTerm v_voidAt) fun rc3 =>
    if rc3 ≤ 0 then
      pM_rolls_b118 N a1 a2 v_acts v_knownAt v_movedAct v_movedTerm v_without v_actKind v_actNumber v_actShire v_actTerm v_codes v_cutWorth v_cuts v_first v_isBlanched v_many v_mates v_pence v_second v_sort v_sumEnd v_sumFrom v_testEnd v_voidAt self x3 rc3 0 (v_debt + (v_off (ix x3))) 0 0 x3 0 v_paidTold 0 v_piled v_shireNow v_off v_pile
    else
      pM_rolls_b98 N a1 a2 v_acts v_knownAt v_movedAct v_movedTerm v_without v_actKind v_actNumber v_actShire v_actTerm v_codes v_cutWorth v_cuts v_first v_isBlanched v_many v_mates v_pence v_second v_sort v_sumEnd v_sumFrom v_testEnd v_voidAt x3 rc3 x3 0 v_paidTold v_shireNow (fun v_allowed_k2 v_debt_k3 v_farms_k4 v_isBlanchedNow_k5 v_pardoned_k6 v_piled_k7 => pM_rolls_b118 N a1 a2 v_acts v_knownAt v_movedAct v_movedTerm v_without v_actKind v_actNumber v_actShire v_actTerm v_codes v_cutWorth v_cuts v_first v_isBlanched v_many v_mates v_pence v_second v_sort v_sumEnd v_sumFrom v_testEnd v_voidAt self x3 rc3 v_allowed_k2 v_debt_k3 v_farms_k4 v_isBlanchedNow_k5 x3 0 v_paidTold v_pardoned_k6 v_piled_k7 v_shireNow) N 0 0 (v_debt + (v_off (ix x3))) 0 0 0 v_piled v_off v_pile
def pM_rolls_b33 (N : Nat) (a1 : Int32) (a2 : Int32) (v_acts : Int32) (v_knownAt : Int32) (v_movedAct : Int32) (v_movedTerm : Int32) (v_without : Int32) (v_actKind : (Nat → Int32)) (v_actNumber : (Nat → Int32)) (v_actShire : (Nat → Int32)) (v_actTerm : (Nat → Int32)) (v_codes : (Nat → Int32)) (v_cutWorth : (Nat → Int32)) (v_cuts : (Nat → Int32)) (v_first : (Nat → Int32)) (v_isBlanched : (Nat → Int32)) (v_many : (Nat → Int32)) (v_mates : (Nat → Int32)) (v_pence : (Nat → Int32)) (v_second : (Nat → Int32)) (v_sort : (Nat → Int32)) (v_sumEnd : (Nat → Int32)) (v_sumFrom : (Nat → Int32)) (v_testEnd : (Nat → Int32)) (v_voidAt : (Nat → Int32)) (v_shireNow : Int32) : Nat → Int32 → Int64 → Int64 → Int64 → Int32 → Int32 → Int64 → Int64 → Int64 → Int32 → (Nat → Int64) → (Nat → Int64) → Option R_pM_rolls := zlp12 (pM_rolls_b33_F N a1 a2 v_acts v_knownAt v_movedAct v_movedTerm v_without v_actKind v_actNumber v_actShire v_actTerm v_codes v_cutWorth v_cuts v_first v_isBlanched v_many v_mates v_pence v_second v_sort v_sumEnd v_sumFrom v_testEnd v_voidAt v_shireNow)
def pM_rolls_b21 (N : Nat) (a1 : Int32) (a2 : Int32) (v_acts : Int32) (v_knownAt : Int32) (v_movedAct : Int32) (v_movedTerm : Int32) (v_without : Int32) (v_actKind : (Nat → Int32)) (v_actNumber : (Nat → Int32)) (v_actShire : (Nat → Int32)) (v_actTerm : (Nat → Int32)) (v_codes : (Nat → Int32)) (v_cutWorth : (Nat → Int32)) (v_cuts : (Nat → Int32)) (v_first : (Nat → Int32)) (v_isBlanched : (Nat → Int32)) (v_many : (Nat → Int32)) (v_mates : (Nat → Int32)) (v_pence : (Nat → Int32)) (v_second : (Nat → Int32)) (v_sort : (Nat → Int32)) (v_sumEnd : (Nat → Int32)) (v_sumFrom : (Nat → Int32)) (v_testEnd : (Nat → Int32)) (v_voidAt : (Nat → Int32)) (v_allowed : Int64) (v_debt : Int64) (v_farms : Int64) (v_isBlanchedNow : Int32) (v_now : Int32) (v_paid : Int64) (v_paidTold : Int64) (v_pardoned : Int64) (v_piled : Int32) (v_shireNow : Int32) (v_off : (Nat → Int64)) (v_pile : (Nat → Int64)) : Option R_pM_rolls :=
  pM_rolls_b33 N a1 a2 v_acts v_knownAt v_movedAct v_movedTerm v_without v_actKind v_actNumber v_actShire v_actTerm v_codes v_cutWorth v_cuts v_first v_isBlanched v_many v_mates v_pence v_second v_sort v_sumEnd v_sumFrom v_testEnd v_voidAt a1 N 0 v_allowed 0 v_farms v_isBlanchedNow v_now v_paid v_paidTold v_pardoned v_piled v_off v_pile
def pM_rolls (N : Nat) (a1 : Int32) (a2 : Int32) (v_acts : Int32) (v_allowed : Int64) (v_debt : Int64) (v_farms : Int64) (v_isBlanchedNow : Int32) (v_knownAt : Int32) (v_movedAct : Int32) (v_movedTerm : Int32) (v_now : Int32) (v_paid : Int64) (v_paidTold : Int64) (v_pardoned : Int64) (v_piled : Int32) (v_shireNow : Int32) (v_without : Int32) (v_actKind : (Nat → Int32)) (v_actNumber : (Nat → Int32)) (v_actShire : (Nat → Int32)) (v_actTerm : (Nat → Int32)) (v_codes : (Nat → Int32)) (v_cutWorth : (Nat → Int32)) (v_cuts : (Nat → Int32)) (v_first : (Nat → Int32)) (v_isBlanched : (Nat → Int32)) (v_many : (Nat → Int32)) (v_mates : (Nat → Int32)) (v_off : (Nat → Int64)) (v_pence : (Nat → Int32)) (v_pile : (Nat → Int64)) (v_second : (Nat → Int32)) (v_sort : (Nat → Int32)) (v_sumEnd : (Nat → Int32)) (v_sumFrom : (Nat → Int32)) (v_testEnd : (Nat → Int32)) (v_voidAt : (Nat → Int32)) : Option R_pM_rolls :=
  pM_rolls_b2 N a1 a2 v_acts v_knownAt v_movedAct v_movedTerm v_without v_actKind v_actNumber v_actShire v_actTerm v_codes v_cutWorth v_cuts v_first v_isBlanched v_many v_mates v_pence v_second v_sort v_sumEnd v_sumFrom v_testEnd v_voidAt v_allowed v_debt v_farms v_isBlanchedNow v_now v_paid v_paidTold v_pardoned v_piled v_shireNow v_pile (fun v_off_k1 => pM_rolls_b21 N a1 a2 v_acts v_knownAt v_movedAct v_movedTerm v_without v_actKind v_actNumber v_actShire v_actTerm v_codes v_cutWorth v_cuts v_first v_isBlanched v_many v_mates v_pence v_second v_sort v_sumEnd v_sumFrom v_testEnd v_voidAt v_allowed v_debt v_farms v_isBlanchedNow v_now v_paid v_paidTold v_pardoned v_piled v_shireNow v_off_k1 v_pile) N 0 v_off
abbrev R_pM_putOff : Type := Int64
def pM_putOff_b7_F (N : Nat) (a1 : Int32) (v_off : (Nat → Int64)) (self : Int64 → Int32 → Option R_pM_putOff) (x2 : Int64) (x4 : Int32) : Option R_pM_putOff :=
  if 60 ≤ x4 then
    some x2
  else
    gd (ib x4 60) <|
    self (x2 + (v_off (ix x4))) (x4 + 1)
def pM_putOff_b7 (N : Nat) (a1 : Int32) (v_off : (Nat → Int64)) : Nat → Int64 → Int32 → Option R_pM_putOff := zlp2 (pM_putOff_b7_F N a1 v_off)
def pM_putOff (N : Nat) (a1 : Int32) (v_off : (Nat → Int64)) : Option R_pM_putOff :=
  pM_putOff_b7 N a1 v_off N 0 (a1 + 1)
abbrev R_pM_roll : Type := Int64 × Int64 × Int64 × Int64 × Int32 × Int32 × Int32 × Int32 × Int64 × Int64 × Int64 × Int32 × Int32 × Int32 × (Nat → Int32) × (Nat → Int32) × (Nat → Int32) × (Nat → Int32) × (Nat → Int64) × (Nat → Int64)
def pM_roll_b26 (N : Nat) (a1 : Int32) (a2 : Int32) (a3 : Int32) (v_acts : Int32) (v_as : Int32) (v_grain : Int32) (v_limit : Int32) (v_lost : Int32) (v_movedTerm : Int32) (v_actKind : (Nat → Int32)) (v_actNumber : (Nat → Int32)) (v_actShire : (Nat → Int32)) (v_actTerm : (Nat → Int32)) (v_codes : (Nat → Int32)) (v_cutAt : (Nat → Int32)) (v_cutWorth : (Nat → Int32)) (v_cuts : (Nat → Int32)) (v_first : (Nat → Int32)) (v_isBlanched : (Nat → Int32)) (v_many : (Nat → Int32)) (v_pence : (Nat → Int32)) (v_second : (Nat → Int32)) (v_sort : (Nat → Int32)) (v_sumEnd : (Nat → Int32)) (v_sumFrom : (Nat → Int32)) (v_testEnd : (Nat → Int32)) (v_voidAt : (Nat → Int32)) (v_allowed : Int64) (v_debt : Int64) (v_farms : Int64) (v_isBlanchedNow : Int32) (v_knownAt : Int32) (v_movedAct : Int32) (v_now : Int32) (v_paid : Int64) (v_paidTold : Int64) (v_pardoned : Int64) (v_piled : Int32) (v_shireNow : Int32) (v_without : Int32) (v_best : (Nat → Int32)) (v_cost : (Nat → Int32)) (v_fits : (Nat → Int32)) (v_mates : (Nat → Int32)) (v_off : (Nat → Int64)) (v_pile : (Nat → Int64)) : Option R_pM_roll :=
  some ((-2000000000000), v_allowed, v_debt, v_farms, v_isBlanchedNow, v_knownAt, v_movedAct, v_now, v_paid, v_paidTold, v_pardoned, v_piled, v_shireNow, v_without, v_best, v_cost, v_fits, v_mates, v_off, v_pile)
def pM_roll (N : Nat) (a1 : Int32) (a2 : Int32) (a3 : Int32) (v_acts : Int32) (v_allowed : Int64) (v_as : Int32) (v_debt : Int64) (v_farms : Int64) (v_grain : Int32) (v_isBlanchedNow : Int32) (v_knownAt : Int32) (v_limit : Int32) (v_lost : Int32) (v_movedAct : Int32) (v_movedTerm : Int32) (v_now : Int32) (v_paid : Int64) (v_paidTold : Int64) (v_pardoned : Int64) (v_piled : Int32) (v_shireNow : Int32) (v_without : Int32) (v_actKind : (Nat → Int32)) (v_actNumber : (Nat → Int32)) (v_actShire : (Nat → Int32)) (v_actTerm : (Nat → Int32)) (v_best : (Nat → Int32)) (v_codes : (Nat → Int32)) (v_cost : (Nat → Int32)) (v_cutAt : (Nat → Int32)) (v_cutWorth : (Nat → Int32)) (v_cuts : (Nat → Int32)) (v_first : (Nat → Int32)) (v_fits : (Nat → Int32)) (v_isBlanched : (Nat → Int32)) (v_many : (Nat → Int32)) (v_mates : (Nat → Int32)) (v_off : (Nat → Int64)) (v_pence : (Nat → Int32)) (v_pile : (Nat → Int64)) (v_second : (Nat → Int32)) (v_sort : (Nat → Int32)) (v_sumEnd : (Nat → Int32)) (v_sumFrom : (Nat → Int32)) (v_testEnd : (Nat → Int32)) (v_voidAt : (Nat → Int32)) : Option R_pM_roll :=
  bd1 (pM_isShire a1) fun rc1 =>
  if rc1 = 0 then
    pM_roll_b26 N a1 a2 a3 v_acts v_as v_grain v_limit v_lost v_movedTerm v_actKind v_actNumber v_actShire v_actTerm v_codes v_cutAt v_cutWorth v_cuts v_first v_isBlanched v_many v_pence v_second v_sort v_sumEnd v_sumFrom v_testEnd v_voidAt v_allowed v_debt v_farms v_isBlanchedNow v_knownAt v_movedAct v_now v_paid v_paidTold v_pardoned v_piled v_shireNow v_without v_best v_cost v_fits v_mates v_off v_pile
  else
    bd1 (pM_isTerm a2) fun rc2 =>
    if rc2 = 0 then
      pM_roll_b26 N a1 a2 a3 v_acts v_as v_grain v_limit v_lost v_movedTerm v_actKind v_actNumber v_actShire v_actTerm v_codes v_cutAt v_cutWorth v_cuts v_first v_isBlanched v_many v_pence v_second v_sort v_sumEnd v_sumFrom v_testEnd v_voidAt v_allowed v_debt v_farms v_isBlanchedNow v_knownAt v_movedAct v_now v_paid v_paidTold v_pardoned v_piled v_shireNow v_without v_best v_cost v_fits v_mates v_off v_pile
    else
      bd1 (pM_isIn (i2l a3) 0 6) fun rc3 =>
      if rc3 = 0 then
        pM_roll_b26 N a1 a2 a3 v_acts v_as v_grain v_limit v_lost v_movedTerm v_actKind v_actNumber v_actShire v_actTerm v_codes v_cutAt v_cutWorth v_cuts v_first v_isBlanched v_many v_pence v_second v_sort v_sumEnd v_sumFrom v_testEnd v_voidAt v_allowed v_debt v_farms v_isBlanchedNow v_knownAt v_movedAct v_now v_paid v_paidTold v_pardoned v_piled v_shireNow v_without v_best v_cost v_fits v_mates v_off v_pile
      else
        bd4 (pM_matches N v_grain v_limit v_lost v_best v_cost v_cutAt v_cutWorth v_cuts v_fits v_mates) fun v_best_c4 v_cost_c4 v_fits_c4 v_mates_c4 =>
        bd1 (pM_asNow v_acts v_as) fun rc5 =>
        bd3 (pM_tellsAsKnown rc5 v_knownAt v_movedAct v_without) fun v_knownAt_c6 v_movedAct_c6 v_without_c6 =>
        bd13 (pM_rolls N a1 a2 v_acts v_allowed v_debt v_farms v_isBlanchedNow v_knownAt_c6 v_movedAct_c6 v_movedTerm v_now v_paid v_paidTold v_pardoned v_piled v_shireNow v_without_c6 v_actKind v_actNumber v_actShire v_actTerm v_codes v_cutWorth v_cuts v_first v_isBlanched v_many v_mates_c4 v_off v_pence v_pile v_second v_sort v_sumEnd v_sumFrom v_testEnd v_voidAt) fun rc7 v_allowed_c7 v_debt_c7 v_farms_c7 v_isBlanchedNow_c7 v_now_c7 v_paid_c7 v_paidTold_c7 v_pardoned_c7 v_piled_c7 v_shireNow_c7 v_off_c7 v_pile_c7 =>
        if a3 = 0 then
          some (rc7, v_allowed_c7, v_debt_c7, v_farms_c7, v_isBlanchedNow_c7, v_knownAt_c6, v_movedAct_c6, v_now_c7, v_paid_c7, v_paidTold_c7, v_pardoned_c7, v_piled_c7, v_shireNow_c7, v_without_c6, v_best_c4, v_cost_c4, v_fits_c4, v_mates_c4, v_off_c7, v_pile_c7)
        else if a3 = 1 then
          bd1 (pM_putOff N a2 v_off_c7) fun rc8 =>
          some (rc8, v_allowed_c7, v_debt_c7, v_farms_c7, v_isBlanchedNow_c7, v_knownAt_c6, v_movedAct_c6, v_now_c7, v_paid_c7, v_paidTold_c7, v_pardoned_c7, v_piled_c7, v_shireNow_c7, v_without_c6, v_best_c4, v_cost_c4, v_fits_c4, v_mates_c4, v_off_c7, v_pile_c7)
        else if a3 = 2 then
          some (v_farms_c7, v_allowed_c7, v_debt_c7, v_farms_c7, v_isBlanchedNow_c7, v_knownAt_c6, v_movedAct_c6, v_now_c7, v_paid_c7, v_paidTold_c7, v_pardoned_c7, v_piled_c7, v_shireNow_c7, v_without_c6, v_best_c4, v_cost_c4, v_fits_c4, v_mates_c4, v_off_c7, v_pile_c7)
        else if a3 = 3 then
          some (v_allowed_c7, v_allowed_c7, v_debt_c7, v_farms_c7, v_isBlanchedNow_c7, v_knownAt_c6, v_movedAct_c6, v_now_c7, v_paid_c7, v_paidTold_c7, v_pardoned_c7, v_piled_c7, v_shireNow_c7, v_without_c6, v_best_c4, v_cost_c4, v_fits_c4, v_mates_c4, v_off_c7, v_pile_c7)
        else if a3 = 4 then
          some (v_pardoned_c7, v_allowed_c7, v_debt_c7, v_farms_c7, v_isBlanchedNow_c7, v_knownAt_c6, v_movedAct_c6, v_now_c7, v_paid_c7, v_paidTold_c7, v_pardoned_c7, v_piled_c7, v_shireNow_c7, v_without_c6, v_best_c4, v_cost_c4, v_fits_c4, v_mates_c4, v_off_c7, v_pile_c7)
        else if a3 = 5 then
          some (v_paidTold_c7, v_allowed_c7, v_debt_c7, v_farms_c7, v_isBlanchedNow_c7, v_knownAt_c6, v_movedAct_c6, v_now_c7, v_paid_c7, v_paidTold_c7, v_pardoned_c7, v_piled_c7, v_shireNow_c7, v_without_c6, v_best_c4, v_cost_c4, v_fits_c4, v_mates_c4, v_off_c7, v_pile_c7)
        else
          if 0 < (lg_cmp rc7 0) then
            some (0, v_allowed_c7, v_debt_c7, v_farms_c7, v_isBlanchedNow_c7, v_knownAt_c6, v_movedAct_c6, v_now_c7, v_paid_c7, v_paidTold_c7, v_pardoned_c7, v_piled_c7, v_shireNow_c7, v_without_c6, v_best_c4, v_cost_c4, v_fits_c4, v_mates_c4, v_off_c7, v_pile_c7)
          else
            bd1 (pM_putOff N a2 v_off_c7) fun rc9 =>
            if (lg_cmp rc9 0) = 0 then
              some (1, v_allowed_c7, v_debt_c7, v_farms_c7, v_isBlanchedNow_c7, v_knownAt_c6, v_movedAct_c6, v_now_c7, v_paid_c7, v_paidTold_c7, v_pardoned_c7, v_piled_c7, v_shireNow_c7, v_without_c6, v_best_c4, v_cost_c4, v_fits_c4, v_mates_c4, v_off_c7, v_pile_c7)
            else
              some (0, v_allowed_c7, v_debt_c7, v_farms_c7, v_isBlanchedNow_c7, v_knownAt_c6, v_movedAct_c6, v_now_c7, v_paid_c7, v_paidTold_c7, v_pardoned_c7, v_piled_c7, v_shireNow_c7, v_without_c6, v_best_c4, v_cost_c4, v_fits_c4, v_mates_c4, v_off_c7, v_pile_c7)
abbrev R_pM_owed : Type := Int64 × Int64 × Int64 × Int64 × Int32 × Int32 × Int32 × Int32 × Int64 × Int64 × Int64 × Int32 × Int32 × Int32 × (Nat → Int32) × (Nat → Int32) × (Nat → Int32) × (Nat → Int32) × (Nat → Int64) × (Nat → Int64)
def pM_owed_b28_F (N : Nat) (a1 : Int32) (v_acts : Int32) (v_as : Int32) (v_grain : Int32) (v_limit : Int32) (v_lost : Int32) (v_movedTerm : Int32) (v_actKind : (Nat → Int32)) (v_actNumber : (Nat → Int32)) (v_actShire : (Nat → Int32)) (v_actTerm : (Nat → Int32)) (v_codes : (Nat → Int32)) (v_cutAt : (Nat → Int32)) (v_cutWorth : (Nat → Int32)) (v_cuts : (Nat → Int32)) (v_first : (Nat → Int32)) (v_isBlanched : (Nat → Int32)) (v_many : (Nat → Int32)) (v_pence : (Nat → Int32)) (v_second : (Nat → Int32)) (v_sort : (Nat → Int32)) (v_sumEnd : (Nat → Int32)) (v_sumFrom : (Nat → Int32)) (v_testEnd : (Nat → Int32)) (v_voidAt : (Nat → Int32)) (v_knownAt : Int32) (v_movedAct : Int32) (v_without : Int32) (v_best : (Nat → Int32)) (v_cost : (Nat → Int32)) (v_fits : (Nat → Int32)) (v_mates : (Nat → Int32)) (self : Int64 → Int32 → Int64 → Int64 → Int64 → Int32 → Int32 → Int64 → Int64 → Int64 → Int32 → Int32 → (Nat → Int64) → (Nat → Int64) → Option R_pM_owed) (x2 : Int64) (x4 : Int32) (v_allowed : Int64) (v_debt : Int64) (v_farms : Int64) (v_isBlanchedNow : Int32) (v_now : Int32) (v_paid : Int64) (v_paidTold : Int64) (v_pardoned : Int64) (v_piled : Int32) (v_shireNow : Int32) (v_off : (Nat → Int64)) (v_pile : (Nat → Int64)) : Option R_pM_owed :=
  if 8 ≤ x4 then
    some (x2, v_allowed, v_debt, v_farms, v_isBlanchedNow, v_knownAt, v_movedAct, v_now, v_paid, v_paidTold, v_pardoned, v_piled, v_shireNow, v_without, v_best, v_cost, v_fits, v_mates, v_off, v_pile)
  else
    bd13 (pM_rolls N x4 a1 v_acts v_allowed v_debt v_farms v_isBlanchedNow v_knownAt v_movedAct v_movedTerm v_now v_paid v_paidTold v_pardoned v_piled v_shireNow v_without v_actKind v_actNumber v_actShire v_actTerm v_codes v_cutWorth v_cuts v_first v_isBlanched v_many v_mates v_off v_pence v_pile v_second v_sort v_sumEnd v_sumFrom v_testEnd v_voidAt) fun rc5 v_allowed_c5 v_debt_c5 v_farms_c5 v_isBlanchedNow_c5 v_now_c5 v_paid_c5 v_paidTold_c5 v_pardoned_c5 v_piled_c5 v_shireNow_c5 v_off_c5 v_pile_c5 =>
    if (lg_cmp rc5 0) ≤ 0 then
      self x2 (x4 + 1) v_allowed_c5 v_debt_c5 v_farms_c5 v_isBlanchedNow_c5 v_now_c5 v_paid_c5 v_paidTold_c5 v_pardoned_c5 v_piled_c5 v_shireNow_c5 v_off_c5 v_pile_c5
    else
      self (x2 + rc5) (x4 + 1) v_allowed_c5 v_debt_c5 v_farms_c5 v_isBlanchedNow_c5 v_now_c5 v_paid_c5 v_paidTold_c5 v_pardoned_c5 v_piled_c5 v_shireNow_c5 v_off_c5 v_pile_c5
def pM_owed_b28 (N : Nat) (a1 : Int32) (v_acts : Int32) (v_as : Int32) (v_grain : Int32) (v_limit : Int32) (v_lost : Int32) (v_movedTerm : Int32) (v_actKind : (Nat → Int32)) (v_actNumber : (Nat → Int32)) (v_actShire : (Nat → Int32)) (v_actTerm : (Nat → Int32)) (v_codes : (Nat → Int32)) (v_cutAt : (Nat → Int32)) (v_cutWorth : (Nat → Int32)) (v_cuts : (Nat → Int32)) (v_first : (Nat → Int32)) (v_isBlanched : (Nat → Int32)) (v_many : (Nat → Int32)) (v_pence : (Nat → Int32)) (v_second : (Nat → Int32)) (v_sort : (Nat → Int32)) (v_sumEnd : (Nat → Int32)) (v_sumFrom : (Nat → Int32)) (v_testEnd : (Nat → Int32)) (v_voidAt : (Nat → Int32)) (v_knownAt : Int32) (v_movedAct : Int32) (v_without : Int32) (v_best : (Nat → Int32)) (v_cost : (Nat → Int32)) (v_fits : (Nat → Int32)) (v_mates : (Nat → Int32)) : Nat → Int64 → Int32 → Int64 → Int64 → Int64 → Int32 → Int32 → Int64 → Int64 → Int64 → Int32 → Int32 → (Nat → Int64) → (Nat → Int64) → Option R_pM_owed := zlp14 (pM_owed_b28_F N a1 v_acts v_as v_grain v_limit v_lost v_movedTerm v_actKind v_actNumber v_actShire v_actTerm v_codes v_cutAt v_cutWorth v_cuts v_first v_isBlanched v_many v_pence v_second v_sort v_sumEnd v_sumFrom v_testEnd v_voidAt v_knownAt v_movedAct v_without v_best v_cost v_fits v_mates)
def pM_owed (N : Nat) (a1 : Int32) (v_acts : Int32) (v_allowed : Int64) (v_as : Int32) (v_debt : Int64) (v_farms : Int64) (v_grain : Int32) (v_isBlanchedNow : Int32) (v_knownAt : Int32) (v_limit : Int32) (v_lost : Int32) (v_movedAct : Int32) (v_movedTerm : Int32) (v_now : Int32) (v_paid : Int64) (v_paidTold : Int64) (v_pardoned : Int64) (v_piled : Int32) (v_shireNow : Int32) (v_without : Int32) (v_actKind : (Nat → Int32)) (v_actNumber : (Nat → Int32)) (v_actShire : (Nat → Int32)) (v_actTerm : (Nat → Int32)) (v_best : (Nat → Int32)) (v_codes : (Nat → Int32)) (v_cost : (Nat → Int32)) (v_cutAt : (Nat → Int32)) (v_cutWorth : (Nat → Int32)) (v_cuts : (Nat → Int32)) (v_first : (Nat → Int32)) (v_fits : (Nat → Int32)) (v_isBlanched : (Nat → Int32)) (v_many : (Nat → Int32)) (v_mates : (Nat → Int32)) (v_off : (Nat → Int64)) (v_pence : (Nat → Int32)) (v_pile : (Nat → Int64)) (v_second : (Nat → Int32)) (v_sort : (Nat → Int32)) (v_sumEnd : (Nat → Int32)) (v_sumFrom : (Nat → Int32)) (v_testEnd : (Nat → Int32)) (v_voidAt : (Nat → Int32)) : Option R_pM_owed :=
  bd1 (pM_isTerm a1) fun rc1 =>
  if rc1 = 0 then
    some ((-1), v_allowed, v_debt, v_farms, v_isBlanchedNow, v_knownAt, v_movedAct, v_now, v_paid, v_paidTold, v_pardoned, v_piled, v_shireNow, v_without, v_best, v_cost, v_fits, v_mates, v_off, v_pile)
  else
    bd4 (pM_matches N v_grain v_limit v_lost v_best v_cost v_cutAt v_cutWorth v_cuts v_fits v_mates) fun v_best_c2 v_cost_c2 v_fits_c2 v_mates_c2 =>
    bd1 (pM_asNow v_acts v_as) fun rc3 =>
    bd3 (pM_tellsAsKnown rc3 v_knownAt v_movedAct v_without) fun v_knownAt_c4 v_movedAct_c4 v_without_c4 =>
    pM_owed_b28 N a1 v_acts v_as v_grain v_limit v_lost v_movedTerm v_actKind v_actNumber v_actShire v_actTerm v_codes v_cutAt v_cutWorth v_cuts v_first v_isBlanched v_many v_pence v_second v_sort v_sumEnd v_sumFrom v_testEnd v_voidAt v_knownAt_c4 v_movedAct_c4 v_without_c4 v_best_c2 v_cost_c2 v_fits_c2 v_mates_c2 N 0 0 v_allowed v_debt v_farms v_isBlanchedNow v_now v_paid v_paidTold v_pardoned v_piled v_shireNow v_off v_pile
abbrev R_pM_slip : Type := Int32 × Int64 × Int64 × Int64 × Int32 × Int32 × Int32 × Int32 × Int32 × Int32 × Int64 × Int64 × Int64 × Int32 × Int32 × Int32 × (Nat → Int32) × (Nat → Int32) × (Nat → Int32) × (Nat → Int32) × (Nat → Int64) × (Nat → Int64)
def pM_slip_b50_F (N : Nat) (a1 : Int32) (a2 : Int32) (a3 : Int64) (v_acts : Int32) (v_as : Int32) (v_grain : Int32) (v_limit : Int32) (v_lost : Int32) (v_actKind : (Nat → Int32)) (v_actNumber : (Nat → Int32)) (v_actShire : (Nat → Int32)) (v_actTerm : (Nat → Int32)) (v_codes : (Nat → Int32)) (v_cutAt : (Nat → Int32)) (v_cutWorth : (Nat → Int32)) (v_cuts : (Nat → Int32)) (v_first : (Nat → Int32)) (v_isBlanched : (Nat → Int32)) (v_many : (Nat → Int32)) (v_pence : (Nat → Int32)) (v_second : (Nat → Int32)) (v_sort : (Nat → Int32)) (v_sumEnd : (Nat → Int32)) (v_sumFrom : (Nat → Int32)) (v_testEnd : (Nat → Int32)) (v_voidAt : (Nat → Int32)) (v_knownAt : Int32) (v_moved : Int32) (v_movedAct : Int32) (v_movedTerm : Int32) (v_best : (Nat → Int32)) (v_cost : (Nat → Int32)) (v_fits : (Nat → Int32)) (v_mates : (Nat → Int32)) (k113 : Int64 → Int64 → Int64 → Int32 → Int32 → Int64 → Int64 → Int64 → Int32 → Int32 → Int32 → (Nat → Int64) → (Nat → Int64) → Option R_pM_slip) (self : Int32 → Int64 → Int64 → Int64 → Int32 → Int32 → Int64 → Int64 → Int64 → Int32 → Int32 → Int32 → (Nat → Int64) → (Nat → Int64) → Option R_pM_slip) (x5 : Int32) (v_allowed : Int64) (v_debt : Int64) (v_farms : Int64) (v_isBlanchedNow : Int32) (v_now : Int32) (v_paid : Int64) (v_paidTold : Int64) (v_pardoned : Int64) (v_piled : Int32) (v_shireNow : Int32) (v_without : Int32) (v_off : (Nat → Int64)) (v_pile : (Nat → Int64)) : Option R_pM_slip :=
  if v_acts < x5 then
    k113 v_allowed v_debt v_farms v_isBlanchedNow v_now v_paid v_paidTold v_pardoned v_piled v_shireNow v_without v_off v_pile
  else
    gd (ib x5 201) <|
    if (v_actKind (ix x5)) = 5 then
      self (x5 + 1) v_allowed v_debt v_farms v_isBlanchedNow v_now v_paid v_paidTold v_pardoned v_piled v_shireNow (-1) v_off v_pile
    else
      bd1 (pM_isKnown x5 v_knownAt (-1) v_voidAt) fun rc8 =>
      if rc8 = 0 then
        self (x5 + 1) v_allowed v_debt v_farms v_isBlanchedNow v_now v_paid v_paidTold v_pardoned v_piled v_shireNow (-1) v_off v_pile
      else
        bd13 (pM_rolls N a1 a2 v_acts v_allowed v_debt v_farms v_isBlanchedNow v_knownAt v_movedAct v_movedTerm v_now v_paid v_paidTold v_pardoned v_piled v_shireNow x5 v_actKind v_actNumber v_actShire v_actTerm v_codes v_cutWorth v_cuts v_first v_isBlanched v_many v_mates v_off v_pence v_pile v_second v_sort v_sumEnd v_sumFrom v_testEnd v_voidAt) fun rc9 v_allowed_c9 v_debt_c9 v_farms_c9 v_isBlanchedNow_c9 v_now_c9 v_paid_c9 v_paidTold_c9 v_pardoned_c9 v_piled_c9 v_shireNow_c9 v_off_c9 v_pile_c9 =>
        if (lg_cmp rc9 a3) = 0 then
          some (x5, v_allowed_c9, v_debt_c9, v_farms_c9, v_isBlanchedNow_c9, v_knownAt, v_moved, v_movedAct, v_movedTerm, v_now_c9, v_paid_c9, v_paidTold_c9, v_pardoned_c9, v_piled_c9, v_shireNow_c9, x5, v_best, v_cost, v_fits, v_mates, v_off_c9, v_pile_c9)
        else
          self (x5 + 1) v_allowed_c9 v_debt_c9 v_farms_c9 v_isBlanchedNow_c9 v_now_c9 v_paid_c9 v_paidTold_c9 v_pardoned_c9 v_piled_c9 v_shireNow_c9 x5 v_off_c9 v_pile_c9
def pM_slip_b50 (N : Nat) (a1 : Int32) (a2 : Int32) (a3 : Int64) (v_acts : Int32) (v_as : Int32) (v_grain : Int32) (v_limit : Int32) (v_lost : Int32) (v_actKind : (Nat → Int32)) (v_actNumber : (Nat → Int32)) (v_actShire : (Nat → Int32)) (v_actTerm : (Nat → Int32)) (v_codes : (Nat → Int32)) (v_cutAt : (Nat → Int32)) (v_cutWorth : (Nat → Int32)) (v_cuts : (Nat → Int32)) (v_first : (Nat → Int32)) (v_isBlanched : (Nat → Int32)) (v_many : (Nat → Int32)) (v_pence : (Nat → Int32)) (v_second : (Nat → Int32)) (v_sort : (Nat → Int32)) (v_sumEnd : (Nat → Int32)) (v_sumFrom : (Nat → Int32)) (v_testEnd : (Nat → Int32)) (v_voidAt : (Nat → Int32)) (v_knownAt : Int32) (v_moved : Int32) (v_movedAct : Int32) (v_movedTerm : Int32) (v_best : (Nat → Int32)) (v_cost : (Nat → Int32)) (v_fits : (Nat → Int32)) (v_mates : (Nat → Int32)) (k113 : Int64 → Int64 → Int64 → Int32 → Int32 → Int64 → Int64 → Int64 → Int32 → Int32 → Int32 → (Nat → Int64) → (Nat → Int64) → Option R_pM_slip) : Nat → Int32 → Int64 → Int64 → Int64 → Int32 → Int32 → Int64 → Int64 → Int64 → Int32 → Int32 → Int32 → (Nat → Int64) → (Nat → Int64) → Option R_pM_slip := zlp14 (pM_slip_b50_F N a1 a2 a3 v_acts v_as v_grain v_limit v_lost v_actKind v_actNumber v_actShire v_actTerm v_codes v_cutAt v_cutWorth v_cuts v_first v_isBlanched v_many v_pence v_second v_sort v_sumEnd v_sumFrom v_testEnd v_voidAt v_knownAt v_moved v_movedAct v_movedTerm v_best v_cost v_fits v_mates k113)
def pM_slip_b225 (N : Nat) (a1 : Int32) (a2 : Int32) (a3 : Int64) (v_acts : Int32) (v_as : Int32) (v_grain : Int32) (v_limit : Int32) (v_lost : Int32) (v_actKind : (Nat → Int32)) (v_actNumber : (Nat → Int32)) (v_actShire : (Nat → Int32)) (v_actTerm : (Nat → Int32)) (v_codes : (Nat → Int32)) (v_cutAt : (Nat → Int32)) (v_cutWorth : (Nat → Int32)) (v_cuts : (Nat → Int32)) (v_first : (Nat → Int32)) (v_isBlanched : (Nat → Int32)) (v_many : (Nat → Int32)) (v_pence : (Nat → Int32)) (v_second : (Nat → Int32)) (v_sort : (Nat → Int32)) (v_sumEnd : (Nat → Int32)) (v_sumFrom : (Nat → Int32)) (v_testEnd : (Nat → Int32)) (v_voidAt : (Nat → Int32)) (self : Int32 → Int64 → Int64 → Int64 → Int32 → Int32 → Int32 → Int32 → Int64 → Int64 → Int64 → Int32 → Int32 → (Nat → Int64) → (Nat → Int64) → Option R_pM_slip) (x5 : Int32) (v_allowed : Int64) (v_debt : Int64) (v_farms : Int64) (v_isBlanchedNow : Int32) (v_knownAt : Int32) (v_moved : Int32) (v_movedAct : Int32) (v_movedTerm : Int32) (v_now : Int32) (v_paid : Int64) (v_paidTold : Int64) (v_pardoned : Int64) (v_piled : Int32) (v_shireNow : Int32) (v_without : Int32) (v_best : (Nat → Int32)) (v_cost : (Nat → Int32)) (v_fits : (Nat → Int32)) (v_mates : (Nat → Int32)) (v_off : (Nat → Int64)) (v_pile : (Nat → Int64)) : Option R_pM_slip :=
  self (x5 + 1) v_allowed v_debt v_farms v_isBlanchedNow v_movedAct v_movedTerm v_now v_paid v_paidTold v_pardoned v_piled v_shireNow v_off v_pile
def pM_slip_b165_F (N : Nat) (a1 : Int32) (a2 : Int32) (a3 : Int64) (v_acts : Int32) (v_as : Int32) (v_grain : Int32) (v_limit : Int32) (v_lost : Int32) (v_actKind : (Nat → Int32)) (v_actNumber : (Nat → Int32)) (v_actShire : (Nat → Int32)) (v_actTerm : (Nat → Int32)) (v_codes : (Nat → Int32)) (v_cutAt : (Nat → Int32)) (v_cutWorth : (Nat → Int32)) (v_cuts : (Nat → Int32)) (v_first : (Nat → Int32)) (v_isBlanched : (Nat → Int32)) (v_many : (Nat → Int32)) (v_pence : (Nat → Int32)) (v_second : (Nat → Int32)) (v_sort : (Nat → Int32)) (v_sumEnd : (Nat → Int32)) (v_sumFrom : (Nat → Int32)) (v_testEnd : (Nat → Int32)) (v_voidAt : (Nat → Int32)) (x5 : Int32) (v_knownAt : Int32) (v_moved : Int32) (v_without : Int32) (v_best : (Nat → Int32)) (v_cost : (Nat → Int32)) (v_fits : (Nat → Int32)) (v_mates : (Nat → Int32)) (k225 : Int64 → Int64 → Int64 → Int32 → Int32 → Int32 → Int32 → Int64 → Int64 → Int64 → Int32 → Int32 → (Nat → Int64) → (Nat → Int64) → Option R_pM_slip) (self : Int32 → Int64 → Int64 → Int64 → Int32 → Int32 → Int32 → Int32 → Int64 → Int64 → Int64 → Int32 → Int32 → (Nat → Int64) → (Nat → Int64) → Option R_pM_slip) (x6 : Int32) (v_allowed : Int64) (v_debt : Int64) (v_farms : Int64) (v_isBlanchedNow : Int32) (v_movedAct : Int32) (v_movedTerm : Int32) (v_now : Int32) (v_paid : Int64) (v_paidTold : Int64) (v_pardoned : Int64) (v_piled : Int32) (v_shireNow : Int32) (v_off : (Nat → Int64)) (v_pile : (Nat → Int64)) : Option R_pM_slip :=
  if 40 ≤ x6 then
    k225 v_allowed v_debt v_farms v_isBlanchedNow v_movedAct v_movedTerm v_now v_paid v_paidTold v_pardoned v_piled v_shireNow v_off v_pile
  else
    gd (ib x5 201) <|
    if x6 = (v_actTerm (ix x5)) then
      self (x6 + 1) v_allowed v_debt v_farms v_isBlanchedNow x5 x6 v_now v_paid v_paidTold v_pardoned v_piled v_shireNow v_off v_pile
    else
      bd13 (pM_rolls N a1 a2 v_acts v_allowed v_debt v_farms v_isBlanchedNow v_knownAt x5 x6 v_now v_paid v_paidTold v_pardoned v_piled v_shireNow v_without v_actKind v_actNumber v_actShire v_actTerm v_codes v_cutWorth v_cuts v_first v_isBlanched v_many v_mates v_off v_pence v_pile v_second v_sort v_sumEnd v_sumFrom v_testEnd v_voidAt) fun rc14 v_allowed_c14 v_debt_c14 v_farms_c14 v_isBlanchedNow_c14 v_now_c14 v_paid_c14 v_paidTold_c14 v_pardoned_c14 v_piled_c14 v_shireNow_c14 v_off_c14 v_pile_c14 =>
      if (lg_cmp rc14 a3) = 0 then
        some (x5, v_allowed_c14, v_debt_c14, v_farms_c14, v_isBlanchedNow_c14, v_knownAt, x6, x5, x6, v_now_c14, v_paid_c14, v_paidTold_c14, v_pardoned_c14, v_piled_c14, v_shireNow_c14, v_without, v_best, v_cost, v_fits, v_mates, v_off_c14, v_pile_c14)
      else
        self (x6 + 1) v_allowed_c14 v_debt_c14 v_farms_c14 v_isBlanchedNow_c14 x5 x6 v_now_c14 v_paid_c14 v_paidTold_c14 v_pardoned_c14 v_piled_c14 v_shireNow_c14 v_off_c14 v_pile_c14
def pM_slip_b165 (N : Nat) (a1 : Int32) (a2 : Int32) (a3 : Int64) (v_acts : Int32) (v_as : Int32) (v_grain : Int32) (v_limit : Int32) (v_lost : Int32) (v_actKind : (Nat → Int32)) (v_actNumber : (Nat → Int32)) (v_actShire : (Nat → Int32)) (v_actTerm : (Nat → Int32)) (v_codes : (Nat → Int32)) (v_cutAt : (Nat → Int32)) (v_cutWorth : (Nat → Int32)) (v_cuts : (Nat → Int32)) (v_first : (Nat → Int32)) (v_isBlanched : (Nat → Int32)) (v_many : (Nat → Int32)) (v_pence : (Nat → Int32)) (v_second : (Nat → Int32)) (v_sort : (Nat → Int32)) (v_sumEnd : (Nat → Int32)) (v_sumFrom : (Nat → Int32)) (v_testEnd : (Nat → Int32)) (v_voidAt : (Nat → Int32)) (x5 : Int32) (v_knownAt : Int32) (v_moved : Int32) (v_without : Int32) (v_best : (Nat → Int32)) (v_cost : (Nat → Int32)) (v_fits : (Nat → Int32)) (v_mates : (Nat → Int32)) (k225 : Int64 → Int64 → Int64 → Int32 → Int32 → Int32 → Int32 → Int64 → Int64 → Int64 → Int32 → Int32 → (Nat → Int64) → (Nat → Int64) → Option R_pM_slip) : Nat → Int32 → Int64 → Int64 → Int64 → Int32 → Int32 → Int32 → Int32 → Int64 → Int64 → Int64 → Int32 → Int32 → (Nat → Int64) → (Nat → Int64) → Option R_pM_slip := zlp15 (pM_slip_b165_F N a1 a2 a3 v_acts v_as v_grain v_limit v_lost v_actKind v_actNumber v_actShire v_actTerm v_codes v_cutAt v_cutWorth v_cuts v_first v_isBlanched v_many v_pence v_second v_sort v_sumEnd v_sumFrom v_testEnd v_voidAt x5 v_knownAt v_moved v_without v_best v_cost v_fits v_mates k225)
def pM_slip_b121_F (N : Nat) (a1 : Int32) (a2 : Int32) (a3 : Int64) (v_acts : Int32) (v_as : Int32) (v_grain : Int32) (v_limit : Int32) (v_lost : Int32) (v_actKind : (Nat → Int32)) (v_actNumber : (Nat → Int32)) (v_actShire : (Nat → Int32)) (v_actTerm : (Nat → Int32)) (v_codes : (Nat → Int32)) (v_cutAt : (Nat → Int32)) (v_cutWorth : (Nat → Int32)) (v_cuts : (Nat → Int32)) (v_first : (Nat → Int32)) (v_isBlanched : (Nat → Int32)) (v_many : (Nat → Int32)) (v_pence : (Nat → Int32)) (v_second : (Nat → Int32)) (v_sort : (Nat → Int32)) (v_sumEnd : (Nat → Int32)) (v_sumFrom : (Nat → Int32)) (v_testEnd : (Nat → Int32)) (v_voidAt : (Nat → Int32)) (v_knownAt : Int32) (v_moved : Int32) (v_without : Int32) (v_best : (Nat → Int32)) (v_cost : (Nat → Int32)) (v_fits : (Nat → Int32)) (v_mates : (Nat → Int32)) (self : Int32 → Int64 → Int64 → Int64 → Int32 → Int32 → Int32 → Int32 → Int64 → Int64 → Int64 → Int32 → Int32 → (Nat → Int64) → (Nat → Int64) → Option R_pM_slip) (x5 : Int32) (v_allowed : Int64) (v_debt : Int64) (v_farms : Int64) (v_isBlanchedNow : Int32) (v_movedAct : Int32) (v_movedTerm : Int32) (v_now : Int32) (v_paid : Int64) (v_paidTold : Int64) (v_pardoned : Int64) (v_piled : Int32) (v_shireNow : Int32) (v_off : (Nat → Int64)) (v_pile : (Nat → Int64)) : Option R_pM_slip :=
  if v_acts < x5 then
    some ((-1), v_allowed, v_debt, v_farms, v_isBlanchedNow, v_knownAt, v_moved, v_movedAct, v_movedTerm, v_now, v_paid, v_paidTold, v_pardoned, v_piled, v_shireNow, v_without, v_best, v_cost, v_fits, v_mates, v_off, v_pile)
  else
    bd1 (pM_isPayment x5 v_actKind) fun rc10 =>
    if rc10 = 0 then
      pM_slip_b225 N a1 a2 a3 v_acts v_as v_grain v_limit v_lost v_actKind v_actNumber v_actShire v_actTerm v_codes v_cutAt v_cutWorth v_cuts v_first v_isBlanched v_many v_pence v_second v_sort v_sumEnd v_sumFrom v_testEnd v_voidAt self x5 v_allowed v_debt v_farms v_isBlanchedNow v_knownAt v_moved v_movedAct v_movedTerm v_now v_paid v_paidTold v_pardoned v_piled v_shireNow v_without v_best v_cost v_fits v_mates v_off v_pile
    else
      bd1 (pM_isKnown x5 v_knownAt v_without v_voidAt) fun rc11 =>
      if rc11 = 0 then
        pM_slip_b225 N a1 a2 a3 v_acts v_as v_grain v_limit v_lost v_actKind v_actNumber v_actShire v_actTerm v_codes v_cutAt v_cutWorth v_cuts v_first v_isBlanched v_many v_pence v_second v_sort v_sumEnd v_sumFrom v_testEnd v_voidAt self x5 v_allowed v_debt v_farms v_isBlanchedNow v_knownAt v_moved v_movedAct v_movedTerm v_now v_paid v_paidTold v_pardoned v_piled v_shireNow v_without v_best v_cost v_fits v_mates v_off v_pile
      else
        gd (ib x5 201) <|
        if (v_actShire (ix x5)) = a1 then
          pM_slip_b165 N a1 a2 a3 v_acts v_as v_grain v_limit v_lost v_actKind v_actNumber v_actShire v_actTerm v_codes v_cutAt v_cutWorth v_cuts v_first v_isBlanched v_many v_pence v_second v_sort v_sumEnd v_sumFrom v_testEnd v_voidAt x5 v_knownAt v_moved v_without v_best v_cost v_fits v_mates (fun v_allowed_k14 v_debt_k15 v_farms_k16 v_isBlanchedNow_k17 v_movedAct_k18 v_movedTerm_k19 v_now_k20 v_paid_k21 v_paidTold_k22 v_pardoned_k23 v_piled_k24 v_shireNow_k25 => pM_slip_b225 N a1 a2 a3 v_acts v_as v_grain v_limit v_lost v_actKind v_actNumber v_actShire v_actTerm v_codes v_cutAt v_cutWorth v_cuts v_first v_isBlanched v_many v_pence v_second v_sort v_sumEnd v_sumFrom v_testEnd v_voidAt self x5 v_allowed_k14 v_debt_k15 v_farms_k16 v_isBlanchedNow_k17 v_knownAt v_moved v_movedAct_k18 v_movedTerm_k19 v_now_k20 v_paid_k21 v_paidTold_k22 v_pardoned_k23 v_piled_k24 v_shireNow_k25 v_without v_best v_cost v_fits v_mates) N 0 v_allowed v_debt v_farms v_isBlanchedNow v_movedAct v_movedTerm v_now v_paid v_paidTold v_pardoned v_piled v_shireNow v_off v_pile
        else
          pM_slip_b225 N a1 a2 a3 v_acts v_as v_grain v_limit v_lost v_actKind v_actNumber v_actShire v_actTerm v_codes v_cutAt v_cutWorth v_cuts v_first v_isBlanched v_many v_pence v_second v_sort v_sumEnd v_sumFrom v_testEnd v_voidAt self x5 v_allowed v_debt v_farms v_isBlanchedNow v_knownAt v_moved v_movedAct v_movedTerm v_now v_paid v_paidTold v_pardoned v_piled v_shireNow v_without v_best v_cost v_fits v_mates v_off v_pile
def pM_slip_b121 (N : Nat) (a1 : Int32) (a2 : Int32) (a3 : Int64) (v_acts : Int32) (v_as : Int32) (v_grain : Int32) (v_limit : Int32) (v_lost : Int32) (v_actKind : (Nat → Int32)) (v_actNumber : (Nat → Int32)) (v_actShire : (Nat → Int32)) (v_actTerm : (Nat → Int32)) (v_codes : (Nat → Int32)) (v_cutAt : (Nat → Int32)) (v_cutWorth : (Nat → Int32)) (v_cuts : (Nat → Int32)) (v_first : (Nat → Int32)) (v_isBlanched : (Nat → Int32)) (v_many : (Nat → Int32)) (v_pence : (Nat → Int32)) (v_second : (Nat → Int32)) (v_sort : (Nat → Int32)) (v_sumEnd : (Nat → Int32)) (v_sumFrom : (Nat → Int32)) (v_testEnd : (Nat → Int32)) (v_voidAt : (Nat → Int32)) (v_knownAt : Int32) (v_moved : Int32) (v_without : Int32) (v_best : (Nat → Int32)) (v_cost : (Nat → Int32)) (v_fits : (Nat → Int32)) (v_mates : (Nat → Int32)) : Nat → Int32 → Int64 → Int64 → Int64 → Int32 → Int32 → Int32 → Int32 → Int64 → Int64 → Int64 → Int32 → Int32 → (Nat → Int64) → (Nat → Int64) → Option R_pM_slip := zlp15 (pM_slip_b121_F N a1 a2 a3 v_acts v_as v_grain v_limit v_lost v_actKind v_actNumber v_actShire v_actTerm v_codes v_cutAt v_cutWorth v_cuts v_first v_isBlanched v_many v_pence v_second v_sort v_sumEnd v_sumFrom v_testEnd v_voidAt v_knownAt v_moved v_without v_best v_cost v_fits v_mates)
def pM_slip_b113 (N : Nat) (a1 : Int32) (a2 : Int32) (a3 : Int64) (v_acts : Int32) (v_as : Int32) (v_grain : Int32) (v_limit : Int32) (v_lost : Int32) (v_actKind : (Nat → Int32)) (v_actNumber : (Nat → Int32)) (v_actShire : (Nat → Int32)) (v_actTerm : (Nat → Int32)) (v_codes : (Nat → Int32)) (v_cutAt : (Nat → Int32)) (v_cutWorth : (Nat → Int32)) (v_cuts : (Nat → Int32)) (v_first : (Nat → Int32)) (v_isBlanched : (Nat → Int32)) (v_many : (Nat → Int32)) (v_pence : (Nat → Int32)) (v_second : (Nat → Int32)) (v_sort : (Nat → Int32)) (v_sumEnd : (Nat → Int32)) (v_sumFrom : (Nat → Int32)) (v_testEnd : (Nat → Int32)) (v_voidAt : (Nat → Int32)) (v_allowed : Int64) (v_debt : Int64) (v_farms : Int64) (v_isBlanchedNow : Int32) (v_knownAt : Int32) (v_moved : Int32) (v_movedAct : Int32) (v_movedTerm : Int32) (v_now : Int32) (v_paid : Int64) (v_paidTold : Int64) (v_pardoned : Int64) (v_piled : Int32) (v_shireNow : Int32) (v_without : Int32) (v_best : (Nat → Int32)) (v_cost : (Nat → Int32)) (v_fits : (Nat → Int32)) (v_mates : (Nat → Int32)) (v_off : (Nat → Int64)) (v_pile : (Nat → Int64)) : Option R_pM_slip :=
  pM_slip_b121 N a1 a2 a3 v_acts v_as v_grain v_limit v_lost v_actKind v_actNumber v_actShire v_actTerm v_codes v_cutAt v_cutWorth v_cuts v_first v_isBlanched v_many v_pence v_second v_sort v_sumEnd v_sumFrom v_testEnd v_voidAt v_knownAt v_moved (-1) v_best v_cost v_fits v_mates N 1 v_allowed v_debt v_farms v_isBlanchedNow v_movedAct v_movedTerm v_now v_paid v_paidTold v_pardoned v_piled v_shireNow v_off v_pile
def pM_slip (N : Nat) (a1 : Int32) (a2 : Int32) (a3 : Int64) (v_acts : Int32) (v_allowed : Int64) (v_as : Int32) (v_debt : Int64) (v_farms : Int64) (v_grain : Int32) (v_isBlanchedNow : Int32) (v_knownAt : Int32) (v_limit : Int32) (v_lost : Int32) (v_moved : Int32) (v_movedAct : Int32) (v_movedTerm : Int32) (v_now : Int32) (v_paid : Int64) (v_paidTold : Int64) (v_pardoned : Int64) (v_piled : Int32) (v_shireNow : Int32) (v_without : Int32) (v_actKind : (Nat → Int32)) (v_actNumber : (Nat → Int32)) (v_actShire : (Nat → Int32)) (v_actTerm : (Nat → Int32)) (v_best : (Nat → Int32)) (v_codes : (Nat → Int32)) (v_cost : (Nat → Int32)) (v_cutAt : (Nat → Int32)) (v_cutWorth : (Nat → Int32)) (v_cuts : (Nat → Int32)) (v_first : (Nat → Int32)) (v_fits : (Nat → Int32)) (v_isBlanched : (Nat → Int32)) (v_many : (Nat → Int32)) (v_mates : (Nat → Int32)) (v_off : (Nat → Int64)) (v_pence : (Nat → Int32)) (v_pile : (Nat → Int64)) (v_second : (Nat → Int32)) (v_sort : (Nat → Int32)) (v_sumEnd : (Nat → Int32)) (v_sumFrom : (Nat → Int32)) (v_testEnd : (Nat → Int32)) (v_voidAt : (Nat → Int32)) : Option R_pM_slip :=
  bd1 (pM_isShire a1) fun rc1 =>
  if rc1 = 0 then
    some ((-2), v_allowed, v_debt, v_farms, v_isBlanchedNow, v_knownAt, v_moved, v_movedAct, v_movedTerm, v_now, v_paid, v_paidTold, v_pardoned, v_piled, v_shireNow, v_without, v_best, v_cost, v_fits, v_mates, v_off, v_pile)
  else
    bd1 (pM_isTerm a2) fun rc2 =>
    if rc2 = 0 then
      some ((-2), v_allowed, v_debt, v_farms, v_isBlanchedNow, v_knownAt, v_moved, v_movedAct, v_movedTerm, v_now, v_paid, v_paidTold, v_pardoned, v_piled, v_shireNow, v_without, v_best, v_cost, v_fits, v_mates, v_off, v_pile)
    else
      bd4 (pM_matches N v_grain v_limit v_lost v_best v_cost v_cutAt v_cutWorth v_cuts v_fits v_mates) fun v_best_c3 v_cost_c3 v_fits_c3 v_mates_c3 =>
      bd1 (pM_asNow v_acts v_as) fun rc4 =>
      bd3 (pM_tellsAsKnown rc4 v_knownAt v_movedAct v_without) fun v_knownAt_c5 v_movedAct_c5 v_without_c5 =>
      bd13 (pM_rolls N a1 a2 v_acts v_allowed v_debt v_farms v_isBlanchedNow v_knownAt_c5 v_movedAct_c5 v_movedTerm v_now v_paid v_paidTold v_pardoned v_piled v_shireNow v_without_c5 v_actKind v_actNumber v_actShire v_actTerm v_codes v_cutWorth v_cuts v_first v_isBlanched v_many v_mates_c3 v_off v_pence v_pile v_second v_sort v_sumEnd v_sumFrom v_testEnd v_voidAt) fun rc6 v_allowed_c6 v_debt_c6 v_farms_c6 v_isBlanchedNow_c6 v_now_c6 v_paid_c6 v_paidTold_c6 v_pardoned_c6 v_piled_c6 v_shireNow_c6 v_off_c6 v_pile_c6 =>
      if (lg_cmp rc6 a3) = 0 then
        some (0, v_allowed_c6, v_debt_c6, v_farms_c6, v_isBlanchedNow_c6, v_knownAt_c5, (-1), v_movedAct_c5, v_movedTerm, v_now_c6, v_paid_c6, v_paidTold_c6, v_pardoned_c6, v_piled_c6, v_shireNow_c6, v_without_c5, v_best_c3, v_cost_c3, v_fits_c3, v_mates_c3, v_off_c6, v_pile_c6)
      else
        pM_slip_b50 N a1 a2 a3 v_acts v_as v_grain v_limit v_lost v_actKind v_actNumber v_actShire v_actTerm v_codes v_cutAt v_cutWorth v_cuts v_first v_isBlanched v_many v_pence v_second v_sort v_sumEnd v_sumFrom v_testEnd v_voidAt v_knownAt_c5 (-1) v_movedAct_c5 v_movedTerm v_best_c3 v_cost_c3 v_fits_c3 v_mates_c3 (fun v_allowed_k1 v_debt_k2 v_farms_k3 v_isBlanchedNow_k4 v_now_k5 v_paid_k6 v_paidTold_k7 v_pardoned_k8 v_piled_k9 v_shireNow_k10 v_without_k11 => pM_slip_b113 N a1 a2 a3 v_acts v_as v_grain v_limit v_lost v_actKind v_actNumber v_actShire v_actTerm v_codes v_cutAt v_cutWorth v_cuts v_first v_isBlanched v_many v_pence v_second v_sort v_sumEnd v_sumFrom v_testEnd v_voidAt v_allowed_k1 v_debt_k2 v_farms_k3 v_isBlanchedNow_k4 v_knownAt_c5 (-1) v_movedAct_c5 v_movedTerm v_now_k5 v_paid_k6 v_paidTold_k7 v_pardoned_k8 v_piled_k9 v_shireNow_k10 v_without_k11 v_best_c3 v_cost_c3 v_fits_c3 v_mates_c3) N 1 v_allowed_c6 v_debt_c6 v_farms_c6 v_isBlanchedNow_c6 v_now_c6 v_paid_c6 v_paidTold_c6 v_pardoned_c6 v_piled_c6 v_shireNow_c6 v_without_c5 v_off_c6 v_pile_c6
abbrev R_pM_moved : Type := Int32
def pM_moved (v_moved : Int32) : Option R_pM_moved :=
  some v_moved
abbrev R_pM_since : Type := Int32 × Int64 × Int64 × Int64 × Int32 × Int32 × Int32 × Int32 × Int64 × Int64 × Int64 × Int32 × Int32 × Int32 × (Nat → Int32) × (Nat → Int32) × (Nat → Int32) × (Nat → Int32) × (Nat → Int64) × (Nat → Int64)
def pM_since_b78 (N : Nat) (a1 : Int32) (a2 : Int32) (v_acts : Int32) (v_grain : Int32) (v_limit : Int32) (v_lost : Int32) (v_movedTerm : Int32) (v_actKind : (Nat → Int32)) (v_actNumber : (Nat → Int32)) (v_actShire : (Nat → Int32)) (v_actTerm : (Nat → Int32)) (v_codes : (Nat → Int32)) (v_cutAt : (Nat → Int32)) (v_cutWorth : (Nat → Int32)) (v_cuts : (Nat → Int32)) (v_first : (Nat → Int32)) (v_isBlanched : (Nat → Int32)) (v_many : (Nat → Int32)) (v_pence : (Nat → Int32)) (v_second : (Nat → Int32)) (v_sort : (Nat → Int32)) (v_sumEnd : (Nat → Int32)) (v_sumFrom : (Nat → Int32)) (v_testEnd : (Nat → Int32)) (v_voidAt : (Nat → Int32)) (self : Int32 → Int32 → Int64 → Int64 → Int64 → Int32 → Int32 → Int32 → Int32 → Int64 → Int64 → Int64 → Int32 → Int32 → Int32 → (Nat → Int64) → (Nat → Int64) → Option R_pM_since) (x3 : Int64) (x5 : Int32) (s0 : Int32) (v_allowed : Int64) (v_debt : Int64) (v_farms : Int64) (v_isBlanchedNow : Int32) (v_knownAt : Int32) (v_movedAct : Int32) (v_now : Int32) (v_paid : Int64) (v_paidTold : Int64) (v_pardoned : Int64) (v_piled : Int32) (v_shireNow : Int32) (v_without : Int32) (v_best : (Nat → Int32)) (v_cost : (Nat → Int32)) (v_fits : (Nat → Int32)) (v_mates : (Nat → Int32)) (v_off : (Nat → Int64)) (v_pile : (Nat → Int64)) : Option R_pM_since :=
  if s0 = 0 then
    self x5 s0 v_allowed v_debt v_farms v_isBlanchedNow v_knownAt v_movedAct v_now v_paid v_paidTold v_pardoned v_piled v_shireNow v_without v_off v_pile
  else
    self (x5 + (-1)) s0 v_allowed v_debt v_farms v_isBlanchedNow v_knownAt v_movedAct v_now v_paid v_paidTold v_pardoned v_piled v_shireNow v_without v_off v_pile
def pM_since_b44_F (N : Nat) (a1 : Int32) (a2 : Int32) (v_acts : Int32) (v_grain : Int32) (v_limit : Int32) (v_lost : Int32) (v_movedTerm : Int32) (v_actKind : (Nat → Int32)) (v_actNumber : (Nat → Int32)) (v_actShire : (Nat → Int32)) (v_actTerm : (Nat → Int32)) (v_codes : (Nat → Int32)) (v_cutAt : (Nat → Int32)) (v_cutWorth : (Nat → Int32)) (v_cuts : (Nat → Int32)) (v_first : (Nat → Int32)) (v_isBlanched : (Nat → Int32)) (v_many : (Nat → Int32)) (v_pence : (Nat → Int32)) (v_second : (Nat → Int32)) (v_sort : (Nat → Int32)) (v_sumEnd : (Nat → Int32)) (v_sumFrom : (Nat → Int32)) (v_testEnd : (Nat → Int32)) (v_voidAt : (Nat → Int32)) (x3 : Int64) (v_best : (Nat → Int32)) (v_cost : (Nat → Int32)) (v_fits : (Nat → Int32)) (v_mates : (Nat → Int32)) (self : Int32 → Int32 → Int64 → Int64 → Int64 → Int32 → Int32 → Int32 → Int32 → Int64 → Int64 → Int64 → Int32 → Int32 → Int32 → (Nat → Int64) → (Nat → Int64) → Option R_pM_since) (x5 : Int32) (x6 : Int32) (v_allowed : Int64) (v_debt : Int64) (v_farms : Int64) (v_isBlanchedNow : Int32) (v_knownAt : Int32) (v_movedAct : Int32) (v_now : Int32) (v_paid : Int64) (v_paidTold : Int64) (v_pardoned : Int64) (v_piled : Int32) (v_shireNow : Int32) (v_without : Int32) (v_off : (Nat → Int64)) (v_pile : (Nat → Int64)) : Option R_pM_since :=
  if x6 = 0 then
    some (x5, v_allowed, v_debt, v_farms, v_isBlanchedNow, v_knownAt, v_movedAct, v_now, v_paid, v_paidTold, v_pardoned, v_piled, v_shireNow, v_without, v_best, v_cost, v_fits, v_mates, v_off, v_pile)
  else
    if x5 ≤ 0 then
      some (x5, v_allowed, v_debt, v_farms, v_isBlanchedNow, v_knownAt, v_movedAct, v_now, v_paid, v_paidTold, v_pardoned, v_piled, v_shireNow, v_without, v_best, v_cost, v_fits, v_mates, v_off, v_pile)
    else
      bd3 (pM_tellsAsKnown (x5 - 1) v_knownAt v_movedAct v_without) fun v_knownAt_c6 v_movedAct_c6 v_without_c6 =>
      bd13 (pM_rolls N a1 a2 v_acts v_allowed v_debt v_farms v_isBlanchedNow v_knownAt_c6 v_movedAct_c6 v_movedTerm v_now v_paid v_paidTold v_pardoned v_piled v_shireNow v_without_c6 v_actKind v_actNumber v_actShire v_actTerm v_codes v_cutWorth v_cuts v_first v_isBlanched v_many v_mates v_off v_pence v_pile v_second v_sort v_sumEnd v_sumFrom v_testEnd v_voidAt) fun rc7 v_allowed_c7 v_debt_c7 v_farms_c7 v_isBlanchedNow_c7 v_now_c7 v_paid_c7 v_paidTold_c7 v_pardoned_c7 v_piled_c7 v_shireNow_c7 v_off_c7 v_pile_c7 =>
      if (lg_cmp rc7 x3) = 0 then
        pM_since_b78 N a1 a2 v_acts v_grain v_limit v_lost v_movedTerm v_actKind v_actNumber v_actShire v_actTerm v_codes v_cutAt v_cutWorth v_cuts v_first v_isBlanched v_many v_pence v_second v_sort v_sumEnd v_sumFrom v_testEnd v_voidAt self x3 x5 1 v_allowed_c7 v_debt_c7 v_farms_c7 v_isBlanchedNow_c7 v_knownAt_c6 v_movedAct_c6 v_now_c7 v_paid_c7 v_paidTold_c7 v_pardoned_c7 v_piled_c7 v_shireNow_c7 v_without_c6 v_best v_cost v_fits v_mates v_off_c7 v_pile_c7
      else
        pM_since_b78 N a1 a2 v_acts v_grain v_limit v_lost v_movedTerm v_actKind v_actNumber v_actShire v_actTerm v_codes v_cutAt v_cutWorth v_cuts v_first v_isBlanched v_many v_pence v_second v_sort v_sumEnd v_sumFrom v_testEnd v_voidAt self x3 x5 0 v_allowed_c7 v_debt_c7 v_farms_c7 v_isBlanchedNow_c7 v_knownAt_c6 v_movedAct_c6 v_now_c7 v_paid_c7 v_paidTold_c7 v_pardoned_c7 v_piled_c7 v_shireNow_c7 v_without_c6 v_best v_cost v_fits v_mates v_off_c7 v_pile_c7
def pM_since_b44 (N : Nat) (a1 : Int32) (a2 : Int32) (v_acts : Int32) (v_grain : Int32) (v_limit : Int32) (v_lost : Int32) (v_movedTerm : Int32) (v_actKind : (Nat → Int32)) (v_actNumber : (Nat → Int32)) (v_actShire : (Nat → Int32)) (v_actTerm : (Nat → Int32)) (v_codes : (Nat → Int32)) (v_cutAt : (Nat → Int32)) (v_cutWorth : (Nat → Int32)) (v_cuts : (Nat → Int32)) (v_first : (Nat → Int32)) (v_isBlanched : (Nat → Int32)) (v_many : (Nat → Int32)) (v_pence : (Nat → Int32)) (v_second : (Nat → Int32)) (v_sort : (Nat → Int32)) (v_sumEnd : (Nat → Int32)) (v_sumFrom : (Nat → Int32)) (v_testEnd : (Nat → Int32)) (v_voidAt : (Nat → Int32)) (x3 : Int64) (v_best : (Nat → Int32)) (v_cost : (Nat → Int32)) (v_fits : (Nat → Int32)) (v_mates : (Nat → Int32)) : Nat → Int32 → Int32 → Int64 → Int64 → Int64 → Int32 → Int32 → Int32 → Int32 → Int64 → Int64 → Int64 → Int32 → Int32 → Int32 → (Nat → Int64) → (Nat → Int64) → Option R_pM_since := zlp17 (pM_since_b44_F N a1 a2 v_acts v_grain v_limit v_lost v_movedTerm v_actKind v_actNumber v_actShire v_actTerm v_codes v_cutAt v_cutWorth v_cuts v_first v_isBlanched v_many v_pence v_second v_sort v_sumEnd v_sumFrom v_testEnd v_voidAt x3 v_best v_cost v_fits v_mates)
def pM_since (N : Nat) (a1 : Int32) (a2 : Int32) (v_acts : Int32) (v_allowed : Int64) (v_debt : Int64) (v_farms : Int64) (v_grain : Int32) (v_isBlanchedNow : Int32) (v_knownAt : Int32) (v_limit : Int32) (v_lost : Int32) (v_movedAct : Int32) (v_movedTerm : Int32) (v_now : Int32) (v_paid : Int64) (v_paidTold : Int64) (v_pardoned : Int64) (v_piled : Int32) (v_shireNow : Int32) (v_without : Int32) (v_actKind : (Nat → Int32)) (v_actNumber : (Nat → Int32)) (v_actShire : (Nat → Int32)) (v_actTerm : (Nat → Int32)) (v_best : (Nat → Int32)) (v_codes : (Nat → Int32)) (v_cost : (Nat → Int32)) (v_cutAt : (Nat → Int32)) (v_cutWorth : (Nat → Int32)) (v_cuts : (Nat → Int32)) (v_first : (Nat → Int32)) (v_fits : (Nat → Int32)) (v_isBlanched : (Nat → Int32)) (v_many : (Nat → Int32)) (v_mates : (Nat → Int32)) (v_off : (Nat → Int64)) (v_pence : (Nat → Int32)) (v_pile : (Nat → Int64)) (v_second : (Nat → Int32)) (v_sort : (Nat → Int32)) (v_sumEnd : (Nat → Int32)) (v_sumFrom : (Nat → Int32)) (v_testEnd : (Nat → Int32)) (v_voidAt : (Nat → Int32)) : Option R_pM_since :=
  bd1 (pM_isShire a1) fun rc1 =>
  if rc1 = 0 then
    some ((-1), v_allowed, v_debt, v_farms, v_isBlanchedNow, v_knownAt, v_movedAct, v_now, v_paid, v_paidTold, v_pardoned, v_piled, v_shireNow, v_without, v_best, v_cost, v_fits, v_mates, v_off, v_pile)
  else
    bd1 (pM_isTerm a2) fun rc2 =>
    if rc2 = 0 then
      some ((-1), v_allowed, v_debt, v_farms, v_isBlanchedNow, v_knownAt, v_movedAct, v_now, v_paid, v_paidTold, v_pardoned, v_piled, v_shireNow, v_without, v_best, v_cost, v_fits, v_mates, v_off, v_pile)
    else
      bd4 (pM_matches N v_grain v_limit v_lost v_best v_cost v_cutAt v_cutWorth v_cuts v_fits v_mates) fun v_best_c3 v_cost_c3 v_fits_c3 v_mates_c3 =>
      bd3 (pM_tellsAsKnown v_acts v_knownAt v_movedAct v_without) fun v_knownAt_c4 v_movedAct_c4 v_without_c4 =>
      bd13 (pM_rolls N a1 a2 v_acts v_allowed v_debt v_farms v_isBlanchedNow v_knownAt_c4 v_movedAct_c4 v_movedTerm v_now v_paid v_paidTold v_pardoned v_piled v_shireNow v_without_c4 v_actKind v_actNumber v_actShire v_actTerm v_codes v_cutWorth v_cuts v_first v_isBlanched v_many v_mates_c3 v_off v_pence v_pile v_second v_sort v_sumEnd v_sumFrom v_testEnd v_voidAt) fun rc5 v_allowed_c5 v_debt_c5 v_farms_c5 v_isBlanchedNow_c5 v_now_c5 v_paid_c5 v_paidTold_c5 v_pardoned_c5 v_piled_c5 v_shireNow_c5 v_off_c5 v_pile_c5 =>
      pM_since_b44 N a1 a2 v_acts v_grain v_limit v_lost v_movedTerm v_actKind v_actNumber v_actShire v_actTerm v_codes v_cutAt v_cutWorth v_cuts v_first v_isBlanched v_many v_pence v_second v_sort v_sumEnd v_sumFrom v_testEnd v_voidAt rc5 v_best_c3 v_cost_c3 v_fits_c3 v_mates_c3 N v_acts 1 v_allowed_c5 v_debt_c5 v_farms_c5 v_isBlanchedNow_c5 v_knownAt_c4 v_movedAct_c4 v_now_c5 v_paid_c5 v_paidTold_c5 v_pardoned_c5 v_piled_c5 v_shireNow_c5 v_without_c4 v_off_c5 v_pile_c5
abbrev R_pM_all : Type := Int32
def pM_all_b44_F (N : Nat) (a1 : Int32) (v_acts : Int32) (v_as : Int32) (v_cuts : (Nat → Int32)) (self : Int32 → Int32 → Option R_pM_all) (x2 : Int32) (x3 : Int32) : Option R_pM_all :=
  if 10 ≤ x3 then
    some x2
  else
    bd1 (pM_isThere x3 v_cuts) fun rc2 =>
    if rc2 = 0 then
      self x2 (x3 + 1)
    else
      self (x2 + 1) (x3 + 1)
def pM_all_b44 (N : Nat) (a1 : Int32) (v_acts : Int32) (v_as : Int32) (v_cuts : (Nat → Int32)) : Nat → Int32 → Int32 → Option R_pM_all := zlp2 (pM_all_b44_F N a1 v_acts v_as v_cuts)
def pM_all_b71_F (N : Nat) (a1 : Int32) (v_acts : Int32) (v_as : Int32) (v_cuts : (Nat → Int32)) (self : Int32 → Int32 → Option R_pM_all) (x2 : Int32) (x3 : Int32) : Option R_pM_all :=
  if 10 ≤ x3 then
    some x2
  else
    bd1 (pM_isThere (10 + x3) v_cuts) fun rc3 =>
    if rc3 = 0 then
      self x2 (x3 + 1)
    else
      self (x2 + 1) (x3 + 1)
def pM_all_b71 (N : Nat) (a1 : Int32) (v_acts : Int32) (v_as : Int32) (v_cuts : (Nat → Int32)) : Nat → Int32 → Int32 → Option R_pM_all := zlp2 (pM_all_b71_F N a1 v_acts v_as v_cuts)
def pM_all (N : Nat) (a1 : Int32) (v_acts : Int32) (v_as : Int32) (v_cuts : (Nat → Int32)) : Option R_pM_all :=
  if a1 = 0 then
    some v_acts
  else if a1 = 1 then
    bd1 (pM_asNow v_acts v_as) fun rc1 =>
    some rc1
  else if a1 = 2 then
    pM_all_b44 N a1 v_acts v_as v_cuts N 0 0
  else if a1 = 3 then
    pM_all_b71 N a1 v_acts v_as v_cuts N 0 0
  else
    some (-1)
