set_option maxHeartbeats 4000000
set_option maxRecDepth 100000
def iJMath_floorDiv (a0 : Int) (a1 : Int) : Option Int :=
  gd (jn a1) <|
  if 0 ≤ jxo a0 a1 then
    gd (jr ((a0).tdiv a1)) <|
    some ((a0).tdiv a1)
  else
    gd (jr ((a0).tdiv a1)) <|
    gd (jr (((a0).tdiv a1) * a1)) <|
    if ((a0).tdiv a1) * a1 = a0 then
      some ((a0).tdiv a1)
    else
      gd (jr (((a0).tdiv a1) - 1)) <|
      some (((a0).tdiv a1) - 1)
def iK_isStick (a0 : Int) : Option Int :=
  if a0 < 0 then
    some 0
  else
    if 10 ≤ a0 then
      some 0
    else
      some 1
def iK_half (a0 : Int) (a1 : Int) : Option Int :=
  if a0 = 0 then
    some a1
  else
    gd (jr (10 + a1)) <|
    some (10 + a1)
def iK_isTerm (a0 : Int) : Option Int :=
  if a0 < 0 then
    some 0
  else
    if 40 ≤ a0 then
      some 0
    else
      some 1
def iK_isShire (a0 : Int) : Option Int :=
  if a0 < 0 then
    some 0
  else
    if 8 ≤ a0 then
      some 0
    else
      some 1
def iJMath_floorDivL (a0 : Int) (a2 : Int) : Option Int :=
  gd (jn a2) <|
  if 0 ≤ jxor a0 a2 then
    gd (jR ((a0).tdiv a2)) <|
    some ((a0).tdiv a2)
  else
    gd (jR ((a0).tdiv a2)) <|
    gd (jR (((a0).tdiv a2) * a2)) <|
    if ((a0).tdiv a2) * a2 = a0 then
      some ((a0).tdiv a2)
    else
      gd (jR (((a0).tdiv a2) - 1)) <|
      some (((a0).tdiv a2) - 1)
def iCounters_isPlace (a0 : Int) : Option Int :=
  if a0 < 0 then
    some 0
  else
    if 13 ≤ a0 then
      some 0
    else
      some 1
abbrev R_iCounters_set : Type := Int × (Nat → Int)
def iCounters_set (a1 : Int) (a2 : Int) (v_lying : (Nat → Int)) : Option R_iCounters_set :=
  bd1 (iCounters_isPlace a1) fun rc1 =>
  if rc1 = 0 then
    some (0, v_lying)
  else
    if a2 < 0 then
      some (0, v_lying)
    else
      if a2 ≤ 99 then
        gd (jb a1 13) <|
        some (1, va_up v_lying a1.toNat a2)
      else
        some (0, v_lying)
def iCounters_countAt (a1 : Int) (v_lying : (Nat → Int)) : Option Int :=
  bd1 (iCounters_isPlace a1) fun rc1 =>
  if rc1 = 0 then
    some (-1)
  else
    gd (jb a1 13) <|
    some (v_lying a1.toNat)
def iCounters_total_b4_F (N : Nat) (v_lying : (Nat → Int)) (self : Int → Int → Option Int) (x1 : Int) (x3 : Int) : Option Int :=
  if 13 ≤ x3 then
    some x1
  else
    gd (jb x3 13) <|
    gd (jR ((v_lying x3.toNat) * (jc0.getD x3.toNat 0))) <|
    gd (jR (x1 + ((v_lying x3.toNat) * (jc0.getD x3.toNat 0)))) <|
    gd (jr (x3 + 1)) <|
    self (x1 + ((v_lying x3.toNat) * (jc0.getD x3.toNat 0))) (x3 + 1)
def iCounters_total_b4 (N : Nat) (v_lying : (Nat → Int)) : Nat → Int → Int → Option Int := zlp2 (iCounters_total_b4_F N v_lying)
def iCounters_total (N : Nat) (v_lying : (Nat → Int)) : Option Int :=
  iCounters_total_b4 N v_lying N 0 0
abbrev R_iCounters_tellPlain : Type := Int × (Nat → Int)
def iCounters_tellPlain_b17_F (N : Nat) (a1 : Int) (self : Int → Int → (Nat → Int) → Option R_iCounters_tellPlain) (x2 : Int) (x3 : Int) (v_due : (Nat → Int)) : Option R_iCounters_tellPlain :=
  if x3 < 0 then
    some (1, v_due)
  else
    gd (jb x3 13) <|
    gd (jn (jc0.getD x3.toNat 0)) <|
    gd (jr ((x2).tdiv (jc0.getD x3.toNat 0))) <|
    if (va_up v_due x3.toNat ((x2).tdiv (jc0.getD x3.toNat 0))) x3.toNat ≤ 99 then
      gd (jr (x3 + (-1))) <|
      self ((x2).tmod (jc0.getD x3.toNat 0)) (x3 + (-1)) (va_up v_due x3.toNat ((x2).tdiv (jc0.getD x3.toNat 0)))
    else
      some (0, va_up v_due x3.toNat ((x2).tdiv (jc0.getD x3.toNat 0)))
def iCounters_tellPlain_b17 (N : Nat) (a1 : Int) : Nat → Int → Int → (Nat → Int) → Option R_iCounters_tellPlain := zlp3 (iCounters_tellPlain_b17_F N a1)
def iCounters_tellPlain (N : Nat) (a1 : Int) (v_due : (Nat → Int)) : Option R_iCounters_tellPlain :=
  if a1 < 0 then
    some (0, v_due)
  else
    if a1 ≤ 1000000000 then
      iCounters_tellPlain_b17 N a1 N a1 12 v_due
    else
      some (0, v_due)
abbrev R_iCounters_plainAt : Type := Int × (Nat → Int)
def iCounters_plainAt (N : Nat) (a1 : Int) (a2 : Int) (v_due : (Nat → Int)) : Option R_iCounters_plainAt :=
  bd1 (iCounters_isPlace a2) fun rc1 =>
  if rc1 = 0 then
    some ((-1), v_due)
  else
    bd2 (iCounters_tellPlain N a1 v_due) fun rc2 v_due_c2 =>
    if rc2 = 0 then
      some ((-1), v_due_c2)
    else
      gd (jb a2 13) <|
      some (v_due_c2 a2.toNat, v_due_c2)
abbrev R_iCounters_changeUpward : Type := Int × (Nat → Int)
def iCounters_changeUpward_b4_F (N : Nat) (self : Int → Int → (Nat → Int) → Option R_iCounters_changeUpward) (x1 : Int) (x2 : Int) (v_trial : (Nat → Int)) : Option R_iCounters_changeUpward :=
  if 12 ≤ x2 then
    some (x1, v_trial)
  else
    gd (jb x2 13) <|
    gd (jb x2 12) <|
    gd (jn (jc1.getD x2.toNat 0)) <|
    gd (jr (x2 + 1)) <|
    gd (jb (x2 + 1) 13) <|
    gd (jr ((v_trial x2.toNat).tdiv (jc1.getD x2.toNat 0))) <|
    gd (jr (((va_up v_trial x2.toNat ((v_trial x2.toNat).tmod (jc1.getD x2.toNat 0))) ((x2 + 1).toNat)) + ((v_trial x2.toNat).tdiv (jc1.getD x2.toNat 0)))) <|
    if (va_up (va_up v_trial x2.toNat ((v_trial x2.toNat).tmod (jc1.getD x2.toNat 0))) ((x2 + 1).toNat) (((va_up v_trial x2.toNat ((v_trial x2.toNat).tmod (jc1.getD x2.toNat 0))) ((x2 + 1).toNat)) + ((v_trial x2.toNat).tdiv (jc1.getD x2.toNat 0)))) ((x2 + 1).toNat) ≤ 99 then
      gd (jr (x1 + ((v_trial x2.toNat).tdiv (jc1.getD x2.toNat 0)))) <|
      self (x1 + ((v_trial x2.toNat).tdiv (jc1.getD x2.toNat 0))) (x2 + 1) (va_up (va_up v_trial x2.toNat ((v_trial x2.toNat).tmod (jc1.getD x2.toNat 0))) ((x2 + 1).toNat) (((va_up v_trial x2.toNat ((v_trial x2.toNat).tmod (jc1.getD x2.toNat 0))) ((x2 + 1).toNat)) + ((v_trial x2.toNat).tdiv (jc1.getD x2.toNat 0))))
    else
      some ((-1), va_up (va_up v_trial x2.toNat ((v_trial x2.toNat).tmod (jc1.getD x2.toNat 0))) ((x2 + 1).toNat) (((va_up v_trial x2.toNat ((v_trial x2.toNat).tmod (jc1.getD x2.toNat 0))) ((x2 + 1).toNat)) + ((v_trial x2.toNat).tdiv (jc1.getD x2.toNat 0))))
def iCounters_changeUpward_b4 (N : Nat) : Nat → Int → Int → (Nat → Int) → Option R_iCounters_changeUpward := zlp3 (iCounters_changeUpward_b4_F N)
def iCounters_changeUpward (N : Nat) (v_trial : (Nat → Int)) : Option R_iCounters_changeUpward :=
  iCounters_changeUpward_b4 N N 0 0 v_trial
abbrev R_iCounters_add : Type := Int × (Nat → Int) × (Nat → Int) × (Nat → Int)
def iCounters_add_b12_F (N : Nat) (a1 : Int) (v_due : (Nat → Int)) (v_lying : (Nat → Int)) (k56 : (Nat → Int) → Option R_iCounters_add) (self : Int → (Nat → Int) → Option R_iCounters_add) (x2 : Int) (v_trial : (Nat → Int)) : Option R_iCounters_add :=
  if 13 ≤ x2 then
    k56 v_trial
  else
    gd (jb x2 13) <|
    gd (jr ((v_lying x2.toNat) + (v_due x2.toNat))) <|
    if (va_up v_trial x2.toNat ((v_lying x2.toNat) + (v_due x2.toNat))) x2.toNat ≤ 99 then
      gd (jr (x2 + 1)) <|
      self (x2 + 1) (va_up v_trial x2.toNat ((v_lying x2.toNat) + (v_due x2.toNat)))
    else
      some ((-1), v_due, v_lying, va_up v_trial x2.toNat ((v_lying x2.toNat) + (v_due x2.toNat)))
def iCounters_add_b12 (N : Nat) (a1 : Int) (v_due : (Nat → Int)) (v_lying : (Nat → Int)) (k56 : (Nat → Int) → Option R_iCounters_add) : Nat → Int → (Nat → Int) → Option R_iCounters_add := zlp2 (iCounters_add_b12_F N a1 v_due v_lying k56)
def iCounters_add_b56 (N : Nat) (a1 : Int) (v_due : (Nat → Int)) (v_lying : (Nat → Int)) (v_trial : (Nat → Int)) : Option R_iCounters_add :=
  bd2 (iCounters_changeUpward N v_trial) fun rc3 v_trial_c3 =>
  if rc3 = (-1) then
    some (rc3, v_due, v_lying, v_trial_c3)
  else
    some (rc3, v_due, va_cpy v_trial_c3 v_lying 0 0 13, v_trial_c3)
def iCounters_add (N : Nat) (a1 : Int) (v_due : (Nat → Int)) (v_lying : (Nat → Int)) (v_trial : (Nat → Int)) : Option R_iCounters_add :=
  bd2 (iCounters_tellPlain N a1 v_due) fun rc1 v_due_c1 =>
  if rc1 = 0 then
    some ((-1), v_due_c1, v_lying, v_trial)
  else
    iCounters_add_b12 N a1 v_due_c1 v_lying (fun e4_ => iCounters_add_b56 N a1 v_due_c1 v_lying e4_) N 0 v_trial
abbrev R_iCounters_breakInto : Type := Int × (Nat → Int)
def iCounters_breakInto_b4_F (N : Nat) (a1 : Int) (v_trial : (Nat → Int)) (k25 : Int → Option R_iCounters_breakInto) (self : Int → Option R_iCounters_breakInto) (x2 : Int) : Option R_iCounters_breakInto :=
  if 13 ≤ x2 then
    k25 x2
  else
    gd (jb x2 13) <|
    if v_trial x2.toNat = 0 then
      gd (jr (x2 + 1)) <|
      self (x2 + 1)
    else
      k25 x2
def iCounters_breakInto_b4 (N : Nat) (a1 : Int) (v_trial : (Nat → Int)) (k25 : Int → Option R_iCounters_breakInto) : Nat → Int → Option R_iCounters_breakInto := zlp1 (iCounters_breakInto_b4_F N a1 v_trial k25)
def iCounters_breakInto_b35_F (N : Nat) (a1 : Int) (x2 : Int) (self : Int → (Nat → Int) → Option R_iCounters_breakInto) (x3 : Int) (v_trial : (Nat → Int)) : Option R_iCounters_breakInto :=
  if x3 ≤ a1 then
    gd (jr (x2 - a1)) <|
    some (x2 - a1, v_trial)
  else
    gd (jb x3 13) <|
    gd (jr (x3 - 1)) <|
    gd (jb (x3 - 1) 13) <|
    gd (jb (x3 - 1) 12) <|
    gd (jr (x3 + (-1))) <|
    gd (jr ((v_trial x3.toNat) - 1)) <|
    gd (jr (((va_up v_trial x3.toNat ((v_trial x3.toNat) - 1)) ((x3 - 1).toNat)) + (jc1.getD ((x3 - 1).toNat) 0))) <|
    self (x3 + (-1)) (va_up (va_up v_trial x3.toNat ((v_trial x3.toNat) - 1)) ((x3 - 1).toNat) (((va_up v_trial x3.toNat ((v_trial x3.toNat) - 1)) ((x3 - 1).toNat)) + (jc1.getD ((x3 - 1).toNat) 0)))
def iCounters_breakInto_b35 (N : Nat) (a1 : Int) (x2 : Int) : Nat → Int → (Nat → Int) → Option R_iCounters_breakInto := zlp2 (iCounters_breakInto_b35_F N a1 x2)
def iCounters_breakInto_b25 (N : Nat) (a1 : Int) (x2 : Int) (v_trial : (Nat → Int)) : Option R_iCounters_breakInto :=
  if x2 < 13 then
    iCounters_breakInto_b35 N a1 x2 N x2 v_trial
  else
    some (0, v_trial)
def iCounters_breakInto (N : Nat) (a1 : Int) (v_trial : (Nat → Int)) : Option R_iCounters_breakInto :=
  gd (jr (a1 + 1)) <|
  iCounters_breakInto_b4 N a1 v_trial (fun x2_k1 => iCounters_breakInto_b25 N a1 x2_k1 v_trial) N (a1 + 1)
abbrev R_iCounters_take : Type := Int × (Nat → Int) × (Nat → Int) × (Nat → Int)
def iCounters_take_b38_F (N : Nat) (a1 : Int) (x3 : Int) (v_due : (Nat → Int)) (v_lying : (Nat → Int)) (k74 : Int → (Nat → Int) → Option R_iCounters_take) (self : Int → Int → (Nat → Int) → Option R_iCounters_take) (x2 : Int) (x4 : Int) (v_trial : (Nat → Int)) : Option R_iCounters_take :=
  if 99 ≤ x4 then
    k74 x2 v_trial
  else
    gd (jb x3 13) <|
    if v_due x3.toNat ≤ v_trial x3.toNat then
      k74 x2 v_trial
    else
      bd2 (iCounters_breakInto N x3 v_trial) fun rc3 v_trial_c3 =>
      gd (jr (x2 + rc3)) <|
      gd (jr (x4 + 1)) <|
      self (x2 + rc3) (x4 + 1) v_trial_c3
def iCounters_take_b38 (N : Nat) (a1 : Int) (x3 : Int) (v_due : (Nat → Int)) (v_lying : (Nat → Int)) (k74 : Int → (Nat → Int) → Option R_iCounters_take) : Nat → Int → Int → (Nat → Int) → Option R_iCounters_take := zlp3 (iCounters_take_b38_F N a1 x3 v_due v_lying k74)
def iCounters_take_b74 (N : Nat) (a1 : Int) (self : Int → Int → (Nat → Int) → Option R_iCounters_take) (k112 : Int → (Nat → Int) → Option R_iCounters_take) (x2 : Int) (x3 : Int) (v_due : (Nat → Int)) (v_lying : (Nat → Int)) (v_trial : (Nat → Int)) : Option R_iCounters_take :=
  gd (jb x3 13) <|
  if v_due x3.toNat ≤ v_trial x3.toNat then
    gd (jr (x3 + 1)) <|
    gd (jr ((v_trial x3.toNat) - (v_due x3.toNat))) <|
    self x2 (x3 + 1) (va_up v_trial x3.toNat ((v_trial x3.toNat) - (v_due x3.toNat)))
  else
    some ((-1), v_due, v_lying, v_trial)
def iCounters_take_b29_F (N : Nat) (a1 : Int) (v_due : (Nat → Int)) (v_lying : (Nat → Int)) (k112 : Int → (Nat → Int) → Option R_iCounters_take) (self : Int → Int → (Nat → Int) → Option R_iCounters_take) (x2 : Int) (x3 : Int) (v_trial : (Nat → Int)) : Option R_iCounters_take :=
  if 13 ≤ x3 then
    k112 x2 v_trial
  else
    iCounters_take_b38 N a1 x3 v_due v_lying (fun x2_k1 e8_ => iCounters_take_b74 N a1 self k112 x2_k1 x3 v_due v_lying e8_) N x2 0 v_trial
def iCounters_take_b29 (N : Nat) (a1 : Int) (v_due : (Nat → Int)) (v_lying : (Nat → Int)) (k112 : Int → (Nat → Int) → Option R_iCounters_take) : Nat → Int → Int → (Nat → Int) → Option R_iCounters_take := zlp3 (iCounters_take_b29_F N a1 v_due v_lying k112)
def iCounters_take_b112 (N : Nat) (a1 : Int) (x2 : Int) (v_due : (Nat → Int)) (v_lying : (Nat → Int)) (v_trial : (Nat → Int)) : Option R_iCounters_take :=
  some (x2, v_due, va_cpy v_trial v_lying 0 0 13, v_trial)
def iCounters_take (N : Nat) (a1 : Int) (v_due : (Nat → Int)) (v_lying : (Nat → Int)) (v_trial : (Nat → Int)) : Option R_iCounters_take :=
  bd2 (iCounters_tellPlain N a1 v_due) fun rc1 v_due_c1 =>
  if rc1 = 0 then
    some ((-1), v_due_c1, v_lying, v_trial)
  else
    iCounters_take_b29 N a1 v_due_c1 v_lying (fun x2_k3 e5_ => iCounters_take_b112 N a1 x2_k3 v_due_c1 v_lying e5_) N 0 0 (va_cpy v_lying v_trial 0 0 13)
def iCounters_cheaper (a0 : Int) (a1 : Int) (a2 : Int) (a3 : Int) : Option Int :=
  gd (jr (jabs a1)) <|
  gd (jr (a0 + (jabs a1))) <|
  gd (jr (jabs a3)) <|
  gd (jr (a2 + (jabs a3))) <|
  some (jmin (a0 + (jabs a1)) (a2 + (jabs a3)))
abbrev R_iCounters_fewestSteps : Type := Int × (Nat → Int)
def iCounters_fewestSteps_b21_F (N : Nat) (a1 : Int) (v_lying : (Nat → Int)) (v_due : (Nat → Int)) (k141 : Int → Int → Int → Option R_iCounters_fewestSteps) (self : Int → Int → Int → Int → Option R_iCounters_fewestSteps) (x2 : Int) (x3 : Int) (x4 : Int) (x5 : Int) : Option R_iCounters_fewestSteps :=
  if 12 ≤ x5 then
    k141 x2 x3 x4
  else
    gd (jb x5 13) <|
    gd (jb x5 12) <|
    gd (jr ((v_due x5.toNat) - (v_lying x5.toNat))) <|
    gd (jr (x2 - ((v_due x5.toNat) - (v_lying x5.toNat)))) <|
    bd1 (iJMath_floorDiv (x2 - ((v_due x5.toNat) - (v_lying x5.toNat))) (jc1.getD x5.toNat 0)) fun rc4 =>
    gd (jr ((jc1.getD x5.toNat 0) * rc4)) <|
    gd (jr (((v_due x5.toNat) - (v_lying x5.toNat)) + ((jc1.getD x5.toNat 0) * rc4))) <|
    gd (jr ((((v_due x5.toNat) - (v_lying x5.toNat)) + ((jc1.getD x5.toNat 0) * rc4)) - x2)) <|
    gd (jr (((((v_due x5.toNat) - (v_lying x5.toNat)) + ((jc1.getD x5.toNat 0) * rc4)) - x2) - 1)) <|
    bd1 (iCounters_cheaper x3 ((((v_due x5.toNat) - (v_lying x5.toNat)) + ((jc1.getD x5.toNat 0) * rc4)) - x2) x4 (((((v_due x5.toNat) - (v_lying x5.toNat)) + ((jc1.getD x5.toNat 0) * rc4)) - x2) - 1)) fun rc5 =>
    gd (jr (((((v_due x5.toNat) - (v_lying x5.toNat)) + ((jc1.getD x5.toNat 0) * rc4)) - x2) + (jc1.getD x5.toNat 0))) <|
    gd (jr ((((((v_due x5.toNat) - (v_lying x5.toNat)) + ((jc1.getD x5.toNat 0) * rc4)) - x2) + (jc1.getD x5.toNat 0)) - 1)) <|
    bd1 (iCounters_cheaper x3 (((((v_due x5.toNat) - (v_lying x5.toNat)) + ((jc1.getD x5.toNat 0) * rc4)) - x2) + (jc1.getD x5.toNat 0)) x4 ((((((v_due x5.toNat) - (v_lying x5.toNat)) + ((jc1.getD x5.toNat 0) * rc4)) - x2) + (jc1.getD x5.toNat 0)) - 1)) fun rc6 =>
    gd (jr (jabs rc4)) <|
    gd (jr (rc5 + (jabs rc4))) <|
    gd (jr (rc4 + 1)) <|
    gd (jr (jabs (rc4 + 1))) <|
    gd (jr (rc6 + (jabs (rc4 + 1)))) <|
    gd (jr (x5 + 1)) <|
    self rc4 (rc5 + (jabs rc4)) (rc6 + (jabs (rc4 + 1))) (x5 + 1)
def iCounters_fewestSteps_b21 (N : Nat) (a1 : Int) (v_lying : (Nat → Int)) (v_due : (Nat → Int)) (k141 : Int → Int → Int → Option R_iCounters_fewestSteps) : Nat → Int → Int → Int → Int → Option R_iCounters_fewestSteps := zlp4 (iCounters_fewestSteps_b21_F N a1 v_lying v_due k141)
def iCounters_fewestSteps_b141 (N : Nat) (a1 : Int) (v_lying : (Nat → Int)) (x2 : Int) (x3 : Int) (x4 : Int) (v_due : (Nat → Int)) : Option R_iCounters_fewestSteps :=
  gd (jr ((v_due 12) - (v_lying 12))) <|
  gd (jr (((v_due 12) - (v_lying 12)) - x2)) <|
  gd (jr ((((v_due 12) - (v_lying 12)) - x2) - 1)) <|
  bd1 (iCounters_cheaper x3 (((v_due 12) - (v_lying 12)) - x2) x4 ((((v_due 12) - (v_lying 12)) - x2) - 1)) fun rc7 =>
  some (rc7, v_due)
def iCounters_fewestSteps (N : Nat) (a1 : Int) (v_due : (Nat → Int)) (v_lying : (Nat → Int)) : Option R_iCounters_fewestSteps :=
  bd2 (iCounters_tellPlain N a1 v_due) fun rc1 v_due_c1 =>
  if rc1 = 0 then
    some ((-1), v_due_c1)
  else
    iCounters_fewestSteps_b21 N a1 v_lying v_due_c1 (fun x2_k1 x3_k2 x4_k3 => iCounters_fewestSteps_b141 N a1 v_lying x2_k1 x3_k2 x4_k3 v_due_c1) N 0 0 1000000000 0
abbrev R_iMatcher_begin : Type := (Nat → Int) × (Nat → Nat → Int) × (Nat → Int) × (Nat → Int)
def iMatcher_begin_b2_F (N : Nat) (v_columnPrices : (Nat → Int)) (v_rowOf : (Nat → Int)) (v_rowPrices : (Nat → Int)) (k24 : (Nat → Nat → Int) → Option R_iMatcher_begin) (self : Int → (Nat → Nat → Int) → Option R_iMatcher_begin) (x1 : Int) (v_costs : (Nat → Nat → Int)) : Option R_iMatcher_begin :=
  if 10 < x1 then
    k24 v_costs
  else
    gd (jb x1 11) <|
    gd (jr (x1 + 1)) <|
    self (x1 + 1) (va_up v_costs x1.toNat (fun _ => 0))
def iMatcher_begin_b2 (N : Nat) (v_columnPrices : (Nat → Int)) (v_rowOf : (Nat → Int)) (v_rowPrices : (Nat → Int)) (k24 : (Nat → Nat → Int) → Option R_iMatcher_begin) : Nat → Int → (Nat → Nat → Int) → Option R_iMatcher_begin := zlp2 (iMatcher_begin_b2_F N v_columnPrices v_rowOf v_rowPrices k24)
def iMatcher_begin_b24 (N : Nat) (v_columnPrices : (Nat → Int)) (v_costs : (Nat → Nat → Int)) (v_rowOf : (Nat → Int)) (v_rowPrices : (Nat → Int)) : Option R_iMatcher_begin :=
  some ((fun _ => 0), v_costs, (fun _ => 0), (fun _ => 0))
def iMatcher_begin (N : Nat) (v_columnPrices : (Nat → Int)) (v_costs : (Nat → Nat → Int)) (v_rowOf : (Nat → Int)) (v_rowPrices : (Nat → Int)) : Option R_iMatcher_begin :=
  iMatcher_begin_b2 N v_columnPrices v_rowOf v_rowPrices (fun v_costs_k1 => iMatcher_begin_b24 N v_columnPrices v_costs_k1 v_rowOf v_rowPrices) N 0 v_costs
def iMatcher_allow_b27_F (N : Nat) (a1 : Int) (a2 : Int) (a3 : Int) (v_costs : (Nat → Nat → Int)) (self : Int → Int → Option (Nat → Nat → Int)) (x4 : Int) (x6 : Int) : Option (Nat → Nat → Int) :=
  if 10 ≤ x6 then
    gd (jr (a1 + 1)) <|
    gd (jb (a1 + 1) 11) <|
    gd (jr (a2 + 1)) <|
    gd (jb (a2 + 1) 21) <|
    gd (jR (a3 * 25937424601)) <|
    gd (jR ((a3 * 25937424601) - 129738997854202)) <|
    gd (jR (((a3 * 25937424601) - 129738997854202) + x4)) <|
    some (va_up v_costs ((a1 + 1).toNat) (va_up (v_costs ((a1 + 1).toNat)) ((a2 + 1).toNat) (((a3 * 25937424601) - 129738997854202) + x4)))
  else
    gd (jR (x4 * 11)) <|
    gd (jr (x6 + 1)) <|
    self (x4 * 11) (x6 + 1)
def iMatcher_allow_b27 (N : Nat) (a1 : Int) (a2 : Int) (a3 : Int) (v_costs : (Nat → Nat → Int)) : Nat → Int → Int → Option (Nat → Nat → Int) := zlp2 (iMatcher_allow_b27_F N a1 a2 a3 v_costs)
def iMatcher_allow (N : Nat) (a1 : Int) (a2 : Int) (a3 : Int) (v_costs : (Nat → Nat → Int)) : Option (Nat → Nat → Int) :=
  bd1 (iK_isStick a1) fun rc1 =>
  if rc1 = 0 then
    some v_costs
  else
    bd1 (iK_isStick a2) fun rc2 =>
    if rc2 = 0 then
      some v_costs
    else
      gd (jr (a2 - 10)) <|
      gd (jr (a1 + 1)) <|
      iMatcher_allow_b27 N a1 a2 a3 v_costs N (a2 - 10) (a1 + 1)
abbrev R_iMatcher_lookFrom : Type := Int × (Nat → Int) × (Nat → Int)
def iMatcher_lookFrom_b90 (N : Nat) (a1 : Int) (v_columnPrices : (Nat → Int)) (v_costs : (Nat → Nat → Int)) (v_isReached : (Nat → Int)) (v_rowOf : (Nat → Int)) (v_rowPrices : (Nat → Int)) (self : Int → Int → Int → (Nat → Int) → (Nat → Int) → Option R_iMatcher_lookFrom) (x2 : Int) (x3 : Int) (x4 : Int) (x6 : Int) (v_cameFrom : (Nat → Int)) (v_gaps : (Nat → Int)) : Option R_iMatcher_lookFrom :=
  gd (jb x6 21) <|
  if x4 ≤ v_gaps x6.toNat then
    gd (jr (x6 + 1)) <|
    self x3 x4 (x6 + 1) v_cameFrom v_gaps
  else
    gd (jr (x6 + 1)) <|
    self x6 (v_gaps x6.toNat) (x6 + 1) v_cameFrom v_gaps
def iMatcher_lookFrom_b17_F (N : Nat) (a1 : Int) (v_columnPrices : (Nat → Int)) (v_costs : (Nat → Nat → Int)) (v_isReached : (Nat → Int)) (v_rowOf : (Nat → Int)) (v_rowPrices : (Nat → Int)) (x2 : Int) (self : Int → Int → Int → (Nat → Int) → (Nat → Int) → Option R_iMatcher_lookFrom) (x3 : Int) (x4 : Int) (x6 : Int) (v_cameFrom : (Nat → Int)) (v_gaps : (Nat → Int)) : Option R_iMatcher_lookFrom :=
  if 20 < x6 then
    some (x3, v_cameFrom, v_gaps)
  else
    gd (jb x6 21) <|
    if v_isReached x6.toNat = 0 then
      gd (jb x2 11) <|
      gd (jR ((v_costs x2.toNat x6.toNat) - (v_rowPrices x2.toNat))) <|
      gd (jR (((v_costs x2.toNat x6.toNat) - (v_rowPrices x2.toNat)) - (v_columnPrices x6.toNat))) <|
      if v_gaps x6.toNat ≤ ((v_costs x2.toNat x6.toNat) - (v_rowPrices x2.toNat)) - (v_columnPrices x6.toNat) then
        iMatcher_lookFrom_b90 N a1 v_columnPrices v_costs v_isReached v_rowOf v_rowPrices self x2 x3 x4 x6 v_cameFrom v_gaps
      else
        iMatcher_lookFrom_b90 N a1 v_columnPrices v_costs v_isReached v_rowOf v_rowPrices self x2 x3 x4 x6 (va_up v_cameFrom x6.toNat a1) (va_up v_gaps x6.toNat (((v_costs x2.toNat x6.toNat) - (v_rowPrices x2.toNat)) - (v_columnPrices x6.toNat)))
    else
      gd (jr (x6 + 1)) <|
      self x3 x4 (x6 + 1) v_cameFrom v_gaps
def iMatcher_lookFrom_b17 (N : Nat) (a1 : Int) (v_columnPrices : (Nat → Int)) (v_costs : (Nat → Nat → Int)) (v_isReached : (Nat → Int)) (v_rowOf : (Nat → Int)) (v_rowPrices : (Nat → Int)) (x2 : Int) : Nat → Int → Int → Int → (Nat → Int) → (Nat → Int) → Option R_iMatcher_lookFrom := zlp5 (iMatcher_lookFrom_b17_F N a1 v_columnPrices v_costs v_isReached v_rowOf v_rowPrices x2)
def iMatcher_lookFrom (N : Nat) (a1 : Int) (v_cameFrom : (Nat → Int)) (v_columnPrices : (Nat → Int)) (v_costs : (Nat → Nat → Int)) (v_gaps : (Nat → Int)) (v_isReached : (Nat → Int)) (v_rowOf : (Nat → Int)) (v_rowPrices : (Nat → Int)) : Option R_iMatcher_lookFrom :=
  gd (jb a1 21) <|
  iMatcher_lookFrom_b17 N a1 v_columnPrices v_costs v_isReached v_rowOf v_rowPrices (v_rowOf a1.toNat) N 0 1152921504606846976 1 v_cameFrom v_gaps
abbrev R_iMatcher_shiftPrices : Type := (Nat → Int) × (Nat → Int) × (Nat → Int)
def iMatcher_shiftPrices_b2_F (N : Nat) (a1 : Int) (v_isReached : (Nat → Int)) (v_rowOf : (Nat → Int)) (self : Int → (Nat → Int) → (Nat → Int) → (Nat → Int) → Option R_iMatcher_shiftPrices) (x3 : Int) (v_columnPrices : (Nat → Int)) (v_gaps : (Nat → Int)) (v_rowPrices : (Nat → Int)) : Option R_iMatcher_shiftPrices :=
  if 20 < x3 then
    some (v_columnPrices, v_gaps, v_rowPrices)
  else
    gd (jb x3 21) <|
    if v_isReached x3.toNat = 0 then
      gd (jr (x3 + 1)) <|
      gd (jR ((v_gaps x3.toNat) - a1)) <|
      self (x3 + 1) v_columnPrices (va_up v_gaps x3.toNat ((v_gaps x3.toNat) - a1)) v_rowPrices
    else
      gd (jb (v_rowOf x3.toNat) 11) <|
      gd (jr (x3 + 1)) <|
      gd (jR ((v_columnPrices x3.toNat) - a1)) <|
      gd (jR ((v_rowPrices ((v_rowOf x3.toNat).toNat)) + a1)) <|
      self (x3 + 1) (va_up v_columnPrices x3.toNat ((v_columnPrices x3.toNat) - a1)) v_gaps (va_up v_rowPrices ((v_rowOf x3.toNat).toNat) ((v_rowPrices ((v_rowOf x3.toNat).toNat)) + a1))
def iMatcher_shiftPrices_b2 (N : Nat) (a1 : Int) (v_isReached : (Nat → Int)) (v_rowOf : (Nat → Int)) : Nat → Int → (Nat → Int) → (Nat → Int) → (Nat → Int) → Option R_iMatcher_shiftPrices := zlp4 (iMatcher_shiftPrices_b2_F N a1 v_isReached v_rowOf)
def iMatcher_shiftPrices (N : Nat) (a1 : Int) (v_columnPrices : (Nat → Int)) (v_gaps : (Nat → Int)) (v_isReached : (Nat → Int)) (v_rowOf : (Nat → Int)) (v_rowPrices : (Nat → Int)) : Option R_iMatcher_shiftPrices :=
  iMatcher_shiftPrices_b2 N a1 v_isReached v_rowOf N 0 v_columnPrices v_gaps v_rowPrices
abbrev R_iMatcher_freeColumnFor : Type := Int × (Nat → Int) × (Nat → Int) × (Nat → Int) × (Nat → Int) × (Nat → Int) × (Nat → Int)
def iMatcher_freeColumnFor_b12_F (N : Nat) (a1 : Int) (v_costs : (Nat → Nat → Int)) (v_cameFrom : (Nat → Int)) (v_columnPrices : (Nat → Int)) (v_gaps : (Nat → Int)) (v_rowOf : (Nat → Int)) (v_rowPrices : (Nat → Int)) (k31 : (Nat → Int) → Option R_iMatcher_freeColumnFor) (self : Int → (Nat → Int) → Option R_iMatcher_freeColumnFor) (x2 : Int) (v_isReached : (Nat → Int)) : Option R_iMatcher_freeColumnFor :=
  if 20 < x2 then
    k31 v_isReached
  else
    gd (jb x2 21) <|
    gd (jr (x2 + 1)) <|
    self (x2 + 1) (va_up v_isReached x2.toNat 0)
def iMatcher_freeColumnFor_b12 (N : Nat) (a1 : Int) (v_costs : (Nat → Nat → Int)) (v_cameFrom : (Nat → Int)) (v_columnPrices : (Nat → Int)) (v_gaps : (Nat → Int)) (v_rowOf : (Nat → Int)) (v_rowPrices : (Nat → Int)) (k31 : (Nat → Int) → Option R_iMatcher_freeColumnFor) : Nat → Int → (Nat → Int) → Option R_iMatcher_freeColumnFor := zlp2 (iMatcher_freeColumnFor_b12_F N a1 v_costs v_cameFrom v_columnPrices v_gaps v_rowOf v_rowPrices k31)
def iMatcher_freeColumnFor_b42_F (N : Nat) (a1 : Int) (v_costs : (Nat → Nat → Int)) (v_rowOf : (Nat → Int)) (self : Int → Int → (Nat → Int) → (Nat → Int) → (Nat → Int) → (Nat → Int) → (Nat → Int) → Option R_iMatcher_freeColumnFor) (x2 : Int) (x3 : Int) (v_cameFrom : (Nat → Int)) (v_columnPrices : (Nat → Int)) (v_gaps : (Nat → Int)) (v_isReached : (Nat → Int)) (v_rowPrices : (Nat → Int)) : Option R_iMatcher_freeColumnFor :=
  if 20 < x3 then
    some (x2, v_cameFrom, v_columnPrices, v_gaps, v_isReached, v_rowOf, v_rowPrices)
  else
    gd (jb x2 21) <|
    if v_rowOf x2.toNat = 0 then
      some (x2, v_cameFrom, v_columnPrices, v_gaps, v_isReached, v_rowOf, v_rowPrices)
    else
      bd3 (iMatcher_lookFrom N x2 v_cameFrom v_columnPrices v_costs v_gaps (va_up v_isReached x2.toNat 1) v_rowOf v_rowPrices) fun rc3 v_cameFrom_c3 v_gaps_c3 =>
      gd (jb rc3 21) <|
      bd3 (iMatcher_shiftPrices N (v_gaps_c3 rc3.toNat) v_columnPrices v_gaps_c3 (va_up v_isReached x2.toNat 1) v_rowOf v_rowPrices) fun v_columnPrices_c5 v_gaps_c5 v_rowPrices_c5 =>
      gd (jr (x3 + 1)) <|
      self rc3 (x3 + 1) v_cameFrom_c3 v_columnPrices_c5 v_gaps_c5 (va_up v_isReached x2.toNat 1) v_rowPrices_c5
def iMatcher_freeColumnFor_b42 (N : Nat) (a1 : Int) (v_costs : (Nat → Nat → Int)) (v_rowOf : (Nat → Int)) : Nat → Int → Int → (Nat → Int) → (Nat → Int) → (Nat → Int) → (Nat → Int) → (Nat → Int) → Option R_iMatcher_freeColumnFor := zlp7 (iMatcher_freeColumnFor_b42_F N a1 v_costs v_rowOf)
def iMatcher_freeColumnFor_b31 (N : Nat) (a1 : Int) (v_costs : (Nat → Nat → Int)) (v_cameFrom : (Nat → Int)) (v_columnPrices : (Nat → Int)) (v_gaps : (Nat → Int)) (v_isReached : (Nat → Int)) (v_rowOf : (Nat → Int)) (v_rowPrices : (Nat → Int)) : Option R_iMatcher_freeColumnFor :=
  iMatcher_freeColumnFor_b42 N a1 v_costs (va_up v_rowOf 0 a1) N 0 0 v_cameFrom v_columnPrices v_gaps v_isReached v_rowPrices
def iMatcher_freeColumnFor (N : Nat) (a1 : Int) (v_cameFrom : (Nat → Int)) (v_columnPrices : (Nat → Int)) (v_costs : (Nat → Nat → Int)) (v_gaps : (Nat → Int)) (v_isReached : (Nat → Int)) (v_rowOf : (Nat → Int)) (v_rowPrices : (Nat → Int)) : Option R_iMatcher_freeColumnFor :=
  iMatcher_freeColumnFor_b12 N a1 v_costs v_cameFrom v_columnPrices (fun _ => 1152921504606846976) v_rowOf v_rowPrices (fun v_isReached_k1 => iMatcher_freeColumnFor_b31 N a1 v_costs v_cameFrom v_columnPrices (fun _ => 1152921504606846976) v_isReached_k1 v_rowOf v_rowPrices) N 0 v_isReached
def iMatcher_turnOver_b4_F (N : Nat) (a1 : Int) (v_cameFrom : (Nat → Int)) (self : Int → Int → (Nat → Int) → Option (Nat → Int)) (x2 : Int) (x3 : Int) (v_rowOf : (Nat → Int)) : Option (Nat → Int) :=
  if 20 < x3 then
    some v_rowOf
  else
    if x2 = 0 then
      some v_rowOf
    else
      gd (jb x2 21) <|
      gd (jb (v_cameFrom x2.toNat) 21) <|
      gd (jr (x3 + 1)) <|
      self (v_cameFrom x2.toNat) (x3 + 1) (va_up v_rowOf x2.toNat (v_rowOf ((v_cameFrom x2.toNat).toNat)))
def iMatcher_turnOver_b4 (N : Nat) (a1 : Int) (v_cameFrom : (Nat → Int)) : Nat → Int → Int → (Nat → Int) → Option (Nat → Int) := zlp3 (iMatcher_turnOver_b4_F N a1 v_cameFrom)
def iMatcher_turnOver (N : Nat) (a1 : Int) (v_cameFrom : (Nat → Int)) (v_rowOf : (Nat → Int)) : Option (Nat → Int) :=
  iMatcher_turnOver_b4 N a1 v_cameFrom N a1 0 v_rowOf
abbrev R_iMatcher_solve : Type := (Nat → Int) × (Nat → Int) × (Nat → Int) × (Nat → Int) × (Nat → Int) × (Nat → Int) × (Nat → Int)
def iMatcher_solve_b2_F (N : Nat) (v_costs : (Nat → Nat → Int)) (v_mates : (Nat → Int)) (k23 : (Nat → Int) → (Nat → Int) → (Nat → Int) → (Nat → Int) → (Nat → Int) → (Nat → Int) → Option R_iMatcher_solve) (self : Int → (Nat → Int) → (Nat → Int) → (Nat → Int) → (Nat → Int) → (Nat → Int) → (Nat → Int) → Option R_iMatcher_solve) (x1 : Int) (v_cameFrom : (Nat → Int)) (v_columnPrices : (Nat → Int)) (v_gaps : (Nat → Int)) (v_isReached : (Nat → Int)) (v_rowOf : (Nat → Int)) (v_rowPrices : (Nat → Int)) : Option R_iMatcher_solve :=
  if 10 < x1 then
    k23 v_cameFrom v_columnPrices v_gaps v_isReached v_rowOf v_rowPrices
  else
    bd7 (iMatcher_freeColumnFor N x1 v_cameFrom v_columnPrices v_costs v_gaps v_isReached v_rowOf v_rowPrices) fun rc1 v_cameFrom_c1 v_columnPrices_c1 v_gaps_c1 v_isReached_c1 v_rowOf_c1 v_rowPrices_c1 =>
    bd1 (iMatcher_turnOver N rc1 v_cameFrom_c1 v_rowOf_c1) fun v_rowOf_c2 =>
    gd (jr (x1 + 1)) <|
    self (x1 + 1) v_cameFrom_c1 v_columnPrices_c1 v_gaps_c1 v_isReached_c1 v_rowOf_c2 v_rowPrices_c1
def iMatcher_solve_b2 (N : Nat) (v_costs : (Nat → Nat → Int)) (v_mates : (Nat → Int)) (k23 : (Nat → Int) → (Nat → Int) → (Nat → Int) → (Nat → Int) → (Nat → Int) → (Nat → Int) → Option R_iMatcher_solve) : Nat → Int → (Nat → Int) → (Nat → Int) → (Nat → Int) → (Nat → Int) → (Nat → Int) → (Nat → Int) → Option R_iMatcher_solve := zlp7 (iMatcher_solve_b2_F N v_costs v_mates k23)
def iMatcher_solve_b33_F (N : Nat) (v_costs : (Nat → Nat → Int)) (v_cameFrom : (Nat → Int)) (v_columnPrices : (Nat → Int)) (v_gaps : (Nat → Int)) (v_isReached : (Nat → Int)) (v_rowOf : (Nat → Int)) (v_rowPrices : (Nat → Int)) (self : Int → (Nat → Int) → Option R_iMatcher_solve) (x1 : Int) (v_mates : (Nat → Int)) : Option R_iMatcher_solve :=
  if 10 < x1 then
    some (v_cameFrom, v_columnPrices, v_gaps, v_isReached, v_mates, v_rowOf, v_rowPrices)
  else
    gd (jb x1 21) <|
    if v_rowOf x1.toNat ≤ 0 then
      gd (jr (x1 + 1)) <|
      self (x1 + 1) v_mates
    else
      gd (jb (v_rowOf x1.toNat) 11) <|
      if v_costs ((v_rowOf x1.toNat).toNat) x1.toNat = 0 then
        gd (jr (x1 + 1)) <|
        self (x1 + 1) v_mates
      else
        gd (jr ((v_rowOf x1.toNat) - 1)) <|
        gd (jb ((v_rowOf x1.toNat) - 1) 10) <|
        gd (jr (x1 + 1)) <|
        gd (jr (x1 - 1)) <|
        self (x1 + 1) (va_up v_mates (((v_rowOf x1.toNat) - 1).toNat) (x1 - 1))
def iMatcher_solve_b33 (N : Nat) (v_costs : (Nat → Nat → Int)) (v_cameFrom : (Nat → Int)) (v_columnPrices : (Nat → Int)) (v_gaps : (Nat → Int)) (v_isReached : (Nat → Int)) (v_rowOf : (Nat → Int)) (v_rowPrices : (Nat → Int)) : Nat → Int → (Nat → Int) → Option R_iMatcher_solve := zlp2 (iMatcher_solve_b33_F N v_costs v_cameFrom v_columnPrices v_gaps v_isReached v_rowOf v_rowPrices)
def iMatcher_solve_b23 (N : Nat) (v_costs : (Nat → Nat → Int)) (v_cameFrom : (Nat → Int)) (v_columnPrices : (Nat → Int)) (v_gaps : (Nat → Int)) (v_isReached : (Nat → Int)) (v_mates : (Nat → Int)) (v_rowOf : (Nat → Int)) (v_rowPrices : (Nat → Int)) : Option R_iMatcher_solve :=
  iMatcher_solve_b33 N v_costs v_cameFrom v_columnPrices v_gaps v_isReached v_rowOf v_rowPrices N 1 (fun _ => (-1))
def iMatcher_solve (N : Nat) (v_cameFrom : (Nat → Int)) (v_columnPrices : (Nat → Int)) (v_costs : (Nat → Nat → Int)) (v_gaps : (Nat → Int)) (v_isReached : (Nat → Int)) (v_mates : (Nat → Int)) (v_rowOf : (Nat → Int)) (v_rowPrices : (Nat → Int)) : Option R_iMatcher_solve :=
  iMatcher_solve_b2 N v_costs v_mates (fun v_cameFrom_k1 v_columnPrices_k2 v_gaps_k3 v_isReached_k4 e7_ e8_ => iMatcher_solve_b23 N v_costs v_cameFrom_k1 v_columnPrices_k2 v_gaps_k3 v_isReached_k4 v_mates e7_ e8_) N 1 v_cameFrom v_columnPrices v_gaps v_isReached v_rowOf v_rowPrices
def iMatcher_foilOf (a1 : Int) (v_mates : (Nat → Int)) : Option Int :=
  bd1 (iK_isStick a1) fun rc1 =>
  if rc1 = 0 then
    some (-1)
  else
    gd (jb a1 10) <|
    some (v_mates a1.toNat)
def iChest_isHalf (a0 : Int) : Option Int :=
  if a0 < 0 then
    some 0
  else
    if 20 ≤ a0 then
      some 0
    else
      some 1
abbrev R_iChest_forget : Type := Int × Int × (Nat → Int)
def iChest_forget_b36 (N : Nat) (a1 : Int) (self : Int → (Nat → Int) → Option R_iChest_forget) (x2 : Int) (s1 : Int) (v_changes : Int) (v_isMatched : Int) (v_fits : (Nat → Int)) : Option R_iChest_forget :=
  gd (jb s1 100) <|
  gd (jr (x2 + 1)) <|
  self (x2 + 1) (va_up v_fits s1.toNat (-2))
def iChest_forget_b2_F (N : Nat) (a1 : Int) (v_changes : Int) (v_isMatched : Int) (self : Int → (Nat → Int) → Option R_iChest_forget) (x2 : Int) (v_fits : (Nat → Int)) : Option R_iChest_forget :=
  if 10 ≤ x2 then
    gd (jr (v_changes + 1)) <|
    some (v_changes + 1, 0, v_fits)
  else
    if 10 ≤ a1 then
      gd (jr (x2 * 10)) <|
      gd (jr ((x2 * 10) + a1)) <|
      gd (jr (((x2 * 10) + a1) - 10)) <|
      iChest_forget_b36 N a1 self x2 (((x2 * 10) + a1) - 10) v_changes v_isMatched v_fits
    else
      gd (jr (a1 * 10)) <|
      gd (jr ((a1 * 10) + x2)) <|
      iChest_forget_b36 N a1 self x2 ((a1 * 10) + x2) v_changes v_isMatched v_fits
def iChest_forget_b2 (N : Nat) (a1 : Int) (v_changes : Int) (v_isMatched : Int) : Nat → Int → (Nat → Int) → Option R_iChest_forget := zlp2 (iChest_forget_b2_F N a1 v_changes v_isMatched)
def iChest_forget (N : Nat) (a1 : Int) (v_changes : Int) (v_isMatched : Int) (v_fits : (Nat → Int)) : Option R_iChest_forget :=
  iChest_forget_b2 N a1 v_changes v_isMatched N 0 v_fits
abbrev R_iChest_addCut : Type := Int × Int × Int × (Nat → Int) × (Nat → Int) × (Nat → Int) × (Nat → Int)
def iChest_addCut_b76 (N : Nat) (a1 : Int) (a2 : Int) (a3 : Int) (x4 : Int) (x5 : Int) (v_changes : Int) (v_isMatched : Int) (v_fits : (Nat → Int)) (v_places : (Nat → Int)) (v_sizes : (Nat → Int)) (v_worths : (Nat → Int)) : Option R_iChest_addCut :=
  gd (jb x5 240) <|
  gd (jb a1 20) <|
  bd3 (iChest_forget N a1 v_changes v_isMatched v_fits) fun v_changes_c6 v_isMatched_c6 v_fits_c6 =>
  gd (jr (x4 + 1)) <|
  some (x4 + 1, v_changes_c6, v_isMatched_c6, v_fits_c6, va_up v_places x5.toNat a2, va_up v_sizes a1.toNat (x4 + 1), va_up v_worths x5.toNat a3)
def iChest_addCut (N : Nat) (a1 : Int) (a2 : Int) (a3 : Int) (v_changes : Int) (v_isMatched : Int) (v_fits : (Nat → Int)) (v_places : (Nat → Int)) (v_sizes : (Nat → Int)) (v_worths : (Nat → Int)) : Option R_iChest_addCut :=
  bd1 (iChest_isHalf a1) fun rc1 =>
  if rc1 = 0 then
    some ((-1), v_changes, v_isMatched, v_fits, v_places, v_sizes, v_worths)
  else
    if a2 < 0 then
      some ((-1), v_changes, v_isMatched, v_fits, v_places, v_sizes, v_worths)
    else
      if 240 < a2 then
        some ((-1), v_changes, v_isMatched, v_fits, v_places, v_sizes, v_worths)
      else
        if a3 < 0 then
          some ((-1), v_changes, v_isMatched, v_fits, v_places, v_sizes, v_worths)
        else
          gd (jr ((6 : Nat) : Int)) <|
          if a3 < ((6 : Nat) : Int) then
            gd (jb a1 20) <|
            if 12 ≤ v_sizes a1.toNat then
              some ((-1), v_changes, v_isMatched, v_fits, v_places, v_sizes, v_worths)
            else
              if v_sizes a1.toNat ≤ 0 then
                gd (jr (a1 * 12)) <|
                gd (jr ((a1 * 12) + (v_sizes a1.toNat))) <|
                iChest_addCut_b76 N a1 a2 a3 (v_sizes a1.toNat) ((a1 * 12) + (v_sizes a1.toNat)) v_changes v_isMatched v_fits v_places v_sizes v_worths
              else
                gd (jr (a1 * 12)) <|
                gd (jr ((a1 * 12) + (v_sizes a1.toNat))) <|
                gd (jr (((a1 * 12) + (v_sizes a1.toNat)) - 1)) <|
                gd (jb (((a1 * 12) + (v_sizes a1.toNat)) - 1) 240) <|
                if v_places ((((a1 * 12) + (v_sizes a1.toNat)) - 1).toNat) < a2 then
                  iChest_addCut_b76 N a1 a2 a3 (v_sizes a1.toNat) ((a1 * 12) + (v_sizes a1.toNat)) v_changes v_isMatched v_fits v_places v_sizes v_worths
                else
                  some ((-1), v_changes, v_isMatched, v_fits, v_places, v_sizes, v_worths)
          else
            some ((-1), v_changes, v_isMatched, v_fits, v_places, v_sizes, v_worths)
def iChest_isThere (a1 : Int) (v_sizes : (Nat → Int)) : Option Int :=
  bd1 (iChest_isHalf a1) fun rc1 =>
  if rc1 = 0 then
    some 0
  else
    gd (jb a1 20) <|
    if v_sizes a1.toNat ≤ 0 then
      some 0
    else
      some 1
abbrev R_iChest_clear : Type := Int × Int × Int × (Nat → Int) × (Nat → Int)
def iChest_clear (N : Nat) (a1 : Int) (v_changes : Int) (v_isMatched : Int) (v_fits : (Nat → Int)) (v_sizes : (Nat → Int)) : Option R_iChest_clear :=
  bd1 (iChest_isThere a1 v_sizes) fun rc1 =>
  if rc1 = 0 then
    some (0, v_changes, v_isMatched, v_fits, v_sizes)
  else
    gd (jb a1 20) <|
    bd3 (iChest_forget N a1 v_changes v_isMatched v_fits) fun v_changes_c3 v_isMatched_c3 v_fits_c3 =>
    some (1, v_changes_c3, v_isMatched_c3, v_fits_c3, va_up v_sizes a1.toNat 0)
def iChest_worthOf_b14_F (N : Nat) (a1 : Int) (v_sizes : (Nat → Int)) (v_worths : (Nat → Int)) (self : Int → Int → Option Int) (x2 : Int) (x3 : Int) : Option Int :=
  gd (jb a1 20) <|
  if v_sizes a1.toNat ≤ x3 then
    some x2
  else
    gd (jr (a1 * 12)) <|
    gd (jr ((a1 * 12) + x3)) <|
    gd (jb ((a1 * 12) + x3) 240) <|
    gd (jb (v_worths (((a1 * 12) + x3).toNat)) 6) <|
    gd (jr (x2 + (jc2.getD ((v_worths (((a1 * 12) + x3).toNat)).toNat) 0))) <|
    gd (jr (x3 + 1)) <|
    self (x2 + (jc2.getD ((v_worths (((a1 * 12) + x3).toNat)).toNat) 0)) (x3 + 1)
def iChest_worthOf_b14 (N : Nat) (a1 : Int) (v_sizes : (Nat → Int)) (v_worths : (Nat → Int)) : Nat → Int → Int → Option Int := zlp2 (iChest_worthOf_b14_F N a1 v_sizes v_worths)
def iChest_worthOf (N : Nat) (a1 : Int) (v_sizes : (Nat → Int)) (v_worths : (Nat → Int)) : Option Int :=
  bd1 (iChest_isThere a1 v_sizes) fun rc1 =>
  if rc1 = 0 then
    some (-1)
  else
    iChest_worthOf_b14 N a1 v_sizes v_worths N 0 0
abbrev R_iChest_setWear : Type := Int × Int × Int × Int × Int × Int × (Nat → Int)
def iChest_setWear_b59 (a1 : Int) (a2 : Int) (a3 : Int) (v_changes : Int) (v_grain : Int) (v_isMatched : Int) (v_limit : Int) (v_lost : Int) (v_fits : (Nat → Int)) : Option R_iChest_setWear :=
  gd (jr (v_changes + 1)) <|
  some (1, v_changes + 1, a1, 0, a3, a2, v_fits)
def iChest_setWear_b50 (a1 : Int) (a2 : Int) (a3 : Int) (v_changes : Int) (v_grain : Int) (v_isMatched : Int) (v_limit : Int) (v_lost : Int) (v_fits : (Nat → Int)) : Option R_iChest_setWear :=
  iChest_setWear_b59 a1 a2 a3 v_changes v_grain v_isMatched v_limit v_lost (fun _ => (-2))
def iChest_setWear (a1 : Int) (a2 : Int) (a3 : Int) (v_changes : Int) (v_grain : Int) (v_isMatched : Int) (v_limit : Int) (v_lost : Int) (v_fits : (Nat → Int)) : Option R_iChest_setWear :=
  if a1 < 0 then
    some (0, v_changes, v_grain, v_isMatched, v_limit, v_lost, v_fits)
  else
    if 20 < a1 then
      some (0, v_changes, v_grain, v_isMatched, v_limit, v_lost, v_fits)
    else
      if a2 < 1 then
        some (0, v_changes, v_grain, v_isMatched, v_limit, v_lost, v_fits)
      else
        if 100 < a2 then
          some (0, v_changes, v_grain, v_isMatched, v_limit, v_lost, v_fits)
        else
          if a3 < 0 then
            some (0, v_changes, v_grain, v_isMatched, v_limit, v_lost, v_fits)
          else
            if a3 ≤ 500 then
              if a1 = v_grain then
                if a2 = v_lost then
                  iChest_setWear_b59 a1 a2 a3 v_changes v_grain v_isMatched v_limit v_lost v_fits
                else
                  iChest_setWear_b50 a1 a2 a3 v_changes v_grain v_isMatched v_limit v_lost v_fits
              else
                iChest_setWear_b50 a1 a2 a3 v_changes v_grain v_isMatched v_limit v_lost v_fits
            else
              some (0, v_changes, v_grain, v_isMatched, v_limit, v_lost, v_fits)
def iChest_pairCost (a1 : Int) (a2 : Int) (v_grain : Int) (v_places : (Nat → Int)) (v_worths : (Nat → Int)) : Option Int :=
  gd (jb a1 240) <|
  gd (jb a2 240) <|
  if v_worths a1.toNat = v_worths a2.toNat then
    gd (jr ((v_places a1.toNat) - (v_places a2.toNat))) <|
    gd (jr (jabs ((v_places a1.toNat) - (v_places a2.toNat)))) <|
    if v_grain < jabs ((v_places a1.toNat) - (v_places a2.toNat)) then
      some (-1)
    else
      some (jabs ((v_places a1.toNat) - (v_places a2.toNat)))
  else
    some (-1)
abbrev R_iChest_leastCost : Type := Int × (Nat → Int) × (Nat → Int)
def iChest_leastCost_b2_F (N : Nat) (a1 : Int) (a2 : Int) (v_grain : Int) (v_lost : Int) (v_places : (Nat → Int)) (v_sizes : (Nat → Int)) (v_worths : (Nat → Int)) (v_above : (Nat → Int)) (k30 : (Nat → Int) → Option R_iChest_leastCost) (self : Int → (Nat → Int) → Option R_iChest_leastCost) (x3 : Int) (v_row : (Nat → Int)) : Option R_iChest_leastCost :=
  gd (jb a2 20) <|
  if v_sizes a2.toNat < x3 then
    k30 v_row
  else
    gd (jb x3 13) <|
    gd (jr (x3 + 1)) <|
    gd (jr (x3 * v_lost)) <|
    self (x3 + 1) (va_up v_row x3.toNat (x3 * v_lost))
def iChest_leastCost_b2 (N : Nat) (a1 : Int) (a2 : Int) (v_grain : Int) (v_lost : Int) (v_places : (Nat → Int)) (v_sizes : (Nat → Int)) (v_worths : (Nat → Int)) (v_above : (Nat → Int)) (k30 : (Nat → Int) → Option R_iChest_leastCost) : Nat → Int → (Nat → Int) → Option R_iChest_leastCost := zlp2 (iChest_leastCost_b2_F N a1 a2 v_grain v_lost v_places v_sizes v_worths v_above k30)
def iChest_leastCost_b170 (N : Nat) (a1 : Int) (a2 : Int) (v_grain : Int) (v_lost : Int) (v_places : (Nat → Int)) (v_sizes : (Nat → Int)) (v_worths : (Nat → Int)) (self : Int → (Nat → Int) → Option R_iChest_leastCost) (k177 : (Nat → Int) → Option R_iChest_leastCost) (x3 : Int) (x4 : Int) (s1 : Int) (s2 : Int) (v_above : (Nat → Int)) (v_row : (Nat → Int)) : Option R_iChest_leastCost :=
  gd (jb s1 13) <|
  gd (jr (x4 + 1)) <|
  self (x4 + 1) (va_up v_row s1.toNat s2)
def iChest_leastCost_b80_F (N : Nat) (a1 : Int) (a2 : Int) (v_grain : Int) (v_lost : Int) (v_places : (Nat → Int)) (v_sizes : (Nat → Int)) (v_worths : (Nat → Int)) (x3 : Int) (v_above : (Nat → Int)) (k177 : (Nat → Int) → Option R_iChest_leastCost) (self : Int → (Nat → Int) → Option R_iChest_leastCost) (x4 : Int) (v_row : (Nat → Int)) : Option R_iChest_leastCost :=
  gd (jb a2 20) <|
  if v_sizes a2.toNat ≤ x4 then
    k177 v_row
  else
    gd (jr (x4 + 1)) <|
    gd (jb (x4 + 1) 13) <|
    gd (jb x4 13) <|
    gd (jr (a1 * 12)) <|
    gd (jr ((a1 * 12) + x3)) <|
    gd (jr (a2 * 12)) <|
    gd (jr ((a2 * 12) + x4)) <|
    bd1 (iChest_pairCost ((a1 * 12) + x3) ((a2 * 12) + x4) v_grain v_places v_worths) fun rc9 =>
    if rc9 = (-1) then
      gd (jr ((jmin (v_above ((x4 + 1).toNat)) (v_row x4.toNat)) + v_lost)) <|
      iChest_leastCost_b170 N a1 a2 v_grain v_lost v_places v_sizes v_worths self k177 x3 x4 (x4 + 1) ((jmin (v_above ((x4 + 1).toNat)) (v_row x4.toNat)) + v_lost) v_above v_row
    else
      gd (jr ((jmin (v_above ((x4 + 1).toNat)) (v_row x4.toNat)) + v_lost)) <|
      gd (jr ((v_above x4.toNat) + rc9)) <|
      iChest_leastCost_b170 N a1 a2 v_grain v_lost v_places v_sizes v_worths self k177 x3 x4 (x4 + 1) (jmin ((jmin (v_above ((x4 + 1).toNat)) (v_row x4.toNat)) + v_lost) ((v_above x4.toNat) + rc9)) v_above v_row
def iChest_leastCost_b80 (N : Nat) (a1 : Int) (a2 : Int) (v_grain : Int) (v_lost : Int) (v_places : (Nat → Int)) (v_sizes : (Nat → Int)) (v_worths : (Nat → Int)) (x3 : Int) (v_above : (Nat → Int)) (k177 : (Nat → Int) → Option R_iChest_leastCost) : Nat → Int → (Nat → Int) → Option R_iChest_leastCost := zlp2 (iChest_leastCost_b80_F N a1 a2 v_grain v_lost v_places v_sizes v_worths x3 v_above k177)
def iChest_leastCost_b177 (N : Nat) (a1 : Int) (a2 : Int) (v_grain : Int) (v_lost : Int) (v_places : (Nat → Int)) (v_sizes : (Nat → Int)) (v_worths : (Nat → Int)) (self : Int → (Nat → Int) → (Nat → Int) → Option R_iChest_leastCost) (x3 : Int) (v_above : (Nat → Int)) (v_row : (Nat → Int)) : Option R_iChest_leastCost :=
  gd (jr (x3 + 1)) <|
  self (x3 + 1) v_above v_row
def iChest_leastCost_b32_F (N : Nat) (a1 : Int) (a2 : Int) (v_grain : Int) (v_lost : Int) (v_places : (Nat → Int)) (v_sizes : (Nat → Int)) (v_worths : (Nat → Int)) (self : Int → (Nat → Int) → (Nat → Int) → Option R_iChest_leastCost) (x3 : Int) (v_above : (Nat → Int)) (v_row : (Nat → Int)) : Option R_iChest_leastCost :=
  gd (jb a1 20) <|
  if v_sizes a1.toNat ≤ x3 then
    gd (jb a2 20) <|
    gd (jb (v_sizes a2.toNat) 13) <|
    some (v_row ((v_sizes a2.toNat).toNat), v_above, v_row)
  else
    gd (jr (((va_cpy v_row v_above 0 0 13) 0) + v_lost)) <|
    iChest_leastCost_b80 N a1 a2 v_grain v_lost v_places v_sizes v_worths x3 (va_cpy v_row v_above 0 0 13) (fun e11_ => iChest_leastCost_b177 N a1 a2 v_grain v_lost v_places v_sizes v_worths self x3 (va_cpy v_row v_above 0 0 13) e11_) N 0 (va_up v_row 0 (((va_cpy v_row v_above 0 0 13) 0) + v_lost))
def iChest_leastCost_b32 (N : Nat) (a1 : Int) (a2 : Int) (v_grain : Int) (v_lost : Int) (v_places : (Nat → Int)) (v_sizes : (Nat → Int)) (v_worths : (Nat → Int)) : Nat → Int → (Nat → Int) → (Nat → Int) → Option R_iChest_leastCost := zlp3 (iChest_leastCost_b32_F N a1 a2 v_grain v_lost v_places v_sizes v_worths)
def iChest_leastCost_b30 (N : Nat) (a1 : Int) (a2 : Int) (v_grain : Int) (v_lost : Int) (v_places : (Nat → Int)) (v_sizes : (Nat → Int)) (v_worths : (Nat → Int)) (v_above : (Nat → Int)) (v_row : (Nat → Int)) : Option R_iChest_leastCost :=
  iChest_leastCost_b32 N a1 a2 v_grain v_lost v_places v_sizes v_worths N 0 v_above v_row
def iChest_leastCost (N : Nat) (a1 : Int) (a2 : Int) (v_grain : Int) (v_lost : Int) (v_above : (Nat → Int)) (v_places : (Nat → Int)) (v_row : (Nat → Int)) (v_sizes : (Nat → Int)) (v_worths : (Nat → Int)) : Option R_iChest_leastCost :=
  iChest_leastCost_b2 N a1 a2 v_grain v_lost v_places v_sizes v_worths v_above (fun e9_ => iChest_leastCost_b30 N a1 a2 v_grain v_lost v_places v_sizes v_worths v_above e9_) N 0 v_row
abbrev R_iChest_fitOf : Type := Int × (Nat → Int) × (Nat → Int) × (Nat → Int)
def iChest_fitOf_b68 (N : Nat) (a1 : Int) (a2 : Int) (v_grain : Int) (v_lost : Int) (v_places : (Nat → Int)) (v_sizes : (Nat → Int)) (v_worths : (Nat → Int)) (x3 : Int) (v_above : (Nat → Int)) (v_fits : (Nat → Int)) (v_row : (Nat → Int)) : Option R_iChest_fitOf :=
  gd (jb x3 100) <|
  some (v_fits x3.toNat, v_above, v_fits, v_row)
def iChest_fitOf (N : Nat) (a1 : Int) (a2 : Int) (v_grain : Int) (v_lost : Int) (v_above : (Nat → Int)) (v_fits : (Nat → Int)) (v_places : (Nat → Int)) (v_row : (Nat → Int)) (v_sizes : (Nat → Int)) (v_worths : (Nat → Int)) : Option R_iChest_fitOf :=
  bd1 (iK_isStick a1) fun rc1 =>
  if rc1 = 0 then
    some ((-1), v_above, v_fits, v_row)
  else
    bd1 (iK_isStick a2) fun rc2 =>
    if rc2 = 0 then
      some ((-1), v_above, v_fits, v_row)
    else
      bd1 (iChest_isThere a1 v_sizes) fun rc3 =>
      if rc3 = 0 then
        some ((-1), v_above, v_fits, v_row)
      else
        gd (jr (10 + a2)) <|
        bd1 (iChest_isThere (10 + a2) v_sizes) fun rc4 =>
        if rc4 = 0 then
          some ((-1), v_above, v_fits, v_row)
        else
          gd (jr (a1 * 10)) <|
          gd (jr ((a1 * 10) + a2)) <|
          gd (jb ((a1 * 10) + a2) 100) <|
          if v_fits (((a1 * 10) + a2).toNat) = (-2) then
            bd3 (iChest_leastCost N a1 (10 + a2) v_grain v_lost v_above v_places v_row v_sizes v_worths) fun rc6 v_above_c6 v_row_c6 =>
            iChest_fitOf_b68 N a1 a2 v_grain v_lost v_places v_sizes v_worths ((a1 * 10) + a2) v_above_c6 (va_up v_fits (((a1 * 10) + a2).toNat) rc6) v_row_c6
          else
            iChest_fitOf_b68 N a1 a2 v_grain v_lost v_places v_sizes v_worths ((a1 * 10) + a2) v_above v_fits v_row
abbrev R_iChest_matchAll : Type := Int × (Nat → Int) × (Nat → Int) × (Nat → Int) × (Nat → Int) × (Nat → Int) × (Nat → Nat → Int) × (Nat → Int) × (Nat → Int) × (Nat → Int) × (Nat → Int) × (Nat → Int) × (Nat → Int)
def iChest_matchAll_b25_F (N : Nat) (v_grain : Int) (v_limit : Int) (v_lost : Int) (v_places : (Nat → Int)) (v_sizes : (Nat → Int)) (v_worths : (Nat → Int)) (x1 : Int) (v_isMatched : Int) (v_goodWorths : (Nat → Int)) (v_matcher_cameFrom : (Nat → Int)) (v_matcher_columnPrices : (Nat → Int)) (v_matcher_gaps : (Nat → Int)) (v_matcher_isReached : (Nat → Int)) (v_matcher_mates : (Nat → Int)) (v_matcher_rowOf : (Nat → Int)) (v_matcher_rowPrices : (Nat → Int)) (k67 : (Nat → Int) → (Nat → Int) → (Nat → Nat → Int) → (Nat → Int) → Option R_iChest_matchAll) (self : Int → (Nat → Int) → (Nat → Int) → (Nat → Nat → Int) → (Nat → Int) → Option R_iChest_matchAll) (x2 : Int) (v_above : (Nat → Int)) (v_fits : (Nat → Int)) (v_matcher_costs : (Nat → Nat → Int)) (v_row : (Nat → Int)) : Option R_iChest_matchAll :=
  if 10 ≤ x2 then
    k67 v_above v_fits v_matcher_costs v_row
  else
    bd4 (iChest_fitOf N x1 x2 v_grain v_lost v_above v_fits v_places v_row v_sizes v_worths) fun rc3 v_above_c3 v_fits_c3 v_row_c3 =>
    if rc3 = (-1) then
      gd (jr (x2 + 1)) <|
      self (x2 + 1) v_above_c3 v_fits_c3 v_matcher_costs v_row_c3
    else
      if v_limit < rc3 then
        gd (jr (x2 + 1)) <|
        self (x2 + 1) v_above_c3 v_fits_c3 v_matcher_costs v_row_c3
      else
        bd1 (iMatcher_allow N x1 x2 rc3 v_matcher_costs) fun v_matcher_costs_c4 =>
        gd (jr (x2 + 1)) <|
        self (x2 + 1) v_above_c3 v_fits_c3 v_matcher_costs_c4 v_row_c3
def iChest_matchAll_b25 (N : Nat) (v_grain : Int) (v_limit : Int) (v_lost : Int) (v_places : (Nat → Int)) (v_sizes : (Nat → Int)) (v_worths : (Nat → Int)) (x1 : Int) (v_isMatched : Int) (v_goodWorths : (Nat → Int)) (v_matcher_cameFrom : (Nat → Int)) (v_matcher_columnPrices : (Nat → Int)) (v_matcher_gaps : (Nat → Int)) (v_matcher_isReached : (Nat → Int)) (v_matcher_mates : (Nat → Int)) (v_matcher_rowOf : (Nat → Int)) (v_matcher_rowPrices : (Nat → Int)) (k67 : (Nat → Int) → (Nat → Int) → (Nat → Nat → Int) → (Nat → Int) → Option R_iChest_matchAll) : Nat → Int → (Nat → Int) → (Nat → Int) → (Nat → Nat → Int) → (Nat → Int) → Option R_iChest_matchAll := zlp5 (iChest_matchAll_b25_F N v_grain v_limit v_lost v_places v_sizes v_worths x1 v_isMatched v_goodWorths v_matcher_cameFrom v_matcher_columnPrices v_matcher_gaps v_matcher_isReached v_matcher_mates v_matcher_rowOf v_matcher_rowPrices k67)
def iChest_matchAll_b67 (N : Nat) (v_grain : Int) (v_limit : Int) (v_lost : Int) (v_places : (Nat → Int)) (v_sizes : (Nat → Int)) (v_worths : (Nat → Int)) (self : Int → (Nat → Int) → (Nat → Int) → (Nat → Nat → Int) → (Nat → Int) → Option R_iChest_matchAll) (k73 : (Nat → Int) → (Nat → Int) → (Nat → Nat → Int) → (Nat → Int) → Option R_iChest_matchAll) (x1 : Int) (v_isMatched : Int) (v_above : (Nat → Int)) (v_fits : (Nat → Int)) (v_goodWorths : (Nat → Int)) (v_matcher_cameFrom : (Nat → Int)) (v_matcher_columnPrices : (Nat → Int)) (v_matcher_costs : (Nat → Nat → Int)) (v_matcher_gaps : (Nat → Int)) (v_matcher_isReached : (Nat → Int)) (v_matcher_mates : (Nat → Int)) (v_matcher_rowOf : (Nat → Int)) (v_matcher_rowPrices : (Nat → Int)) (v_row : (Nat → Int)) : Option R_iChest_matchAll :=
  gd (jr (x1 + 1)) <|
  self (x1 + 1) v_above v_fits v_matcher_costs v_row
def iChest_matchAll_b17_F (N : Nat) (v_grain : Int) (v_limit : Int) (v_lost : Int) (v_places : (Nat → Int)) (v_sizes : (Nat → Int)) (v_worths : (Nat → Int)) (v_isMatched : Int) (v_goodWorths : (Nat → Int)) (v_matcher_cameFrom : (Nat → Int)) (v_matcher_columnPrices : (Nat → Int)) (v_matcher_gaps : (Nat → Int)) (v_matcher_isReached : (Nat → Int)) (v_matcher_mates : (Nat → Int)) (v_matcher_rowOf : (Nat → Int)) (v_matcher_rowPrices : (Nat → Int)) (k73 : (Nat → Int) → (Nat → Int) → (Nat → Nat → Int) → (Nat → Int) → Option R_iChest_matchAll) (self : Int → (Nat → Int) → (Nat → Int) → (Nat → Nat → Int) → (Nat → Int) → Option R_iChest_matchAll) (x1 : Int) (v_above : (Nat → Int)) (v_fits : (Nat → Int)) (v_matcher_costs : (Nat → Nat → Int)) (v_row : (Nat → Int)) : Option R_iChest_matchAll :=
  if 10 ≤ x1 then
    k73 v_above v_fits v_matcher_costs v_row
  else
    iChest_matchAll_b25 N v_grain v_limit v_lost v_places v_sizes v_worths x1 v_isMatched v_goodWorths v_matcher_cameFrom v_matcher_columnPrices v_matcher_gaps v_matcher_isReached v_matcher_mates v_matcher_rowOf v_matcher_rowPrices (fun v_above_k1 v_fits_k2 v_matcher_costs_k3 e22_ => iChest_matchAll_b67 N v_grain v_limit v_lost v_places v_sizes v_worths self k73 x1 v_isMatched v_above_k1 v_fits_k2 v_goodWorths v_matcher_cameFrom v_matcher_columnPrices v_matcher_costs_k3 v_matcher_gaps v_matcher_isReached v_matcher_mates v_matcher_rowOf v_matcher_rowPrices e22_) N 0 v_above v_fits v_matcher_costs v_row
def iChest_matchAll_b17 (N : Nat) (v_grain : Int) (v_limit : Int) (v_lost : Int) (v_places : (Nat → Int)) (v_sizes : (Nat → Int)) (v_worths : (Nat → Int)) (v_isMatched : Int) (v_goodWorths : (Nat → Int)) (v_matcher_cameFrom : (Nat → Int)) (v_matcher_columnPrices : (Nat → Int)) (v_matcher_gaps : (Nat → Int)) (v_matcher_isReached : (Nat → Int)) (v_matcher_mates : (Nat → Int)) (v_matcher_rowOf : (Nat → Int)) (v_matcher_rowPrices : (Nat → Int)) (k73 : (Nat → Int) → (Nat → Int) → (Nat → Nat → Int) → (Nat → Int) → Option R_iChest_matchAll) : Nat → Int → (Nat → Int) → (Nat → Int) → (Nat → Nat → Int) → (Nat → Int) → Option R_iChest_matchAll := zlp5 (iChest_matchAll_b17_F N v_grain v_limit v_lost v_places v_sizes v_worths v_isMatched v_goodWorths v_matcher_cameFrom v_matcher_columnPrices v_matcher_gaps v_matcher_isReached v_matcher_mates v_matcher_rowOf v_matcher_rowPrices k73)
def iChest_matchAll_b114 (N : Nat) (v_grain : Int) (v_limit : Int) (v_lost : Int) (v_places : (Nat → Int)) (v_sizes : (Nat → Int)) (v_worths : (Nat → Int)) (self : Int → (Nat → Int) → Option R_iChest_matchAll) (x1 : Int) (s1 : Int) (s2 : Int) (v_isMatched : Int) (v_above : (Nat → Int)) (v_fits : (Nat → Int)) (v_goodWorths : (Nat → Int)) (v_matcher_cameFrom : (Nat → Int)) (v_matcher_columnPrices : (Nat → Int)) (v_matcher_costs : (Nat → Nat → Int)) (v_matcher_gaps : (Nat → Int)) (v_matcher_isReached : (Nat → Int)) (v_matcher_mates : (Nat → Int)) (v_matcher_rowOf : (Nat → Int)) (v_matcher_rowPrices : (Nat → Int)) (v_row : (Nat → Int)) : Option R_iChest_matchAll :=
  gd (jb s1 10) <|
  gd (jr (x1 + 1)) <|
  self (x1 + 1) (va_up v_goodWorths s1.toNat s2)
def iChest_matchAll_b82_F (N : Nat) (v_grain : Int) (v_limit : Int) (v_lost : Int) (v_places : (Nat → Int)) (v_sizes : (Nat → Int)) (v_worths : (Nat → Int)) (v_isMatched : Int) (v_above : (Nat → Int)) (v_fits : (Nat → Int)) (v_matcher_cameFrom : (Nat → Int)) (v_matcher_columnPrices : (Nat → Int)) (v_matcher_costs : (Nat → Nat → Int)) (v_matcher_gaps : (Nat → Int)) (v_matcher_isReached : (Nat → Int)) (v_matcher_mates : (Nat → Int)) (v_matcher_rowOf : (Nat → Int)) (v_matcher_rowPrices : (Nat → Int)) (v_row : (Nat → Int)) (self : Int → (Nat → Int) → Option R_iChest_matchAll) (x1 : Int) (v_goodWorths : (Nat → Int)) : Option R_iChest_matchAll :=
  if 10 ≤ x1 then
    some (1, v_above, v_fits, v_goodWorths, v_matcher_cameFrom, v_matcher_columnPrices, v_matcher_costs, v_matcher_gaps, v_matcher_isReached, v_matcher_mates, v_matcher_rowOf, v_matcher_rowPrices, v_row)
  else
    bd1 (iMatcher_foilOf x1 v_matcher_mates) fun rc5 =>
    if rc5 = (-1) then
      iChest_matchAll_b114 N v_grain v_limit v_lost v_places v_sizes v_worths self x1 x1 0 v_isMatched v_above v_fits v_goodWorths v_matcher_cameFrom v_matcher_columnPrices v_matcher_costs v_matcher_gaps v_matcher_isReached v_matcher_mates v_matcher_rowOf v_matcher_rowPrices v_row
    else
      bd1 (iChest_worthOf N x1 v_sizes v_worths) fun rc6 =>
      iChest_matchAll_b114 N v_grain v_limit v_lost v_places v_sizes v_worths self x1 x1 rc6 v_isMatched v_above v_fits v_goodWorths v_matcher_cameFrom v_matcher_columnPrices v_matcher_costs v_matcher_gaps v_matcher_isReached v_matcher_mates v_matcher_rowOf v_matcher_rowPrices v_row
def iChest_matchAll_b82 (N : Nat) (v_grain : Int) (v_limit : Int) (v_lost : Int) (v_places : (Nat → Int)) (v_sizes : (Nat → Int)) (v_worths : (Nat → Int)) (v_isMatched : Int) (v_above : (Nat → Int)) (v_fits : (Nat → Int)) (v_matcher_cameFrom : (Nat → Int)) (v_matcher_columnPrices : (Nat → Int)) (v_matcher_costs : (Nat → Nat → Int)) (v_matcher_gaps : (Nat → Int)) (v_matcher_isReached : (Nat → Int)) (v_matcher_mates : (Nat → Int)) (v_matcher_rowOf : (Nat → Int)) (v_matcher_rowPrices : (Nat → Int)) (v_row : (Nat → Int)) : Nat → Int → (Nat → Int) → Option R_iChest_matchAll := zlp2 (iChest_matchAll_b82_F N v_grain v_limit v_lost v_places v_sizes v_worths v_isMatched v_above v_fits v_matcher_cameFrom v_matcher_columnPrices v_matcher_costs v_matcher_gaps v_matcher_isReached v_matcher_mates v_matcher_rowOf v_matcher_rowPrices v_row)
def iChest_matchAll_b73 (N : Nat) (v_grain : Int) (v_limit : Int) (v_lost : Int) (v_places : (Nat → Int)) (v_sizes : (Nat → Int)) (v_worths : (Nat → Int)) (v_isMatched : Int) (v_above : (Nat → Int)) (v_fits : (Nat → Int)) (v_goodWorths : (Nat → Int)) (v_matcher_cameFrom : (Nat → Int)) (v_matcher_columnPrices : (Nat → Int)) (v_matcher_costs : (Nat → Nat → Int)) (v_matcher_gaps : (Nat → Int)) (v_matcher_isReached : (Nat → Int)) (v_matcher_mates : (Nat → Int)) (v_matcher_rowOf : (Nat → Int)) (v_matcher_rowPrices : (Nat → Int)) (v_row : (Nat → Int)) : Option R_iChest_matchAll :=
  bd7 (iMatcher_solve N v_matcher_cameFrom v_matcher_columnPrices v_matcher_costs v_matcher_gaps v_matcher_isReached v_matcher_mates v_matcher_rowOf v_matcher_rowPrices) fun v_matcher_cameFrom_c2 v_matcher_columnPrices_c2 v_matcher_gaps_c2 v_matcher_isReached_c2 v_matcher_mates_c2 v_matcher_rowOf_c2 v_matcher_rowPrices_c2 =>
  iChest_matchAll_b82 N v_grain v_limit v_lost v_places v_sizes v_worths v_isMatched v_above v_fits v_matcher_cameFrom_c2 v_matcher_columnPrices_c2 v_matcher_costs v_matcher_gaps_c2 v_matcher_isReached_c2 v_matcher_mates_c2 v_matcher_rowOf_c2 v_matcher_rowPrices_c2 v_row N 0 v_goodWorths
def iChest_matchAll (N : Nat) (v_grain : Int) (v_isMatched : Int) (v_limit : Int) (v_lost : Int) (v_above : (Nat → Int)) (v_fits : (Nat → Int)) (v_goodWorths : (Nat → Int)) (v_matcher_cameFrom : (Nat → Int)) (v_matcher_columnPrices : (Nat → Int)) (v_matcher_costs : (Nat → Nat → Int)) (v_matcher_gaps : (Nat → Int)) (v_matcher_isReached : (Nat → Int)) (v_matcher_mates : (Nat → Int)) (v_matcher_rowOf : (Nat → Int)) (v_matcher_rowPrices : (Nat → Int)) (v_places : (Nat → Int)) (v_row : (Nat → Int)) (v_sizes : (Nat → Int)) (v_worths : (Nat → Int)) : Option R_iChest_matchAll :=
  if v_isMatched = 0 then
    bd4 (iMatcher_begin N v_matcher_columnPrices v_matcher_costs v_matcher_rowOf v_matcher_rowPrices) fun v_matcher_columnPrices_c1 v_matcher_costs_c1 v_matcher_rowOf_c1 v_matcher_rowPrices_c1 =>
    iChest_matchAll_b17 N v_grain v_limit v_lost v_places v_sizes v_worths v_isMatched v_goodWorths v_matcher_cameFrom v_matcher_columnPrices_c1 v_matcher_gaps v_matcher_isReached v_matcher_mates v_matcher_rowOf_c1 v_matcher_rowPrices_c1 (fun v_above_k5 v_fits_k6 v_matcher_costs_k7 e19_ => iChest_matchAll_b73 N v_grain v_limit v_lost v_places v_sizes v_worths v_isMatched v_above_k5 v_fits_k6 v_goodWorths v_matcher_cameFrom v_matcher_columnPrices_c1 v_matcher_costs_k7 v_matcher_gaps v_matcher_isReached v_matcher_mates v_matcher_rowOf_c1 v_matcher_rowPrices_c1 e19_) N 0 v_above v_fits v_matcher_costs_c1 v_row
  else
    some (v_isMatched, v_above, v_fits, v_goodWorths, v_matcher_cameFrom, v_matcher_columnPrices, v_matcher_costs, v_matcher_gaps, v_matcher_isReached, v_matcher_mates, v_matcher_rowOf, v_matcher_rowPrices, v_row)
abbrev R_iChest_mateOf : Type := Int × Int × (Nat → Int) × (Nat → Int) × (Nat → Int) × (Nat → Int) × (Nat → Int) × (Nat → Nat → Int) × (Nat → Int) × (Nat → Int) × (Nat → Int) × (Nat → Int) × (Nat → Int) × (Nat → Int)
def iChest_mateOf (N : Nat) (a1 : Int) (v_grain : Int) (v_isMatched : Int) (v_limit : Int) (v_lost : Int) (v_above : (Nat → Int)) (v_fits : (Nat → Int)) (v_goodWorths : (Nat → Int)) (v_matcher_cameFrom : (Nat → Int)) (v_matcher_columnPrices : (Nat → Int)) (v_matcher_costs : (Nat → Nat → Int)) (v_matcher_gaps : (Nat → Int)) (v_matcher_isReached : (Nat → Int)) (v_matcher_mates : (Nat → Int)) (v_matcher_rowOf : (Nat → Int)) (v_matcher_rowPrices : (Nat → Int)) (v_places : (Nat → Int)) (v_row : (Nat → Int)) (v_sizes : (Nat → Int)) (v_worths : (Nat → Int)) : Option R_iChest_mateOf :=
  bd13 (iChest_matchAll N v_grain v_isMatched v_limit v_lost v_above v_fits v_goodWorths v_matcher_cameFrom v_matcher_columnPrices v_matcher_costs v_matcher_gaps v_matcher_isReached v_matcher_mates v_matcher_rowOf v_matcher_rowPrices v_places v_row v_sizes v_worths) fun v_isMatched_c1 v_above_c1 v_fits_c1 v_goodWorths_c1 v_matcher_cameFrom_c1 v_matcher_columnPrices_c1 v_matcher_costs_c1 v_matcher_gaps_c1 v_matcher_isReached_c1 v_matcher_mates_c1 v_matcher_rowOf_c1 v_matcher_rowPrices_c1 v_row_c1 =>
  bd1 (iMatcher_foilOf a1 v_matcher_mates_c1) fun rc2 =>
  some (rc2, v_isMatched_c1, v_above_c1, v_fits_c1, v_goodWorths_c1, v_matcher_cameFrom_c1, v_matcher_columnPrices_c1, v_matcher_costs_c1, v_matcher_gaps_c1, v_matcher_isReached_c1, v_matcher_mates_c1, v_matcher_rowOf_c1, v_matcher_rowPrices_c1, v_row_c1)
abbrev R_iChest_pairsMatched : Type := Int × Int × (Nat → Int) × (Nat → Int) × (Nat → Int) × (Nat → Int) × (Nat → Int) × (Nat → Nat → Int) × (Nat → Int) × (Nat → Int) × (Nat → Int) × (Nat → Int) × (Nat → Int) × (Nat → Int)
def iChest_pairsMatched_b8_F (N : Nat) (v_grain : Int) (v_limit : Int) (v_lost : Int) (v_places : (Nat → Int)) (v_sizes : (Nat → Int)) (v_worths : (Nat → Int)) (v_isMatched : Int) (v_above : (Nat → Int)) (v_fits : (Nat → Int)) (v_goodWorths : (Nat → Int)) (v_matcher_cameFrom : (Nat → Int)) (v_matcher_columnPrices : (Nat → Int)) (v_matcher_costs : (Nat → Nat → Int)) (v_matcher_gaps : (Nat → Int)) (v_matcher_isReached : (Nat → Int)) (v_matcher_mates : (Nat → Int)) (v_matcher_rowOf : (Nat → Int)) (v_matcher_rowPrices : (Nat → Int)) (v_row : (Nat → Int)) (self : Int → Int → Option R_iChest_pairsMatched) (x1 : Int) (x2 : Int) : Option R_iChest_pairsMatched :=
  if 10 ≤ x2 then
    some (x1, v_isMatched, v_above, v_fits, v_goodWorths, v_matcher_cameFrom, v_matcher_columnPrices, v_matcher_costs, v_matcher_gaps, v_matcher_isReached, v_matcher_mates, v_matcher_rowOf, v_matcher_rowPrices, v_row)
  else
    bd1 (iMatcher_foilOf x2 v_matcher_mates) fun rc2 =>
    if rc2 = (-1) then
      gd (jr (x1 + 0)) <|
      gd (jr (x2 + 1)) <|
      self (x1 + 0) (x2 + 1)
    else
      gd (jr (x1 + 1)) <|
      gd (jr (x2 + 1)) <|
      self (x1 + 1) (x2 + 1)
def iChest_pairsMatched_b8 (N : Nat) (v_grain : Int) (v_limit : Int) (v_lost : Int) (v_places : (Nat → Int)) (v_sizes : (Nat → Int)) (v_worths : (Nat → Int)) (v_isMatched : Int) (v_above : (Nat → Int)) (v_fits : (Nat → Int)) (v_goodWorths : (Nat → Int)) (v_matcher_cameFrom : (Nat → Int)) (v_matcher_columnPrices : (Nat → Int)) (v_matcher_costs : (Nat → Nat → Int)) (v_matcher_gaps : (Nat → Int)) (v_matcher_isReached : (Nat → Int)) (v_matcher_mates : (Nat → Int)) (v_matcher_rowOf : (Nat → Int)) (v_matcher_rowPrices : (Nat → Int)) (v_row : (Nat → Int)) : Nat → Int → Int → Option R_iChest_pairsMatched := zlp2 (iChest_pairsMatched_b8_F N v_grain v_limit v_lost v_places v_sizes v_worths v_isMatched v_above v_fits v_goodWorths v_matcher_cameFrom v_matcher_columnPrices v_matcher_costs v_matcher_gaps v_matcher_isReached v_matcher_mates v_matcher_rowOf v_matcher_rowPrices v_row)
def iChest_pairsMatched (N : Nat) (v_grain : Int) (v_isMatched : Int) (v_limit : Int) (v_lost : Int) (v_above : (Nat → Int)) (v_fits : (Nat → Int)) (v_goodWorths : (Nat → Int)) (v_matcher_cameFrom : (Nat → Int)) (v_matcher_columnPrices : (Nat → Int)) (v_matcher_costs : (Nat → Nat → Int)) (v_matcher_gaps : (Nat → Int)) (v_matcher_isReached : (Nat → Int)) (v_matcher_mates : (Nat → Int)) (v_matcher_rowOf : (Nat → Int)) (v_matcher_rowPrices : (Nat → Int)) (v_places : (Nat → Int)) (v_row : (Nat → Int)) (v_sizes : (Nat → Int)) (v_worths : (Nat → Int)) : Option R_iChest_pairsMatched :=
  bd13 (iChest_matchAll N v_grain v_isMatched v_limit v_lost v_above v_fits v_goodWorths v_matcher_cameFrom v_matcher_columnPrices v_matcher_costs v_matcher_gaps v_matcher_isReached v_matcher_mates v_matcher_rowOf v_matcher_rowPrices v_places v_row v_sizes v_worths) fun v_isMatched_c1 v_above_c1 v_fits_c1 v_goodWorths_c1 v_matcher_cameFrom_c1 v_matcher_columnPrices_c1 v_matcher_costs_c1 v_matcher_gaps_c1 v_matcher_isReached_c1 v_matcher_mates_c1 v_matcher_rowOf_c1 v_matcher_rowPrices_c1 v_row_c1 =>
  iChest_pairsMatched_b8 N v_grain v_limit v_lost v_places v_sizes v_worths v_isMatched_c1 v_above_c1 v_fits_c1 v_goodWorths_c1 v_matcher_cameFrom_c1 v_matcher_columnPrices_c1 v_matcher_costs_c1 v_matcher_gaps_c1 v_matcher_isReached_c1 v_matcher_mates_c1 v_matcher_rowOf_c1 v_matcher_rowPrices_c1 v_row_c1 N 0 0
abbrev R_iChest_fitMatched : Type := Int × Int × (Nat → Int) × (Nat → Int) × (Nat → Int) × (Nat → Int) × (Nat → Int) × (Nat → Nat → Int) × (Nat → Int) × (Nat → Int) × (Nat → Int) × (Nat → Int) × (Nat → Int) × (Nat → Int)
def iChest_fitMatched_b8_F (N : Nat) (v_grain : Int) (v_limit : Int) (v_lost : Int) (v_places : (Nat → Int)) (v_sizes : (Nat → Int)) (v_worths : (Nat → Int)) (v_isMatched : Int) (v_goodWorths : (Nat → Int)) (v_matcher_cameFrom : (Nat → Int)) (v_matcher_columnPrices : (Nat → Int)) (v_matcher_costs : (Nat → Nat → Int)) (v_matcher_gaps : (Nat → Int)) (v_matcher_isReached : (Nat → Int)) (v_matcher_mates : (Nat → Int)) (v_matcher_rowOf : (Nat → Int)) (v_matcher_rowPrices : (Nat → Int)) (self : Int → Int → (Nat → Int) → (Nat → Int) → (Nat → Int) → Option R_iChest_fitMatched) (x1 : Int) (x2 : Int) (v_above : (Nat → Int)) (v_fits : (Nat → Int)) (v_row : (Nat → Int)) : Option R_iChest_fitMatched :=
  if 10 ≤ x2 then
    some (x1, v_isMatched, v_above, v_fits, v_goodWorths, v_matcher_cameFrom, v_matcher_columnPrices, v_matcher_costs, v_matcher_gaps, v_matcher_isReached, v_matcher_mates, v_matcher_rowOf, v_matcher_rowPrices, v_row)
  else
    bd1 (iMatcher_foilOf x2 v_matcher_mates) fun rc2 =>
    if rc2 = (-1) then
      gd (jr (x1 + 0)) <|
      gd (jr (x2 + 1)) <|
      self (x1 + 0) (x2 + 1) v_above v_fits v_row
    else
      bd4 (iChest_fitOf N x2 rc2 v_grain v_lost v_above v_fits v_places v_row v_sizes v_worths) fun rc3 v_above_c3 v_fits_c3 v_row_c3 =>
      gd (jr (x1 + rc3)) <|
      gd (jr (x2 + 1)) <|
      self (x1 + rc3) (x2 + 1) v_above_c3 v_fits_c3 v_row_c3
def iChest_fitMatched_b8 (N : Nat) (v_grain : Int) (v_limit : Int) (v_lost : Int) (v_places : (Nat → Int)) (v_sizes : (Nat → Int)) (v_worths : (Nat → Int)) (v_isMatched : Int) (v_goodWorths : (Nat → Int)) (v_matcher_cameFrom : (Nat → Int)) (v_matcher_columnPrices : (Nat → Int)) (v_matcher_costs : (Nat → Nat → Int)) (v_matcher_gaps : (Nat → Int)) (v_matcher_isReached : (Nat → Int)) (v_matcher_mates : (Nat → Int)) (v_matcher_rowOf : (Nat → Int)) (v_matcher_rowPrices : (Nat → Int)) : Nat → Int → Int → (Nat → Int) → (Nat → Int) → (Nat → Int) → Option R_iChest_fitMatched := zlp5 (iChest_fitMatched_b8_F N v_grain v_limit v_lost v_places v_sizes v_worths v_isMatched v_goodWorths v_matcher_cameFrom v_matcher_columnPrices v_matcher_costs v_matcher_gaps v_matcher_isReached v_matcher_mates v_matcher_rowOf v_matcher_rowPrices)
def iChest_fitMatched (N : Nat) (v_grain : Int) (v_isMatched : Int) (v_limit : Int) (v_lost : Int) (v_above : (Nat → Int)) (v_fits : (Nat → Int)) (v_goodWorths : (Nat → Int)) (v_matcher_cameFrom : (Nat → Int)) (v_matcher_columnPrices : (Nat → Int)) (v_matcher_costs : (Nat → Nat → Int)) (v_matcher_gaps : (Nat → Int)) (v_matcher_isReached : (Nat → Int)) (v_matcher_mates : (Nat → Int)) (v_matcher_rowOf : (Nat → Int)) (v_matcher_rowPrices : (Nat → Int)) (v_places : (Nat → Int)) (v_row : (Nat → Int)) (v_sizes : (Nat → Int)) (v_worths : (Nat → Int)) : Option R_iChest_fitMatched :=
  bd13 (iChest_matchAll N v_grain v_isMatched v_limit v_lost v_above v_fits v_goodWorths v_matcher_cameFrom v_matcher_columnPrices v_matcher_costs v_matcher_gaps v_matcher_isReached v_matcher_mates v_matcher_rowOf v_matcher_rowPrices v_places v_row v_sizes v_worths) fun v_isMatched_c1 v_above_c1 v_fits_c1 v_goodWorths_c1 v_matcher_cameFrom_c1 v_matcher_columnPrices_c1 v_matcher_costs_c1 v_matcher_gaps_c1 v_matcher_isReached_c1 v_matcher_mates_c1 v_matcher_rowOf_c1 v_matcher_rowPrices_c1 v_row_c1 =>
  iChest_fitMatched_b8 N v_grain v_limit v_lost v_places v_sizes v_worths v_isMatched_c1 v_goodWorths_c1 v_matcher_cameFrom_c1 v_matcher_columnPrices_c1 v_matcher_costs_c1 v_matcher_gaps_c1 v_matcher_isReached_c1 v_matcher_mates_c1 v_matcher_rowOf_c1 v_matcher_rowPrices_c1 N 0 0 v_above_c1 v_fits_c1 v_row_c1
def iChest_changeCount (v_changes : Int) : Option Int :=
  some v_changes
def iChest_goodWorth (a1 : Int) (v_goodWorths : (Nat → Int)) : Option Int :=
  bd1 (iK_isStick a1) fun rc1 =>
  if rc1 = 0 then
    some 0
  else
    gd (jb a1 10) <|
    some (v_goodWorths a1.toNat)
def iChest_halvesFrom_b4_F (N : Nat) (a1 : Int) (v_sizes : (Nat → Int)) (self : Int → Int → Option Int) (x2 : Int) (x3 : Int) : Option Int :=
  gd (jr (a1 + 10)) <|
  if a1 + 10 ≤ x3 then
    some x2
  else
    bd1 (iChest_isThere x3 v_sizes) fun rc1 =>
    if rc1 = 0 then
      gd (jr (x2 + 0)) <|
      gd (jr (x3 + 1)) <|
      self (x2 + 0) (x3 + 1)
    else
      gd (jr (x2 + 1)) <|
      gd (jr (x3 + 1)) <|
      self (x2 + 1) (x3 + 1)
def iChest_halvesFrom_b4 (N : Nat) (a1 : Int) (v_sizes : (Nat → Int)) : Nat → Int → Int → Option Int := zlp2 (iChest_halvesFrom_b4_F N a1 v_sizes)
def iChest_halvesFrom (N : Nat) (a1 : Int) (v_sizes : (Nat → Int)) : Option Int :=
  iChest_halvesFrom_b4 N a1 v_sizes N 0 a1
def iStatement_init (t0 : Nat) : Option Unit :=
  some ()
def iWrit_init (t0 : Nat) (a2 : Int) (a4 : Int) (v_a1 : (Nat → Option Nat)) (v_a3 : (Nat → Int)) (v_D : DynI) : Option DynI :=
  gd (jb a2 25) <|
  bd1 (some v_D.1) fun y1 =>
  bd1 (jPR (jNewA v_D 2 a2.toNat) t0 1 0 (some y1)) fun v_D3 =>
  bd1 (jGR v_D3 t0 1 0) fun d4 =>
  bd1 (d4) fun y5 =>
  bd1 (jCopy v_D3 y5 v_a1 24 0 0 a2) fun v_D6 =>
  gd (jb a4 600) <|
  bd1 (some v_D6.1) fun y7 =>
  bd1 (jPR (jNewI v_D6 a4.toNat v_a3) t0 1 1 (some y7)) fun v_D9 =>
  some v_D9
