set_option maxHeartbeats 4000000
set_option maxRecDepth 100000
abbrev R_pJMath_floorDiv : Type := Int32
def pJMath_floorDiv (a0 : Int32) (a1 : Int32) : Option R_pJMath_floorDiv :=
  gd (!(a1 == 0)) <|
  if 0 ≤ (a0 ^^^ a1) then
    some (a0 / a1)
  else
    if ((a0 / a1) * a1) = a0 then
      some (a0 / a1)
    else
      some ((a0 / a1) - 1)
abbrev R_pK_isStick : Type := Int32
def pK_isStick (a0 : Int32) : Option R_pK_isStick :=
  if a0 < 0 then
    some 0
  else
    if 10 ≤ a0 then
      some 0
    else
      some 1
abbrev R_pK_half : Type := Int32
def pK_half (a0 : Int32) (a1 : Int32) : Option R_pK_half :=
  if a0 = 0 then
    some a1
  else
    some (10 + a1)
abbrev R_pK_isTerm : Type := Int32
def pK_isTerm (a0 : Int32) : Option R_pK_isTerm :=
  if a0 < 0 then
    some 0
  else
    if 40 ≤ a0 then
      some 0
    else
      some 1
abbrev R_pK_isShire : Type := Int32
def pK_isShire (a0 : Int32) : Option R_pK_isShire :=
  if a0 < 0 then
    some 0
  else
    if 8 ≤ a0 then
      some 0
    else
      some 1
abbrev R_pJMath_floorDivL : Type := Int64
def pJMath_floorDivL (a0 : Int64) (a2 : Int64) : Option R_pJMath_floorDivL :=
  gd (!(a2 == 0)) <|
  if 0 ≤ (lg_cmp (a0 ^^^ a2) 0) then
    some (a0 / a2)
  else
    if (lg_cmp ((a0 / a2) * a2) a0) = 0 then
      some (a0 / a2)
    else
      some ((a0 / a2) - 1)
abbrev R_pCounters_isPlace : Type := Int32
def pCounters_isPlace (a0 : Int32) : Option R_pCounters_isPlace :=
  if a0 < 0 then
    some 0
  else
    if 13 ≤ a0 then
      some 0
    else
      some 1
abbrev R_pCounters_set : Type := Int32 × (Nat → Int32)
def pCounters_set (a1 : Int32) (a2 : Int32) (v_lying : (Nat → Int32)) : Option R_pCounters_set :=
  bd1 (pCounters_isPlace a1) fun rc1 =>
  if rc1 = 0 then
    some (0, v_lying)
  else
    if a2 < 0 then
      some (0, v_lying)
    else
      if a2 ≤ 99 then
        gd (ib a1 13) <|
        some (1, (upd v_lying (ix a1) a2))
      else
        some (0, v_lying)
abbrev R_pCounters_countAt : Type := Int32
def pCounters_countAt (a1 : Int32) (v_lying : (Nat → Int32)) : Option R_pCounters_countAt :=
  bd1 (pCounters_isPlace a1) fun rc1 =>
  if rc1 = 0 then
    some (-1)
  else
    gd (ib a1 13) <|
    some (v_lying (ix a1))
abbrev R_pCounters_total : Type := Int64
def pCounters_total_b4_F (N : Nat) (v_lying : (Nat → Int32)) (self : Int64 → Int32 → Option R_pCounters_total) (x1 : Int64) (x3 : Int32) : Option R_pCounters_total :=
  if 13 ≤ x3 then
    some x1
  else
    gd (ib x3 13) <|
    self (x1 + ((i2l (v_lying (ix x3))) * (i2l (zc0.getD (ix x3) 0)))) (x3 + 1)
def pCounters_total_b4 (N : Nat) (v_lying : (Nat → Int32)) : Nat → Int64 → Int32 → Option R_pCounters_total := zlp2 (pCounters_total_b4_F N v_lying)
def pCounters_total (N : Nat) (v_lying : (Nat → Int32)) : Option R_pCounters_total :=
  pCounters_total_b4 N v_lying N 0 0
abbrev R_pCounters_tellPlain : Type := Int32 × (Nat → Int32)
def pCounters_tellPlain_b17_F (N : Nat) (a1 : Int32) (self : Int32 → Int32 → (Nat → Int32) → Option R_pCounters_tellPlain) (x2 : Int32) (x3 : Int32) (v_due : (Nat → Int32)) : Option R_pCounters_tellPlain :=
  if x3 < 0 then
    some (1, v_due)
  else
    gd (ib x3 13) <|
    gd (!((zc0.getD (ix x3) 0) == 0)) <|
    if ((upd v_due (ix x3) (x2 / (zc0.getD (ix x3) 0))) (ix x3)) ≤ 99 then
      self (x2 - x2 / (zc0.getD (ix x3) 0) * (zc0.getD (ix x3) 0)) (x3 + (-1)) (upd v_due (ix x3) (x2 / (zc0.getD (ix x3) 0)))
    else
      some (0, (upd v_due (ix x3) (x2 / (zc0.getD (ix x3) 0))))
def pCounters_tellPlain_b17 (N : Nat) (a1 : Int32) : Nat → Int32 → Int32 → (Nat → Int32) → Option R_pCounters_tellPlain := zlp3 (pCounters_tellPlain_b17_F N a1)
def pCounters_tellPlain (N : Nat) (a1 : Int32) (v_due : (Nat → Int32)) : Option R_pCounters_tellPlain :=
  if a1 < 0 then
    some (0, v_due)
  else
    if a1 ≤ 1000000000 then
      pCounters_tellPlain_b17 N a1 N a1 12 v_due
    else
      some (0, v_due)
abbrev R_pCounters_plainAt : Type := Int32 × (Nat → Int32)
def pCounters_plainAt (N : Nat) (a1 : Int32) (a2 : Int32) (v_due : (Nat → Int32)) : Option R_pCounters_plainAt :=
  bd1 (pCounters_isPlace a2) fun rc1 =>
  if rc1 = 0 then
    some ((-1), v_due)
  else
    bd2 (pCounters_tellPlain N a1 v_due) fun rc2 v_due_c2 =>
    if rc2 = 0 then
      some ((-1), v_due_c2)
    else
      gd (ib a2 13) <|
      some ((v_due_c2 (ix a2)), v_due_c2)
abbrev R_pCounters_changeUpward : Type := Int32 × (Nat → Int32)
def pCounters_changeUpward_b4_F (N : Nat) (self : Int32 → Int32 → (Nat → Int32) → Option R_pCounters_changeUpward) (x1 : Int32) (x2 : Int32) (v_trial : (Nat → Int32)) : Option R_pCounters_changeUpward :=
  if 12 ≤ x2 then
    some (x1, v_trial)
  else
    gd (ib x2 13) <|
    gd (ib x2 12) <|
    gd (!((zc1.getD (ix x2) 0) == 0)) <|
    gd (ib (x2 + 1) 13) <|
    if ((upd (upd v_trial (ix x2) ((v_trial (ix x2)) - (((v_trial (ix x2)) / (zc1.getD (ix x2) 0)) * (zc1.getD (ix x2) 0)))) (ix (x2 + 1)) (((upd v_trial (ix x2) ((v_trial (ix x2)) - (((v_trial (ix x2)) / (zc1.getD (ix x2) 0)) * (zc1.getD (ix x2) 0)))) (ix (x2 + 1))) + ((v_trial (ix x2)) / (zc1.getD (ix x2) 0)))) (ix (x2 + 1))) ≤ 99 then
      self (x1 + ((v_trial (ix x2)) / (zc1.getD (ix x2) 0))) (x2 + 1) (upd (upd v_trial (ix x2) ((v_trial (ix x2)) - (((v_trial (ix x2)) / (zc1.getD (ix x2) 0)) * (zc1.getD (ix x2) 0)))) (ix (x2 + 1)) (((upd v_trial (ix x2) ((v_trial (ix x2)) - (((v_trial (ix x2)) / (zc1.getD (ix x2) 0)) * (zc1.getD (ix x2) 0)))) (ix (x2 + 1))) + ((v_trial (ix x2)) / (zc1.getD (ix x2) 0))))
    else
      some ((-1), (upd (upd v_trial (ix x2) ((v_trial (ix x2)) - (((v_trial (ix x2)) / (zc1.getD (ix x2) 0)) * (zc1.getD (ix x2) 0)))) (ix (x2 + 1)) (((upd v_trial (ix x2) ((v_trial (ix x2)) - (((v_trial (ix x2)) / (zc1.getD (ix x2) 0)) * (zc1.getD (ix x2) 0)))) (ix (x2 + 1))) + ((v_trial (ix x2)) / (zc1.getD (ix x2) 0)))))
def pCounters_changeUpward_b4 (N : Nat) : Nat → Int32 → Int32 → (Nat → Int32) → Option R_pCounters_changeUpward := zlp3 (pCounters_changeUpward_b4_F N)
def pCounters_changeUpward (N : Nat) (v_trial : (Nat → Int32)) : Option R_pCounters_changeUpward :=
  pCounters_changeUpward_b4 N N 0 0 v_trial
abbrev R_pCounters_add : Type := Int32 × (Nat → Int32) × (Nat → Int32) × (Nat → Int32)
def pCounters_add_b12_F (N : Nat) (a1 : Int32) (v_due : (Nat → Int32)) (v_lying : (Nat → Int32)) (k56 : (Nat → Int32) → Option R_pCounters_add) (self : Int32 → (Nat → Int32) → Option R_pCounters_add) (x2 : Int32) (v_trial : (Nat → Int32)) : Option R_pCounters_add :=
  if 13 ≤ x2 then
    k56 v_trial
  else
    gd (ib x2 13) <|
    if ((upd v_trial (ix x2) ((v_lying (ix x2)) + (v_due (ix x2)))) (ix x2)) ≤ 99 then
      self (x2 + 1) (upd v_trial (ix x2) ((v_lying (ix x2)) + (v_due (ix x2))))
    else
      some ((-1), v_due, v_lying, (upd v_trial (ix x2) ((v_lying (ix x2)) + (v_due (ix x2)))))
def pCounters_add_b12 (N : Nat) (a1 : Int32) (v_due : (Nat → Int32)) (v_lying : (Nat → Int32)) (k56 : (Nat → Int32) → Option R_pCounters_add) : Nat → Int32 → (Nat → Int32) → Option R_pCounters_add := zlp2 (pCounters_add_b12_F N a1 v_due v_lying k56)
def pCounters_add_b56 (N : Nat) (a1 : Int32) (v_due : (Nat → Int32)) (v_lying : (Nat → Int32)) (v_trial : (Nat → Int32)) : Option R_pCounters_add :=
  bd2 (pCounters_changeUpward N v_trial) fun rc3 v_trial_c3 =>
  if rc3 = (-1) then
    some (rc3, v_due, v_lying, v_trial_c3)
  else
    some (rc3, v_due, (va_cpy v_trial_c3 v_lying (ix 0) (ix 0) (ix 13)), v_trial_c3)
def pCounters_add (N : Nat) (a1 : Int32) (v_due : (Nat → Int32)) (v_lying : (Nat → Int32)) (v_trial : (Nat → Int32)) : Option R_pCounters_add :=
  bd2 (pCounters_tellPlain N a1 v_due) fun rc1 v_due_c1 =>
  if rc1 = 0 then
    some ((-1), v_due_c1, v_lying, v_trial)
  else
    pCounters_add_b12 N a1 v_due_c1 v_lying (pCounters_add_b56 N a1 v_due_c1 v_lying) N 0 v_trial
abbrev R_pCounters_breakInto : Type := Int32 × (Nat → Int32)
def pCounters_breakInto_b4_F (N : Nat) (a1 : Int32) (v_trial : (Nat → Int32)) (k25 : Int32 → Option R_pCounters_breakInto) (self : Int32 → Option R_pCounters_breakInto) (x2 : Int32) : Option R_pCounters_breakInto :=
  if 13 ≤ x2 then
    k25 x2
  else
    gd (ib x2 13) <|
    if (v_trial (ix x2)) = 0 then
      self (x2 + 1)
    else
      k25 x2
def pCounters_breakInto_b4 (N : Nat) (a1 : Int32) (v_trial : (Nat → Int32)) (k25 : Int32 → Option R_pCounters_breakInto) : Nat → Int32 → Option R_pCounters_breakInto := zlp1 (pCounters_breakInto_b4_F N a1 v_trial k25)
def pCounters_breakInto_b35_F (N : Nat) (a1 : Int32) (x2 : Int32) (self : Int32 → (Nat → Int32) → Option R_pCounters_breakInto) (x3 : Int32) (v_trial : (Nat → Int32)) : Option R_pCounters_breakInto :=
  if x3 ≤ a1 then
    some ((x2 - a1), v_trial)
  else
    gd (ib x3 13) <|
    gd (ib (x3 - 1) 13) <|
    gd (ib (x3 - 1) 12) <|
    self (x3 + (-1)) (upd (upd v_trial (ix x3) ((v_trial (ix x3)) - 1)) (ix (x3 - 1)) (((upd v_trial (ix x3) ((v_trial (ix x3)) - 1)) (ix (x3 - 1))) + (zc1.getD (ix (x3 - 1)) 0)))
def pCounters_breakInto_b35 (N : Nat) (a1 : Int32) (x2 : Int32) : Nat → Int32 → (Nat → Int32) → Option R_pCounters_breakInto := zlp2 (pCounters_breakInto_b35_F N a1 x2)
def pCounters_breakInto_b25 (N : Nat) (a1 : Int32) (x2 : Int32) (v_trial : (Nat → Int32)) : Option R_pCounters_breakInto :=
  if x2 < 13 then
    pCounters_breakInto_b35 N a1 x2 N x2 v_trial
  else
    some (0, v_trial)
def pCounters_breakInto (N : Nat) (a1 : Int32) (v_trial : (Nat → Int32)) : Option R_pCounters_breakInto :=
  pCounters_breakInto_b4 N a1 v_trial (fun x2_k1 => pCounters_breakInto_b25 N a1 x2_k1 v_trial) N (a1 + 1)
abbrev R_pCounters_take : Type := Int32 × (Nat → Int32) × (Nat → Int32) × (Nat → Int32)
def pCounters_take_b38_F (N : Nat) (a1 : Int32) (x3 : Int32) (v_due : (Nat → Int32)) (v_lying : (Nat → Int32)) (k74 : Int32 → (Nat → Int32) → Option R_pCounters_take) (self : Int32 → Int32 → (Nat → Int32) → Option R_pCounters_take) (x2 : Int32) (x4 : Int32) (v_trial : (Nat → Int32)) : Option R_pCounters_take :=
  if 99 ≤ x4 then
    k74 x2 v_trial
  else
    gd (ib x3 13) <|
    if (v_due (ix x3)) ≤ (v_trial (ix x3)) then
      k74 x2 v_trial
    else
      bd2 (pCounters_breakInto N x3 v_trial) fun rc3 v_trial_c3 =>
      self (x2 + rc3) (x4 + 1) v_trial_c3
def pCounters_take_b38 (N : Nat) (a1 : Int32) (x3 : Int32) (v_due : (Nat → Int32)) (v_lying : (Nat → Int32)) (k74 : Int32 → (Nat → Int32) → Option R_pCounters_take) : Nat → Int32 → Int32 → (Nat → Int32) → Option R_pCounters_take := zlp3 (pCounters_take_b38_F N a1 x3 v_due v_lying k74)
def pCounters_take_b74 (N : Nat) (a1 : Int32) (self : Int32 → Int32 → (Nat → Int32) → Option R_pCounters_take) (k112 : Int32 → (Nat → Int32) → Option R_pCounters_take) (x2 : Int32) (x3 : Int32) (v_due : (Nat → Int32)) (v_lying : (Nat → Int32)) (v_trial : (Nat → Int32)) : Option R_pCounters_take :=
  gd (ib x3 13) <|
  if (v_due (ix x3)) ≤ (v_trial (ix x3)) then
    self x2 (x3 + 1) (upd v_trial (ix x3) ((v_trial (ix x3)) - (v_due (ix x3))))
  else
    some ((-1), v_due, v_lying, v_trial)
def pCounters_take_b29_F (N : Nat) (a1 : Int32) (v_due : (Nat → Int32)) (v_lying : (Nat → Int32)) (k112 : Int32 → (Nat → Int32) → Option R_pCounters_take) (self : Int32 → Int32 → (Nat → Int32) → Option R_pCounters_take) (x2 : Int32) (x3 : Int32) (v_trial : (Nat → Int32)) : Option R_pCounters_take :=
  if 13 ≤ x3 then
    k112 x2 v_trial
  else
    pCounters_take_b38 N a1 x3 v_due v_lying (fun x2_k1 => pCounters_take_b74 N a1 self k112 x2_k1 x3 v_due v_lying) N x2 0 v_trial
def pCounters_take_b29 (N : Nat) (a1 : Int32) (v_due : (Nat → Int32)) (v_lying : (Nat → Int32)) (k112 : Int32 → (Nat → Int32) → Option R_pCounters_take) : Nat → Int32 → Int32 → (Nat → Int32) → Option R_pCounters_take := zlp3 (pCounters_take_b29_F N a1 v_due v_lying k112)
def pCounters_take_b112 (N : Nat) (a1 : Int32) (x2 : Int32) (v_due : (Nat → Int32)) (v_lying : (Nat → Int32)) (v_trial : (Nat → Int32)) : Option R_pCounters_take :=
  some (x2, v_due, (va_cpy v_trial v_lying (ix 0) (ix 0) (ix 13)), v_trial)
def pCounters_take (N : Nat) (a1 : Int32) (v_due : (Nat → Int32)) (v_lying : (Nat → Int32)) (v_trial : (Nat → Int32)) : Option R_pCounters_take :=
  bd2 (pCounters_tellPlain N a1 v_due) fun rc1 v_due_c1 =>
  if rc1 = 0 then
    some ((-1), v_due_c1, v_lying, v_trial)
  else
    pCounters_take_b29 N a1 v_due_c1 v_lying (fun x2_k3 => pCounters_take_b112 N a1 x2_k3 v_due_c1 v_lying) N 0 0 (va_cpy v_lying v_trial (ix 0) (ix 0) (ix 13))
abbrev R_pCounters_cheaper : Type := Int32
def pCounters_cheaper (a0 : Int32) (a1 : Int32) (a2 : Int32) (a3 : Int32) : Option R_pCounters_cheaper :=
  some (m_min (a0 + (m_abs a1)) (a2 + (m_abs a3)))
abbrev R_pCounters_fewestSteps : Type := Int32 × (Nat → Int32)
def pCounters_fewestSteps_b21_F (N : Nat) (a1 : Int32) (v_lying : (Nat → Int32)) (v_due : (Nat → Int32)) (k141 : Int32 → Int32 → Int32 → Option R_pCounters_fewestSteps) (self : Int32 → Int32 → Int32 → Int32 → Option R_pCounters_fewestSteps) (x2 : Int32) (x3 : Int32) (x4 : Int32) (x5 : Int32) : Option R_pCounters_fewestSteps :=
  if 12 ≤ x5 then
    k141 x2 x3 x4
  else
    gd (ib x5 13) <|
    gd (ib x5 12) <|
    bd1 (pJMath_floorDiv (x2 - ((v_due (ix x5)) - (v_lying (ix x5)))) (zc1.getD (ix x5) 0)) fun rc4 =>
    bd1 (pCounters_cheaper x3 ((((v_due (ix x5)) - (v_lying (ix x5))) + ((zc1.getD (ix x5) 0) * rc4)) - x2) x4 (((((v_due (ix x5)) - (v_lying (ix x5))) + ((zc1.getD (ix x5) 0) * rc4)) - x2) - 1)) fun rc5 =>
    bd1 (pCounters_cheaper x3 (((((v_due (ix x5)) - (v_lying (ix x5))) + ((zc1.getD (ix x5) 0) * rc4)) - x2) + (zc1.getD (ix x5) 0)) x4 ((((((v_due (ix x5)) - (v_lying (ix x5))) + ((zc1.getD (ix x5) 0) * rc4)) - x2) + (zc1.getD (ix x5) 0)) - 1)) fun rc6 =>
    self rc4 (rc5 + (m_abs rc4)) (rc6 + (m_abs (rc4 + 1))) (x5 + 1)
def pCounters_fewestSteps_b21 (N : Nat) (a1 : Int32) (v_lying : (Nat → Int32)) (v_due : (Nat → Int32)) (k141 : Int32 → Int32 → Int32 → Option R_pCounters_fewestSteps) : Nat → Int32 → Int32 → Int32 → Int32 → Option R_pCounters_fewestSteps := zlp4 (pCounters_fewestSteps_b21_F N a1 v_lying v_due k141)
def pCounters_fewestSteps_b141 (N : Nat) (a1 : Int32) (v_lying : (Nat → Int32)) (x2 : Int32) (x3 : Int32) (x4 : Int32) (v_due : (Nat → Int32)) : Option R_pCounters_fewestSteps :=
  bd1 (pCounters_cheaper x3 (((v_due (ix 12)) - (v_lying (ix 12))) - x2) x4 ((((v_due (ix 12)) - (v_lying (ix 12))) - x2) - 1)) fun rc7 =>
  some (rc7, v_due)
def pCounters_fewestSteps (N : Nat) (a1 : Int32) (v_due : (Nat → Int32)) (v_lying : (Nat → Int32)) : Option R_pCounters_fewestSteps :=
  bd2 (pCounters_tellPlain N a1 v_due) fun rc1 v_due_c1 =>
  if rc1 = 0 then
    some ((-1), v_due_c1)
  else
    pCounters_fewestSteps_b21 N a1 v_lying v_due_c1 (fun x2_k1 x3_k2 x4_k3 => pCounters_fewestSteps_b141 N a1 v_lying x2_k1 x3_k2 x4_k3 v_due_c1) N 0 0 1000000000 0
abbrev R_pMatcher_begin : Type := (Nat → Int64) × (Nat → Nat → Int64) × (Nat → Int32) × (Nat → Int64)
def pMatcher_begin_b2_F (N : Nat) (v_columnPrices : (Nat → Int64)) (v_rowOf : (Nat → Int32)) (v_rowPrices : (Nat → Int64)) (k24 : (Nat → Nat → Int64) → Option R_pMatcher_begin) (self : Int32 → (Nat → Nat → Int64) → Option R_pMatcher_begin) (x1 : Int32) (v_costs : (Nat → Nat → Int64)) : Option R_pMatcher_begin :=
  if 10 < x1 then
    k24 v_costs
  else
    gd (ib x1 11) <|
    self (x1 + 1) (upF v_costs (ix x1) (fun _ => 0))
def pMatcher_begin_b2 (N : Nat) (v_columnPrices : (Nat → Int64)) (v_rowOf : (Nat → Int32)) (v_rowPrices : (Nat → Int64)) (k24 : (Nat → Nat → Int64) → Option R_pMatcher_begin) : Nat → Int32 → (Nat → Nat → Int64) → Option R_pMatcher_begin := zlp2 (pMatcher_begin_b2_F N v_columnPrices v_rowOf v_rowPrices k24)
def pMatcher_begin_b24 (N : Nat) (v_columnPrices : (Nat → Int64)) (v_costs : (Nat → Nat → Int64)) (v_rowOf : (Nat → Int32)) (v_rowPrices : (Nat → Int64)) : Option R_pMatcher_begin :=
  some ((fun _ => 0), v_costs, (fun _ => 0), (fun _ => 0))
def pMatcher_begin (N : Nat) (v_columnPrices : (Nat → Int64)) (v_costs : (Nat → Nat → Int64)) (v_rowOf : (Nat → Int32)) (v_rowPrices : (Nat → Int64)) : Option R_pMatcher_begin :=
  pMatcher_begin_b2 N v_columnPrices v_rowOf v_rowPrices (fun v_costs_k1 => pMatcher_begin_b24 N v_columnPrices v_costs_k1 v_rowOf v_rowPrices) N 0 v_costs
abbrev R_pMatcher_allow : Type := (Nat → Nat → Int64)
def pMatcher_allow_b27_F (N : Nat) (a1 : Int32) (a2 : Int32) (a3 : Int32) (v_costs : (Nat → Nat → Int64)) (self : Int64 → Int32 → Option R_pMatcher_allow) (x4 : Int64) (x6 : Int32) : Option R_pMatcher_allow :=
  if 10 ≤ x6 then
    gd (ib (a1 + 1) 11) <|
    gd (ib (a2 + 1) 21) <|
    some (upG v_costs (ix (a1 + 1)) (ix (a2 + 1)) ((((i2l a3) * 25937424601) - 129738997854202) + x4))
  else
    self (x4 * 11) (x6 + 1)
def pMatcher_allow_b27 (N : Nat) (a1 : Int32) (a2 : Int32) (a3 : Int32) (v_costs : (Nat → Nat → Int64)) : Nat → Int64 → Int32 → Option R_pMatcher_allow := zlp2 (pMatcher_allow_b27_F N a1 a2 a3 v_costs)
def pMatcher_allow (N : Nat) (a1 : Int32) (a2 : Int32) (a3 : Int32) (v_costs : (Nat → Nat → Int64)) : Option R_pMatcher_allow :=
  bd1 (pK_isStick a1) fun rc1 =>
  if rc1 = 0 then
    some v_costs
  else
    bd1 (pK_isStick a2) fun rc2 =>
    if rc2 = 0 then
      some v_costs
    else
      pMatcher_allow_b27 N a1 a2 a3 v_costs N (i2l (a2 - 10)) (a1 + 1)
abbrev R_pMatcher_lookFrom : Type := Int32 × (Nat → Int32) × (Nat → Int64)
def pMatcher_lookFrom_b90 (N : Nat) (a1 : Int32) (v_columnPrices : (Nat → Int64)) (v_costs : (Nat → Nat → Int64)) (v_isReached : (Nat → Int32)) (v_rowOf : (Nat → Int32)) (v_rowPrices : (Nat → Int64)) (self : Int32 → Int64 → Int32 → (Nat → Int32) → (Nat → Int64) → Option R_pMatcher_lookFrom) (x2 : Int32) (x3 : Int32) (x4 : Int64) (x6 : Int32) (v_cameFrom : (Nat → Int32)) (v_gaps : (Nat → Int64)) : Option R_pMatcher_lookFrom :=
  gd (ib x6 21) <|
  if 0 ≤ (lg_cmp (v_gaps (ix x6)) x4) then
    self x3 x4 (x6 + 1) v_cameFrom v_gaps
  else
    self x6 (v_gaps (ix x6)) (x6 + 1) v_cameFrom v_gaps
def pMatcher_lookFrom_b17_F (N : Nat) (a1 : Int32) (v_columnPrices : (Nat → Int64)) (v_costs : (Nat → Nat → Int64)) (v_isReached : (Nat → Int32)) (v_rowOf : (Nat → Int32)) (v_rowPrices : (Nat → Int64)) (x2 : Int32) (self : Int32 → Int64 → Int32 → (Nat → Int32) → (Nat → Int64) → Option R_pMatcher_lookFrom) (x3 : Int32) (x4 : Int64) (x6 : Int32) (v_cameFrom : (Nat → Int32)) (v_gaps : (Nat → Int64)) : Option R_pMatcher_lookFrom :=
  if 20 < x6 then
    some (x3, v_cameFrom, v_gaps)
  else
    gd (ib x6 21) <|
    if (v_isReached (ix x6)) = 0 then
      gd (ib x2 11) <|
      if 0 ≤ (lg_cmp (((v_costs (ix x2) (ix x6)) - (v_rowPrices (ix x2))) - (v_columnPrices (ix x6))) (v_gaps (ix x6))) then
        pMatcher_lookFrom_b90 N a1 v_columnPrices v_costs v_isReached v_rowOf v_rowPrices self x2 x3 x4 x6 v_cameFrom v_gaps
      else
        pMatcher_lookFrom_b90 N a1 v_columnPrices v_costs v_isReached v_rowOf v_rowPrices self x2 x3 x4 x6 (upd v_cameFrom (ix x6) a1) (vp_updL v_gaps (ix x6) (((v_costs (ix x2) (ix x6)) - (v_rowPrices (ix x2))) - (v_columnPrices (ix x6))))
    else
      self x3 x4 (x6 + 1) v_cameFrom v_gaps
def pMatcher_lookFrom_b17 (N : Nat) (a1 : Int32) (v_columnPrices : (Nat → Int64)) (v_costs : (Nat → Nat → Int64)) (v_isReached : (Nat → Int32)) (v_rowOf : (Nat → Int32)) (v_rowPrices : (Nat → Int64)) (x2 : Int32) : Nat → Int32 → Int64 → Int32 → (Nat → Int32) → (Nat → Int64) → Option R_pMatcher_lookFrom := zlp5 (pMatcher_lookFrom_b17_F N a1 v_columnPrices v_costs v_isReached v_rowOf v_rowPrices x2)
def pMatcher_lookFrom (N : Nat) (a1 : Int32) (v_cameFrom : (Nat → Int32)) (v_columnPrices : (Nat → Int64)) (v_costs : (Nat → Nat → Int64)) (v_gaps : (Nat → Int64)) (v_isReached : (Nat → Int32)) (v_rowOf : (Nat → Int32)) (v_rowPrices : (Nat → Int64)) : Option R_pMatcher_lookFrom :=
  gd (ib a1 21) <|
  pMatcher_lookFrom_b17 N a1 v_columnPrices v_costs v_isReached v_rowOf v_rowPrices (v_rowOf (ix a1)) N 0 1152921504606846976 1 v_cameFrom v_gaps
abbrev R_pMatcher_shiftPrices : Type := (Nat → Int64) × (Nat → Int64) × (Nat → Int64)
def pMatcher_shiftPrices_b2_F (N : Nat) (a1 : Int64) (v_isReached : (Nat → Int32)) (v_rowOf : (Nat → Int32)) (self : Int32 → (Nat → Int64) → (Nat → Int64) → (Nat → Int64) → Option R_pMatcher_shiftPrices) (x3 : Int32) (v_columnPrices : (Nat → Int64)) (v_gaps : (Nat → Int64)) (v_rowPrices : (Nat → Int64)) : Option R_pMatcher_shiftPrices :=
  if 20 < x3 then
    some (v_columnPrices, v_gaps, v_rowPrices)
  else
    gd (ib x3 21) <|
    if (v_isReached (ix x3)) = 0 then
      self (x3 + 1) v_columnPrices (vp_updL v_gaps (ix x3) ((v_gaps (ix x3)) - a1)) v_rowPrices
    else
      gd (ib (v_rowOf (ix x3)) 11) <|
      self (x3 + 1) (vp_updL v_columnPrices (ix x3) ((v_columnPrices (ix x3)) - a1)) v_gaps (vp_updL v_rowPrices (ix (v_rowOf (ix x3))) ((v_rowPrices (ix (v_rowOf (ix x3)))) + a1))
def pMatcher_shiftPrices_b2 (N : Nat) (a1 : Int64) (v_isReached : (Nat → Int32)) (v_rowOf : (Nat → Int32)) : Nat → Int32 → (Nat → Int64) → (Nat → Int64) → (Nat → Int64) → Option R_pMatcher_shiftPrices := zlp4 (pMatcher_shiftPrices_b2_F N a1 v_isReached v_rowOf)
def pMatcher_shiftPrices (N : Nat) (a1 : Int64) (v_columnPrices : (Nat → Int64)) (v_gaps : (Nat → Int64)) (v_isReached : (Nat → Int32)) (v_rowOf : (Nat → Int32)) (v_rowPrices : (Nat → Int64)) : Option R_pMatcher_shiftPrices :=
  pMatcher_shiftPrices_b2 N a1 v_isReached v_rowOf N 0 v_columnPrices v_gaps v_rowPrices
abbrev R_pMatcher_freeColumnFor : Type := Int32 × (Nat → Int32) × (Nat → Int64) × (Nat → Int64) × (Nat → Int32) × (Nat → Int32) × (Nat → Int64)
def pMatcher_freeColumnFor_b12_F (N : Nat) (a1 : Int32) (v_costs : (Nat → Nat → Int64)) (v_cameFrom : (Nat → Int32)) (v_columnPrices : (Nat → Int64)) (v_gaps : (Nat → Int64)) (v_rowOf : (Nat → Int32)) (v_rowPrices : (Nat → Int64)) (k31 : (Nat → Int32) → Option R_pMatcher_freeColumnFor) (self : Int32 → (Nat → Int32) → Option R_pMatcher_freeColumnFor) (x2 : Int32) (v_isReached : (Nat → Int32)) : Option R_pMatcher_freeColumnFor :=
  if 20 < x2 then
    k31 v_isReached
  else
    gd (ib x2 21) <|
    self (x2 + 1) (upd v_isReached (ix x2) 0)
def pMatcher_freeColumnFor_b12 (N : Nat) (a1 : Int32) (v_costs : (Nat → Nat → Int64)) (v_cameFrom : (Nat → Int32)) (v_columnPrices : (Nat → Int64)) (v_gaps : (Nat → Int64)) (v_rowOf : (Nat → Int32)) (v_rowPrices : (Nat → Int64)) (k31 : (Nat → Int32) → Option R_pMatcher_freeColumnFor) : Nat → Int32 → (Nat → Int32) → Option R_pMatcher_freeColumnFor := zlp2 (pMatcher_freeColumnFor_b12_F N a1 v_costs v_cameFrom v_columnPrices v_gaps v_rowOf v_rowPrices k31)
def pMatcher_freeColumnFor_b42_F (N : Nat) (a1 : Int32) (v_costs : (Nat → Nat → Int64)) (v_rowOf : (Nat → Int32)) (self : Int32 → Int32 → (Nat → Int32) → (Nat → Int64) → (Nat → Int64) → (Nat → Int32) → (Nat → Int64) → Option R_pMatcher_freeColumnFor) (x2 : Int32) (x3 : Int32) (v_cameFrom : (Nat → Int32)) (v_columnPrices : (Nat → Int64)) (v_gaps : (Nat → Int64)) (v_isReached : (Nat → Int32)) (v_rowPrices : (Nat → Int64)) : Option R_pMatcher_freeColumnFor :=
  if 20 < x3 then
    some (x2, v_cameFrom, v_columnPrices, v_gaps, v_isReached, v_rowOf, v_rowPrices)
  else
    gd (ib x2 21) <|
    if (v_rowOf (ix x2)) = 0 then
      some (x2, v_cameFrom, v_columnPrices, v_gaps, v_isReached, v_rowOf, v_rowPrices)
    else
      bd3 (pMatcher_lookFrom N x2 v_cameFrom v_columnPrices v_costs v_gaps (upd v_isReached (ix x2) 1) v_rowOf v_rowPrices) fun rc3 v_cameFrom_c3 v_gaps_c3 =>
      gd (ib rc3 21) <|
      bd3 (pMatcher_shiftPrices N (v_gaps_c3 (ix rc3)) v_columnPrices v_gaps_c3 (upd v_isReached (ix x2) 1) v_rowOf v_rowPrices) fun v_columnPrices_c5 v_gaps_c5 v_rowPrices_c5 =>
      self rc3 (x3 + 1) v_cameFrom_c3 v_columnPrices_c5 v_gaps_c5 (upd v_isReached (ix x2) 1) v_rowPrices_c5
def pMatcher_freeColumnFor_b42 (N : Nat) (a1 : Int32) (v_costs : (Nat → Nat → Int64)) (v_rowOf : (Nat → Int32)) : Nat → Int32 → Int32 → (Nat → Int32) → (Nat → Int64) → (Nat → Int64) → (Nat → Int32) → (Nat → Int64) → Option R_pMatcher_freeColumnFor := zlp7 (pMatcher_freeColumnFor_b42_F N a1 v_costs v_rowOf)
def pMatcher_freeColumnFor_b31 (N : Nat) (a1 : Int32) (v_costs : (Nat → Nat → Int64)) (v_cameFrom : (Nat → Int32)) (v_columnPrices : (Nat → Int64)) (v_gaps : (Nat → Int64)) (v_isReached : (Nat → Int32)) (v_rowOf : (Nat → Int32)) (v_rowPrices : (Nat → Int64)) : Option R_pMatcher_freeColumnFor :=
  pMatcher_freeColumnFor_b42 N a1 v_costs (upd v_rowOf (ix 0) a1) N 0 0 v_cameFrom v_columnPrices v_gaps v_isReached v_rowPrices
def pMatcher_freeColumnFor (N : Nat) (a1 : Int32) (v_cameFrom : (Nat → Int32)) (v_columnPrices : (Nat → Int64)) (v_costs : (Nat → Nat → Int64)) (v_gaps : (Nat → Int64)) (v_isReached : (Nat → Int32)) (v_rowOf : (Nat → Int32)) (v_rowPrices : (Nat → Int64)) : Option R_pMatcher_freeColumnFor :=
  pMatcher_freeColumnFor_b12 N a1 v_costs v_cameFrom v_columnPrices (fun _ => 1152921504606846976) v_rowOf v_rowPrices (fun v_isReached_k1 => pMatcher_freeColumnFor_b31 N a1 v_costs v_cameFrom v_columnPrices (fun _ => 1152921504606846976) v_isReached_k1 v_rowOf v_rowPrices) N 0 v_isReached
abbrev R_pMatcher_turnOver : Type := (Nat → Int32)
def pMatcher_turnOver_b4_F (N : Nat) (a1 : Int32) (v_cameFrom : (Nat → Int32)) (self : Int32 → Int32 → (Nat → Int32) → Option R_pMatcher_turnOver) (x2 : Int32) (x3 : Int32) (v_rowOf : (Nat → Int32)) : Option R_pMatcher_turnOver :=
  if 20 < x3 then
    some v_rowOf
  else
    if x2 = 0 then
      some v_rowOf
    else
      gd (ib x2 21) <|
      gd (ib (v_cameFrom (ix x2)) 21) <|
      self (v_cameFrom (ix x2)) (x3 + 1) (upd v_rowOf (ix x2) (v_rowOf (ix (v_cameFrom (ix x2)))))
def pMatcher_turnOver_b4 (N : Nat) (a1 : Int32) (v_cameFrom : (Nat → Int32)) : Nat → Int32 → Int32 → (Nat → Int32) → Option R_pMatcher_turnOver := zlp3 (pMatcher_turnOver_b4_F N a1 v_cameFrom)
def pMatcher_turnOver (N : Nat) (a1 : Int32) (v_cameFrom : (Nat → Int32)) (v_rowOf : (Nat → Int32)) : Option R_pMatcher_turnOver :=
  pMatcher_turnOver_b4 N a1 v_cameFrom N a1 0 v_rowOf
abbrev R_pMatcher_solve : Type := (Nat → Int32) × (Nat → Int64) × (Nat → Int64) × (Nat → Int32) × (Nat → Int32) × (Nat → Int32) × (Nat → Int64)
def pMatcher_solve_b2_F (N : Nat) (v_costs : (Nat → Nat → Int64)) (v_mates : (Nat → Int32)) (k23 : (Nat → Int32) → (Nat → Int64) → (Nat → Int64) → (Nat → Int32) → (Nat → Int32) → (Nat → Int64) → Option R_pMatcher_solve) (self : Int32 → (Nat → Int32) → (Nat → Int64) → (Nat → Int64) → (Nat → Int32) → (Nat → Int32) → (Nat → Int64) → Option R_pMatcher_solve) (x1 : Int32) (v_cameFrom : (Nat → Int32)) (v_columnPrices : (Nat → Int64)) (v_gaps : (Nat → Int64)) (v_isReached : (Nat → Int32)) (v_rowOf : (Nat → Int32)) (v_rowPrices : (Nat → Int64)) : Option R_pMatcher_solve :=
  if 10 < x1 then
    k23 v_cameFrom v_columnPrices v_gaps v_isReached v_rowOf v_rowPrices
  else
    bd7 (pMatcher_freeColumnFor N x1 v_cameFrom v_columnPrices v_costs v_gaps v_isReached v_rowOf v_rowPrices) fun rc1 v_cameFrom_c1 v_columnPrices_c1 v_gaps_c1 v_isReached_c1 v_rowOf_c1 v_rowPrices_c1 =>
    bd1 (pMatcher_turnOver N rc1 v_cameFrom_c1 v_rowOf_c1) fun v_rowOf_c2 =>
    self (x1 + 1) v_cameFrom_c1 v_columnPrices_c1 v_gaps_c1 v_isReached_c1 v_rowOf_c2 v_rowPrices_c1
def pMatcher_solve_b2 (N : Nat) (v_costs : (Nat → Nat → Int64)) (v_mates : (Nat → Int32)) (k23 : (Nat → Int32) → (Nat → Int64) → (Nat → Int64) → (Nat → Int32) → (Nat → Int32) → (Nat → Int64) → Option R_pMatcher_solve) : Nat → Int32 → (Nat → Int32) → (Nat → Int64) → (Nat → Int64) → (Nat → Int32) → (Nat → Int32) → (Nat → Int64) → Option R_pMatcher_solve := zlp7 (pMatcher_solve_b2_F N v_costs v_mates k23)
def pMatcher_solve_b33_F (N : Nat) (v_costs : (Nat → Nat → Int64)) (v_cameFrom : (Nat → Int32)) (v_columnPrices : (Nat → Int64)) (v_gaps : (Nat → Int64)) (v_isReached : (Nat → Int32)) (v_rowOf : (Nat → Int32)) (v_rowPrices : (Nat → Int64)) (self : Int32 → (Nat → Int32) → Option R_pMatcher_solve) (x1 : Int32) (v_mates : (Nat → Int32)) : Option R_pMatcher_solve :=
  if 10 < x1 then
    some (v_cameFrom, v_columnPrices, v_gaps, v_isReached, v_mates, v_rowOf, v_rowPrices)
  else
    gd (ib x1 21) <|
    if (v_rowOf (ix x1)) ≤ 0 then
      self (x1 + 1) v_mates
    else
      gd (ib (v_rowOf (ix x1)) 11) <|
      if (lg_cmp (v_costs (ix (v_rowOf (ix x1))) (ix x1)) 0) = 0 then
        self (x1 + 1) v_mates
      else
        gd (ib ((v_rowOf (ix x1)) - 1) 10) <|
        self (x1 + 1) (upd v_mates (ix ((v_rowOf (ix x1)) - 1)) (x1 - 1))
def pMatcher_solve_b33 (N : Nat) (v_costs : (Nat → Nat → Int64)) (v_cameFrom : (Nat → Int32)) (v_columnPrices : (Nat → Int64)) (v_gaps : (Nat → Int64)) (v_isReached : (Nat → Int32)) (v_rowOf : (Nat → Int32)) (v_rowPrices : (Nat → Int64)) : Nat → Int32 → (Nat → Int32) → Option R_pMatcher_solve := zlp2 (pMatcher_solve_b33_F N v_costs v_cameFrom v_columnPrices v_gaps v_isReached v_rowOf v_rowPrices)
def pMatcher_solve_b23 (N : Nat) (v_costs : (Nat → Nat → Int64)) (v_cameFrom : (Nat → Int32)) (v_columnPrices : (Nat → Int64)) (v_gaps : (Nat → Int64)) (v_isReached : (Nat → Int32)) (v_mates : (Nat → Int32)) (v_rowOf : (Nat → Int32)) (v_rowPrices : (Nat → Int64)) : Option R_pMatcher_solve :=
  pMatcher_solve_b33 N v_costs v_cameFrom v_columnPrices v_gaps v_isReached v_rowOf v_rowPrices N 1 (fun _ => (-1))
def pMatcher_solve (N : Nat) (v_cameFrom : (Nat → Int32)) (v_columnPrices : (Nat → Int64)) (v_costs : (Nat → Nat → Int64)) (v_gaps : (Nat → Int64)) (v_isReached : (Nat → Int32)) (v_mates : (Nat → Int32)) (v_rowOf : (Nat → Int32)) (v_rowPrices : (Nat → Int64)) : Option R_pMatcher_solve :=
  pMatcher_solve_b2 N v_costs v_mates (fun v_cameFrom_k1 v_columnPrices_k2 v_gaps_k3 v_isReached_k4 => pMatcher_solve_b23 N v_costs v_cameFrom_k1 v_columnPrices_k2 v_gaps_k3 v_isReached_k4 v_mates) N 1 v_cameFrom v_columnPrices v_gaps v_isReached v_rowOf v_rowPrices
abbrev R_pMatcher_foilOf : Type := Int32
def pMatcher_foilOf (a1 : Int32) (v_mates : (Nat → Int32)) : Option R_pMatcher_foilOf :=
  bd1 (pK_isStick a1) fun rc1 =>
  if rc1 = 0 then
    some (-1)
  else
    gd (ib a1 10) <|
    some (v_mates (ix a1))
abbrev R_pChest_isHalf : Type := Int32
def pChest_isHalf (a0 : Int32) : Option R_pChest_isHalf :=
  if a0 < 0 then
    some 0
  else
    if 20 ≤ a0 then
      some 0
    else
      some 1
abbrev R_pChest_forget : Type := Int32 × Int32 × (Nat → Int32)
def pChest_forget_b36 (N : Nat) (a1 : Int32) (self : Int32 → (Nat → Int32) → Option R_pChest_forget) (x2 : Int32) (s1 : Int32) (v_changes : Int32) (v_isMatched : Int32) (v_fits : (Nat → Int32)) : Option R_pChest_forget :=
  gd (ib s1 100) <|
  self (x2 + 1) (upd v_fits (ix s1) (-2))
def pChest_forget_b2_F (N : Nat) (a1 : Int32) (v_changes : Int32) (v_isMatched : Int32) (self : Int32 → (Nat → Int32) → Option R_pChest_forget) (x2 : Int32) (v_fits : (Nat → Int32)) : Option R_pChest_forget :=
  if 10 ≤ x2 then
    some ((v_changes + 1), 0, v_fits)
  else
    if 10 ≤ a1 then
      pChest_forget_b36 N a1 self x2 (((x2 * 10) + a1) - 10) v_changes v_isMatched v_fits
    else
      pChest_forget_b36 N a1 self x2 ((a1 * 10) + x2) v_changes v_isMatched v_fits
def pChest_forget_b2 (N : Nat) (a1 : Int32) (v_changes : Int32) (v_isMatched : Int32) : Nat → Int32 → (Nat → Int32) → Option R_pChest_forget := zlp2 (pChest_forget_b2_F N a1 v_changes v_isMatched)
def pChest_forget (N : Nat) (a1 : Int32) (v_changes : Int32) (v_isMatched : Int32) (v_fits : (Nat → Int32)) : Option R_pChest_forget :=
  pChest_forget_b2 N a1 v_changes v_isMatched N 0 v_fits
abbrev R_pChest_addCut : Type := Int32 × Int32 × Int32 × (Nat → Int32) × (Nat → Int32) × (Nat → Int32) × (Nat → Int32)
def pChest_addCut_b76 (N : Nat) (a1 : Int32) (a2 : Int32) (a3 : Int32) (x4 : Int32) (x5 : Int32) (v_changes : Int32) (v_isMatched : Int32) (v_fits : (Nat → Int32)) (v_places : (Nat → Int32)) (v_sizes : (Nat → Int32)) (v_worths : (Nat → Int32)) : Option R_pChest_addCut :=
  gd (ib x5 240) <|
  gd (ib a1 20) <|
  bd3 (pChest_forget N a1 v_changes v_isMatched v_fits) fun v_changes_c6 v_isMatched_c6 v_fits_c6 =>
  some ((x4 + 1), v_changes_c6, v_isMatched_c6, v_fits_c6, (upd v_places (ix x5) a2), (upd v_sizes (ix a1) (x4 + 1)), (upd v_worths (ix x5) a3))
def pChest_addCut (N : Nat) (a1 : Int32) (a2 : Int32) (a3 : Int32) (v_changes : Int32) (v_isMatched : Int32) (v_fits : (Nat → Int32)) (v_places : (Nat → Int32)) (v_sizes : (Nat → Int32)) (v_worths : (Nat → Int32)) : Option R_pChest_addCut :=
  bd1 (pChest_isHalf a1) fun rc1 =>
  if rc1 = 0 then
    some ((-1), v_changes, v_isMatched, v_fits, v_places, v_sizes, v_worths)
  else
    if a2 < 0 then
      some ((-1), v_changes, v_isMatched, v_fits, v_places, v_sizes, v_worths)
    else
      if 240 < a2 then
        some ((-1), v_changes, v_isMatched, v_fits, v_places, v_sizes, v_worths)
      else
        if a3 < 0 then
          some ((-1), v_changes, v_isMatched, v_fits, v_places, v_sizes, v_worths)
        else
          if a3 < (Int32.ofNat zc2.length) then
            gd (ib a1 20) <|
            if 12 ≤ (v_sizes (ix a1)) then
              some ((-1), v_changes, v_isMatched, v_fits, v_places, v_sizes, v_worths)
            else
              if (v_sizes (ix a1)) ≤ 0 then
                pChest_addCut_b76 N a1 a2 a3 (v_sizes (ix a1)) ((a1 * 12) + (v_sizes (ix a1))) v_changes v_isMatched v_fits v_places v_sizes v_worths
              else
                gd (ib (((a1 * 12) + (v_sizes (ix a1))) - 1) 240) <|
                if (v_places (ix (((a1 * 12) + (v_sizes (ix a1))) - 1))) < a2 then
                  pChest_addCut_b76 N a1 a2 a3 (v_sizes (ix a1)) ((a1 * 12) + (v_sizes (ix a1))) v_changes v_isMatched v_fits v_places v_sizes v_worths
                else
                  some ((-1), v_changes, v_isMatched, v_fits, v_places, v_sizes, v_worths)
          else
            some ((-1), v_changes, v_isMatched, v_fits, v_places, v_sizes, v_worths)
abbrev R_pChest_isThere : Type := Int32
def pChest_isThere (a1 : Int32) (v_sizes : (Nat → Int32)) : Option R_pChest_isThere :=
  bd1 (pChest_isHalf a1) fun rc1 =>
  if rc1 = 0 then
    some 0
  else
    gd (ib a1 20) <|
    if (v_sizes (ix a1)) ≤ 0 then
      some 0
    else
      some 1
abbrev R_pChest_clear : Type := Int32 × Int32 × Int32 × (Nat → Int32) × (Nat → Int32)
def pChest_clear (N : Nat) (a1 : Int32) (v_changes : Int32) (v_isMatched : Int32) (v_fits : (Nat → Int32)) (v_sizes : (Nat → Int32)) : Option R_pChest_clear :=
  bd1 (pChest_isThere a1 v_sizes) fun rc1 =>
  if rc1 = 0 then
    some (0, v_changes, v_isMatched, v_fits, v_sizes)
  else
    gd (ib a1 20) <|
    bd3 (pChest_forget N a1 v_changes v_isMatched v_fits) fun v_changes_c3 v_isMatched_c3 v_fits_c3 =>
    some (1, v_changes_c3, v_isMatched_c3, v_fits_c3, (upd v_sizes (ix a1) 0))
abbrev R_pChest_worthOf : Type := Int32
def pChest_worthOf_b14_F (N : Nat) (a1 : Int32) (v_sizes : (Nat → Int32)) (v_worths : (Nat → Int32)) (self : Int32 → Int32 → Option R_pChest_worthOf) (x2 : Int32) (x3 : Int32) : Option R_pChest_worthOf :=
  gd (ib a1 20) <|
  if (v_sizes (ix a1)) ≤ x3 then
    some x2
  else
    gd (ib ((a1 * 12) + x3) 240) <|
    gd (ib (v_worths (ix ((a1 * 12) + x3))) 6) <|
    self (x2 + (zc2.getD (ix (v_worths (ix ((a1 * 12) + x3)))) 0)) (x3 + 1)
def pChest_worthOf_b14 (N : Nat) (a1 : Int32) (v_sizes : (Nat → Int32)) (v_worths : (Nat → Int32)) : Nat → Int32 → Int32 → Option R_pChest_worthOf := zlp2 (pChest_worthOf_b14_F N a1 v_sizes v_worths)
def pChest_worthOf (N : Nat) (a1 : Int32) (v_sizes : (Nat → Int32)) (v_worths : (Nat → Int32)) : Option R_pChest_worthOf :=
  bd1 (pChest_isThere a1 v_sizes) fun rc1 =>
  if rc1 = 0 then
    some (-1)
  else
    pChest_worthOf_b14 N a1 v_sizes v_worths N 0 0
abbrev R_pChest_setWear : Type := Int32 × Int32 × Int32 × Int32 × Int32 × Int32 × (Nat → Int32)
def pChest_setWear_b59 (a1 : Int32) (a2 : Int32) (a3 : Int32) (v_changes : Int32) (v_grain : Int32) (v_isMatched : Int32) (v_limit : Int32) (v_lost : Int32) (v_fits : (Nat → Int32)) : Option R_pChest_setWear :=
  some (1, (v_changes + 1), a1, 0, a3, a2, v_fits)
def pChest_setWear_b50 (a1 : Int32) (a2 : Int32) (a3 : Int32) (v_changes : Int32) (v_grain : Int32) (v_isMatched : Int32) (v_limit : Int32) (v_lost : Int32) (v_fits : (Nat → Int32)) : Option R_pChest_setWear :=
  pChest_setWear_b59 a1 a2 a3 v_changes v_grain v_isMatched v_limit v_lost (fun _ => (-2))
def pChest_setWear (a1 : Int32) (a2 : Int32) (a3 : Int32) (v_changes : Int32) (v_grain : Int32) (v_isMatched : Int32) (v_limit : Int32) (v_lost : Int32) (v_fits : (Nat → Int32)) : Option R_pChest_setWear :=
  if a1 < 0 then
    some (0, v_changes, v_grain, v_isMatched, v_limit, v_lost, v_fits)
  else
    if 20 < a1 then
      some (0, v_changes, v_grain, v_isMatched, v_limit, v_lost, v_fits)
    else
      if a2 < 1 then
        some (0, v_changes, v_grain, v_isMatched, v_limit, v_lost, v_fits)
      else
        if 100 < a2 then
          some (0, v_changes, v_grain, v_isMatched, v_limit, v_lost, v_fits)
        else
          if a3 < 0 then
            some (0, v_changes, v_grain, v_isMatched, v_limit, v_lost, v_fits)
          else
            if a3 ≤ 500 then
              if a1 = v_grain then
                if a2 = v_lost then
                  pChest_setWear_b59 a1 a2 a3 v_changes v_grain v_isMatched v_limit v_lost v_fits
                else
                  pChest_setWear_b50 a1 a2 a3 v_changes v_grain v_isMatched v_limit v_lost v_fits
              else
                pChest_setWear_b50 a1 a2 a3 v_changes v_grain v_isMatched v_limit v_lost v_fits
            else
              some (0, v_changes, v_grain, v_isMatched, v_limit, v_lost, v_fits)
abbrev R_pChest_pairCost : Type := Int32
def pChest_pairCost (a1 : Int32) (a2 : Int32) (v_grain : Int32) (v_places : (Nat → Int32)) (v_worths : (Nat → Int32)) : Option R_pChest_pairCost :=
  gd (ib a1 240) <|
  gd (ib a2 240) <|
  if (v_worths (ix a1)) = (v_worths (ix a2)) then
    if v_grain < (m_abs ((v_places (ix a1)) - (v_places (ix a2)))) then
      some (-1)
    else
      some (m_abs ((v_places (ix a1)) - (v_places (ix a2))))
  else
    some (-1)
abbrev R_pChest_leastCost : Type := Int32 × (Nat → Int32) × (Nat → Int32)
def pChest_leastCost_b2_F (N : Nat) (a1 : Int32) (a2 : Int32) (v_grain : Int32) (v_lost : Int32) (v_places : (Nat → Int32)) (v_sizes : (Nat → Int32)) (v_worths : (Nat → Int32)) (v_above : (Nat → Int32)) (k30 : (Nat → Int32) → Option R_pChest_leastCost) (self : Int32 → (Nat → Int32) → Option R_pChest_leastCost) (x3 : Int32) (v_row : (Nat → Int32)) : Option R_pChest_leastCost :=
  gd (ib a2 20) <|
  if (v_sizes (ix a2)) < x3 then
    k30 v_row
  else
    gd (ib x3 13) <|
    self (x3 + 1) (upd v_row (ix x3) (x3 * v_lost))
def pChest_leastCost_b2 (N : Nat) (a1 : Int32) (a2 : Int32) (v_grain : Int32) (v_lost : Int32) (v_places : (Nat → Int32)) (v_sizes : (Nat → Int32)) (v_worths : (Nat → Int32)) (v_above : (Nat → Int32)) (k30 : (Nat → Int32) → Option R_pChest_leastCost) : Nat → Int32 → (Nat → Int32) → Option R_pChest_leastCost := zlp2 (pChest_leastCost_b2_F N a1 a2 v_grain v_lost v_places v_sizes v_worths v_above k30)
def pChest_leastCost_b170 (N : Nat) (a1 : Int32) (a2 : Int32) (v_grain : Int32) (v_lost : Int32) (v_places : (Nat → Int32)) (v_sizes : (Nat → Int32)) (v_worths : (Nat → Int32)) (self : Int32 → (Nat → Int32) → Option R_pChest_leastCost) (k177 : (Nat → Int32) → Option R_pChest_leastCost) (x3 : Int32) (x4 : Int32) (s1 : Int32) (s2 : Int32) (v_above : (Nat → Int32)) (v_row : (Nat → Int32)) : Option R_pChest_leastCost :=
  gd (ib s1 13) <|
  self (x4 + 1) (upd v_row (ix s1) s2)
def pChest_leastCost_b80_F (N : Nat) (a1 : Int32) (a2 : Int32) (v_grain : Int32) (v_lost : Int32) (v_places : (Nat → Int32)) (v_sizes : (Nat → Int32)) (v_worths : (Nat → Int32)) (x3 : Int32) (v_above : (Nat → Int32)) (k177 : (Nat → Int32) → Option R_pChest_leastCost) (self : Int32 → (Nat → Int32) → Option R_pChest_leastCost) (x4 : Int32) (v_row : (Nat → Int32)) : Option R_pChest_leastCost :=
  gd (ib a2 20) <|
  if (v_sizes (ix a2)) ≤ x4 then
    k177 v_row
  else
    gd (ib (x4 + 1) 13) <|
    gd (ib x4 13) <|
    bd1 (pChest_pairCost ((a1 * 12) + x3) ((a2 * 12) + x4) v_grain v_places v_worths) fun rc9 =>
    if rc9 = (-1) then
      pChest_leastCost_b170 N a1 a2 v_grain v_lost v_places v_sizes v_worths self k177 x3 x4 (x4 + 1) ((m_min (v_above (ix (x4 + 1))) (v_row (ix x4))) + v_lost) v_above v_row
    else
      pChest_leastCost_b170 N a1 a2 v_grain v_lost v_places v_sizes v_worths self k177 x3 x4 (x4 + 1) (m_min ((m_min (v_above (ix (x4 + 1))) (v_row (ix x4))) + v_lost) ((v_above (ix x4)) + rc9)) v_above v_row
def pChest_leastCost_b80 (N : Nat) (a1 : Int32) (a2 : Int32) (v_grain : Int32) (v_lost : Int32) (v_places : (Nat → Int32)) (v_sizes : (Nat → Int32)) (v_worths : (Nat → Int32)) (x3 : Int32) (v_above : (Nat → Int32)) (k177 : (Nat → Int32) → Option R_pChest_leastCost) : Nat → Int32 → (Nat → Int32) → Option R_pChest_leastCost := zlp2 (pChest_leastCost_b80_F N a1 a2 v_grain v_lost v_places v_sizes v_worths x3 v_above k177)
def pChest_leastCost_b177 (N : Nat) (a1 : Int32) (a2 : Int32) (v_grain : Int32) (v_lost : Int32) (v_places : (Nat → Int32)) (v_sizes : (Nat → Int32)) (v_worths : (Nat → Int32)) (self : Int32 → (Nat → Int32) → (Nat → Int32) → Option R_pChest_leastCost) (x3 : Int32) (v_above : (Nat → Int32)) (v_row : (Nat → Int32)) : Option R_pChest_leastCost :=
  self (x3 + 1) v_above v_row
def pChest_leastCost_b32_F (N : Nat) (a1 : Int32) (a2 : Int32) (v_grain : Int32) (v_lost : Int32) (v_places : (Nat → Int32)) (v_sizes : (Nat → Int32)) (v_worths : (Nat → Int32)) (self : Int32 → (Nat → Int32) → (Nat → Int32) → Option R_pChest_leastCost) (x3 : Int32) (v_above : (Nat → Int32)) (v_row : (Nat → Int32)) : Option R_pChest_leastCost :=
  gd (ib a1 20) <|
  if (v_sizes (ix a1)) ≤ x3 then
    gd (ib a2 20) <|
    gd (ib (v_sizes (ix a2)) 13) <|
    some ((v_row (ix (v_sizes (ix a2)))), v_above, v_row)
  else
    pChest_leastCost_b80 N a1 a2 v_grain v_lost v_places v_sizes v_worths x3 (va_cpy v_row v_above (ix 0) (ix 0) (ix 13)) (pChest_leastCost_b177 N a1 a2 v_grain v_lost v_places v_sizes v_worths self x3 (va_cpy v_row v_above (ix 0) (ix 0) (ix 13))) N 0 (upd v_row (ix 0) (((va_cpy v_row v_above (ix 0) (ix 0) (ix 13)) (ix 0)) + v_lost))
def pChest_leastCost_b32 (N : Nat) (a1 : Int32) (a2 : Int32) (v_grain : Int32) (v_lost : Int32) (v_places : (Nat → Int32)) (v_sizes : (Nat → Int32)) (v_worths : (Nat → Int32)) : Nat → Int32 → (Nat → Int32) → (Nat → Int32) → Option R_pChest_leastCost := zlp3 (pChest_leastCost_b32_F N a1 a2 v_grain v_lost v_places v_sizes v_worths)
def pChest_leastCost_b30 (N : Nat) (a1 : Int32) (a2 : Int32) (v_grain : Int32) (v_lost : Int32) (v_places : (Nat → Int32)) (v_sizes : (Nat → Int32)) (v_worths : (Nat → Int32)) (v_above : (Nat → Int32)) (v_row : (Nat → Int32)) : Option R_pChest_leastCost :=
  pChest_leastCost_b32 N a1 a2 v_grain v_lost v_places v_sizes v_worths N 0 v_above v_row
def pChest_leastCost (N : Nat) (a1 : Int32) (a2 : Int32) (v_grain : Int32) (v_lost : Int32) (v_above : (Nat → Int32)) (v_places : (Nat → Int32)) (v_row : (Nat → Int32)) (v_sizes : (Nat → Int32)) (v_worths : (Nat → Int32)) : Option R_pChest_leastCost :=
  pChest_leastCost_b2 N a1 a2 v_grain v_lost v_places v_sizes v_worths v_above (pChest_leastCost_b30 N a1 a2 v_grain v_lost v_places v_sizes v_worths v_above) N 0 v_row
abbrev R_pChest_fitOf : Type := Int32 × (Nat → Int32) × (Nat → Int32) × (Nat → Int32)
def pChest_fitOf_b68 (N : Nat) (a1 : Int32) (a2 : Int32) (v_grain : Int32) (v_lost : Int32) (v_places : (Nat → Int32)) (v_sizes : (Nat → Int32)) (v_worths : (Nat → Int32)) (x3 : Int32) (v_above : (Nat → Int32)) (v_fits : (Nat → Int32)) (v_row : (Nat → Int32)) : Option R_pChest_fitOf :=
  gd (ib x3 100) <|
  some ((v_fits (ix x3)), v_above, v_fits, v_row)
def pChest_fitOf (N : Nat) (a1 : Int32) (a2 : Int32) (v_grain : Int32) (v_lost : Int32) (v_above : (Nat → Int32)) (v_fits : (Nat → Int32)) (v_places : (Nat → Int32)) (v_row : (Nat → Int32)) (v_sizes : (Nat → Int32)) (v_worths : (Nat → Int32)) : Option R_pChest_fitOf :=
  bd1 (pK_isStick a1) fun rc1 =>
  if rc1 = 0 then
    some ((-1), v_above, v_fits, v_row)
  else
    bd1 (pK_isStick a2) fun rc2 =>
    if rc2 = 0 then
      some ((-1), v_above, v_fits, v_row)
    else
      bd1 (pChest_isThere a1 v_sizes) fun rc3 =>
      if rc3 = 0 then
        some ((-1), v_above, v_fits, v_row)
      else
        bd1 (pChest_isThere (10 + a2) v_sizes) fun rc4 =>
        if rc4 = 0 then
          some ((-1), v_above, v_fits, v_row)
        else
          gd (ib ((a1 * 10) + a2) 100) <|
          if (v_fits (ix ((a1 * 10) + a2))) = (-2) then
            bd3 (pChest_leastCost N a1 (10 + a2) v_grain v_lost v_above v_places v_row v_sizes v_worths) fun rc6 v_above_c6 v_row_c6 =>
            pChest_fitOf_b68 N a1 a2 v_grain v_lost v_places v_sizes v_worths ((a1 * 10) + a2) v_above_c6 (upd v_fits (ix ((a1 * 10) + a2)) rc6) v_row_c6
          else
            pChest_fitOf_b68 N a1 a2 v_grain v_lost v_places v_sizes v_worths ((a1 * 10) + a2) v_above v_fits v_row
abbrev R_pChest_matchAll : Type := Int32 × (Nat → Int32) × (Nat → Int32) × (Nat → Int32) × (Nat → Int32) × (Nat → Int64) × (Nat → Nat → Int64) × (Nat → Int64) × (Nat → Int32) × (Nat → Int32) × (Nat → Int32) × (Nat → Int64) × (Nat → Int32)
def pChest_matchAll_b25_F (N : Nat) (v_grain : Int32) (v_limit : Int32) (v_lost : Int32) (v_places : (Nat → Int32)) (v_sizes : (Nat → Int32)) (v_worths : (Nat → Int32)) (x1 : Int32) (v_isMatched : Int32) (v_goodWorths : (Nat → Int32)) (v_matcher_cameFrom : (Nat → Int32)) (v_matcher_columnPrices : (Nat → Int64)) (v_matcher_gaps : (Nat → Int64)) (v_matcher_isReached : (Nat → Int32)) (v_matcher_mates : (Nat → Int32)) (v_matcher_rowOf : (Nat → Int32)) (v_matcher_rowPrices : (Nat → Int64)) (k67 : (Nat → Int32) → (Nat → Int32) → (Nat → Nat → Int64) → (Nat → Int32) → Option R_pChest_matchAll) (self : Int32 → (Nat → Int32) → (Nat → Int32) → (Nat → Nat → Int64) → (Nat → Int32) → Option R_pChest_matchAll) (x2 : Int32) (v_above : (Nat → Int32)) (v_fits : (Nat → Int32)) (v_matcher_costs : (Nat → Nat → Int64)) (v_row : (Nat → Int32)) : Option R_pChest_matchAll :=
  if 10 ≤ x2 then
    k67 v_above v_fits v_matcher_costs v_row
  else
    bd4 (pChest_fitOf N x1 x2 v_grain v_lost v_above v_fits v_places v_row v_sizes v_worths) fun rc3 v_above_c3 v_fits_c3 v_row_c3 =>
    if rc3 = (-1) then
      self (x2 + 1) v_above_c3 v_fits_c3 v_matcher_costs v_row_c3
    else
      if v_limit < rc3 then
        self (x2 + 1) v_above_c3 v_fits_c3 v_matcher_costs v_row_c3
      else
        bd1 (pMatcher_allow N x1 x2 rc3 v_matcher_costs) fun v_matcher_costs_c4 =>
        self (x2 + 1) v_above_c3 v_fits_c3 v_matcher_costs_c4 v_row_c3
def pChest_matchAll_b25 (N : Nat) (v_grain : Int32) (v_limit : Int32) (v_lost : Int32) (v_places : (Nat → Int32)) (v_sizes : (Nat → Int32)) (v_worths : (Nat → Int32)) (x1 : Int32) (v_isMatched : Int32) (v_goodWorths : (Nat → Int32)) (v_matcher_cameFrom : (Nat → Int32)) (v_matcher_columnPrices : (Nat → Int64)) (v_matcher_gaps : (Nat → Int64)) (v_matcher_isReached : (Nat → Int32)) (v_matcher_mates : (Nat → Int32)) (v_matcher_rowOf : (Nat → Int32)) (v_matcher_rowPrices : (Nat → Int64)) (k67 : (Nat → Int32) → (Nat → Int32) → (Nat → Nat → Int64) → (Nat → Int32) → Option R_pChest_matchAll) : Nat → Int32 → (Nat → Int32) → (Nat → Int32) → (Nat → Nat → Int64) → (Nat → Int32) → Option R_pChest_matchAll := zlp5 (pChest_matchAll_b25_F N v_grain v_limit v_lost v_places v_sizes v_worths x1 v_isMatched v_goodWorths v_matcher_cameFrom v_matcher_columnPrices v_matcher_gaps v_matcher_isReached v_matcher_mates v_matcher_rowOf v_matcher_rowPrices k67)
def pChest_matchAll_b67 (N : Nat) (v_grain : Int32) (v_limit : Int32) (v_lost : Int32) (v_places : (Nat → Int32)) (v_sizes : (Nat → Int32)) (v_worths : (Nat → Int32)) (self : Int32 → (Nat → Int32) → (Nat → Int32) → (Nat → Nat → Int64) → (Nat → Int32) → Option R_pChest_matchAll) (k73 : (Nat → Int32) → (Nat → Int32) → (Nat → Nat → Int64) → (Nat → Int32) → Option R_pChest_matchAll) (x1 : Int32) (v_isMatched : Int32) (v_above : (Nat → Int32)) (v_fits : (Nat → Int32)) (v_goodWorths : (Nat → Int32)) (v_matcher_cameFrom : (Nat → Int32)) (v_matcher_columnPrices : (Nat → Int64)) (v_matcher_costs : (Nat → Nat → Int64)) (v_matcher_gaps : (Nat → Int64)) (v_matcher_isReached : (Nat → Int32)) (v_matcher_mates : (Nat → Int32)) (v_matcher_rowOf : (Nat → Int32)) (v_matcher_rowPrices : (Nat → Int64)) (v_row : (Nat → Int32)) : Option R_pChest_matchAll :=
  self (x1 + 1) v_above v_fits v_matcher_costs v_row
def pChest_matchAll_b17_F (N : Nat) (v_grain : Int32) (v_limit : Int32) (v_lost : Int32) (v_places : (Nat → Int32)) (v_sizes : (Nat → Int32)) (v_worths : (Nat → Int32)) (v_isMatched : Int32) (v_goodWorths : (Nat → Int32)) (v_matcher_cameFrom : (Nat → Int32)) (v_matcher_columnPrices : (Nat → Int64)) (v_matcher_gaps : (Nat → Int64)) (v_matcher_isReached : (Nat → Int32)) (v_matcher_mates : (Nat → Int32)) (v_matcher_rowOf : (Nat → Int32)) (v_matcher_rowPrices : (Nat → Int64)) (k73 : (Nat → Int32) → (Nat → Int32) → (Nat → Nat → Int64) → (Nat → Int32) → Option R_pChest_matchAll) (self : Int32 → (Nat → Int32) → (Nat → Int32) → (Nat → Nat → Int64) → (Nat → Int32) → Option R_pChest_matchAll) (x1 : Int32) (v_above : (Nat → Int32)) (v_fits : (Nat → Int32)) (v_matcher_costs : (Nat → Nat → Int64)) (v_row : (Nat → Int32)) : Option R_pChest_matchAll :=
  if 10 ≤ x1 then
    k73 v_above v_fits v_matcher_costs v_row
  else
    pChest_matchAll_b25 N v_grain v_limit v_lost v_places v_sizes v_worths x1 v_isMatched v_goodWorths v_matcher_cameFrom v_matcher_columnPrices v_matcher_gaps v_matcher_isReached v_matcher_mates v_matcher_rowOf v_matcher_rowPrices (fun v_above_k1 v_fits_k2 v_matcher_costs_k3 => pChest_matchAll_b67 N v_grain v_limit v_lost v_places v_sizes v_worths self k73 x1 v_isMatched v_above_k1 v_fits_k2 v_goodWorths v_matcher_cameFrom v_matcher_columnPrices v_matcher_costs_k3 v_matcher_gaps v_matcher_isReached v_matcher_mates v_matcher_rowOf v_matcher_rowPrices) N 0 v_above v_fits v_matcher_costs v_row
def pChest_matchAll_b17 (N : Nat) (v_grain : Int32) (v_limit : Int32) (v_lost : Int32) (v_places : (Nat → Int32)) (v_sizes : (Nat → Int32)) (v_worths : (Nat → Int32)) (v_isMatched : Int32) (v_goodWorths : (Nat → Int32)) (v_matcher_cameFrom : (Nat → Int32)) (v_matcher_columnPrices : (Nat → Int64)) (v_matcher_gaps : (Nat → Int64)) (v_matcher_isReached : (Nat → Int32)) (v_matcher_mates : (Nat → Int32)) (v_matcher_rowOf : (Nat → Int32)) (v_matcher_rowPrices : (Nat → Int64)) (k73 : (Nat → Int32) → (Nat → Int32) → (Nat → Nat → Int64) → (Nat → Int32) → Option R_pChest_matchAll) : Nat → Int32 → (Nat → Int32) → (Nat → Int32) → (Nat → Nat → Int64) → (Nat → Int32) → Option R_pChest_matchAll := zlp5 (pChest_matchAll_b17_F N v_grain v_limit v_lost v_places v_sizes v_worths v_isMatched v_goodWorths v_matcher_cameFrom v_matcher_columnPrices v_matcher_gaps v_matcher_isReached v_matcher_mates v_matcher_rowOf v_matcher_rowPrices k73)
def pChest_matchAll_b114 (N : Nat) (v_grain : Int32) (v_limit : Int32) (v_lost : Int32) (v_places : (Nat → Int32)) (v_sizes : (Nat → Int32)) (v_worths : (Nat → Int32)) (self : Int32 → (Nat → Int32) → Option R_pChest_matchAll) (x1 : Int32) (s1 : Int32) (s2 : Int32) (v_isMatched : Int32) (v_above : (Nat → Int32)) (v_fits : (Nat → Int32)) (v_goodWorths : (Nat → Int32)) (v_matcher_cameFrom : (Nat → Int32)) (v_matcher_columnPrices : (Nat → Int64)) (v_matcher_costs : (Nat → Nat → Int64)) (v_matcher_gaps : (Nat → Int64)) (v_matcher_isReached : (Nat → Int32)) (v_matcher_mates : (Nat → Int32)) (v_matcher_rowOf : (Nat → Int32)) (v_matcher_rowPrices : (Nat → Int64)) (v_row : (Nat → Int32)) : Option R_pChest_matchAll :=
  gd (ib s1 10) <|
  self (x1 + 1) (upd v_goodWorths (ix s1) s2)
def pChest_matchAll_b82_F (N : Nat) (v_grain : Int32) (v_limit : Int32) (v_lost : Int32) (v_places : (Nat → Int32)) (v_sizes : (Nat → Int32)) (v_worths : (Nat → Int32)) (v_isMatched : Int32) (v_above : (Nat → Int32)) (v_fits : (Nat → Int32)) (v_matcher_cameFrom : (Nat → Int32)) (v_matcher_columnPrices : (Nat → Int64)) (v_matcher_costs : (Nat → Nat → Int64)) (v_matcher_gaps : (Nat → Int64)) (v_matcher_isReached : (Nat → Int32)) (v_matcher_mates : (Nat → Int32)) (v_matcher_rowOf : (Nat → Int32)) (v_matcher_rowPrices : (Nat → Int64)) (v_row : (Nat → Int32)) (self : Int32 → (Nat → Int32) → Option R_pChest_matchAll) (x1 : Int32) (v_goodWorths : (Nat → Int32)) : Option R_pChest_matchAll :=
  if 10 ≤ x1 then
    some (1, v_above, v_fits, v_goodWorths, v_matcher_cameFrom, v_matcher_columnPrices, v_matcher_costs, v_matcher_gaps, v_matcher_isReached, v_matcher_mates, v_matcher_rowOf, v_matcher_rowPrices, v_row)
  else
    bd1 (pMatcher_foilOf x1 v_matcher_mates) fun rc5 =>
    if rc5 = (-1) then
      pChest_matchAll_b114 N v_grain v_limit v_lost v_places v_sizes v_worths self x1 x1 0 v_isMatched v_above v_fits v_goodWorths v_matcher_cameFrom v_matcher_columnPrices v_matcher_costs v_matcher_gaps v_matcher_isReached v_matcher_mates v_matcher_rowOf v_matcher_rowPrices v_row
    else
      bd1 (pChest_worthOf N x1 v_sizes v_worths) fun rc6 =>
      pChest_matchAll_b114 N v_grain v_limit v_lost v_places v_sizes v_worths self x1 x1 rc6 v_isMatched v_above v_fits v_goodWorths v_matcher_cameFrom v_matcher_columnPrices v_matcher_costs v_matcher_gaps v_matcher_isReached v_matcher_mates v_matcher_rowOf v_matcher_rowPrices v_row
def pChest_matchAll_b82 (N : Nat) (v_grain : Int32) (v_limit : Int32) (v_lost : Int32) (v_places : (Nat → Int32)) (v_sizes : (Nat → Int32)) (v_worths : (Nat → Int32)) (v_isMatched : Int32) (v_above : (Nat → Int32)) (v_fits : (Nat → Int32)) (v_matcher_cameFrom : (Nat → Int32)) (v_matcher_columnPrices : (Nat → Int64)) (v_matcher_costs : (Nat → Nat → Int64)) (v_matcher_gaps : (Nat → Int64)) (v_matcher_isReached : (Nat → Int32)) (v_matcher_mates : (Nat → Int32)) (v_matcher_rowOf : (Nat → Int32)) (v_matcher_rowPrices : (Nat → Int64)) (v_row : (Nat → Int32)) : Nat → Int32 → (Nat → Int32) → Option R_pChest_matchAll := zlp2 (pChest_matchAll_b82_F N v_grain v_limit v_lost v_places v_sizes v_worths v_isMatched v_above v_fits v_matcher_cameFrom v_matcher_columnPrices v_matcher_costs v_matcher_gaps v_matcher_isReached v_matcher_mates v_matcher_rowOf v_matcher_rowPrices v_row)
def pChest_matchAll_b73 (N : Nat) (v_grain : Int32) (v_limit : Int32) (v_lost : Int32) (v_places : (Nat → Int32)) (v_sizes : (Nat → Int32)) (v_worths : (Nat → Int32)) (v_isMatched : Int32) (v_above : (Nat → Int32)) (v_fits : (Nat → Int32)) (v_goodWorths : (Nat → Int32)) (v_matcher_cameFrom : (Nat → Int32)) (v_matcher_columnPrices : (Nat → Int64)) (v_matcher_costs : (Nat → Nat → Int64)) (v_matcher_gaps : (Nat → Int64)) (v_matcher_isReached : (Nat → Int32)) (v_matcher_mates : (Nat → Int32)) (v_matcher_rowOf : (Nat → Int32)) (v_matcher_rowPrices : (Nat → Int64)) (v_row : (Nat → Int32)) : Option R_pChest_matchAll :=
  bd7 (pMatcher_solve N v_matcher_cameFrom v_matcher_columnPrices v_matcher_costs v_matcher_gaps v_matcher_isReached v_matcher_mates v_matcher_rowOf v_matcher_rowPrices) fun v_matcher_cameFrom_c2 v_matcher_columnPrices_c2 v_matcher_gaps_c2 v_matcher_isReached_c2 v_matcher_mates_c2 v_matcher_rowOf_c2 v_matcher_rowPrices_c2 =>
  pChest_matchAll_b82 N v_grain v_limit v_lost v_places v_sizes v_worths v_isMatched v_above v_fits v_matcher_cameFrom_c2 v_matcher_columnPrices_c2 v_matcher_costs v_matcher_gaps_c2 v_matcher_isReached_c2 v_matcher_mates_c2 v_matcher_rowOf_c2 v_matcher_rowPrices_c2 v_row N 0 v_goodWorths
def pChest_matchAll (N : Nat) (v_grain : Int32) (v_isMatched : Int32) (v_limit : Int32) (v_lost : Int32) (v_above : (Nat → Int32)) (v_fits : (Nat → Int32)) (v_goodWorths : (Nat → Int32)) (v_matcher_cameFrom : (Nat → Int32)) (v_matcher_columnPrices : (Nat → Int64)) (v_matcher_costs : (Nat → Nat → Int64)) (v_matcher_gaps : (Nat → Int64)) (v_matcher_isReached : (Nat → Int32)) (v_matcher_mates : (Nat → Int32)) (v_matcher_rowOf : (Nat → Int32)) (v_matcher_rowPrices : (Nat → Int64)) (v_places : (Nat → Int32)) (v_row : (Nat → Int32)) (v_sizes : (Nat → Int32)) (v_worths : (Nat → Int32)) : Option R_pChest_matchAll :=
  if v_isMatched = 0 then
    bd4 (pMatcher_begin N v_matcher_columnPrices v_matcher_costs v_matcher_rowOf v_matcher_rowPrices) fun v_matcher_columnPrices_c1 v_matcher_costs_c1 v_matcher_rowOf_c1 v_matcher_rowPrices_c1 =>
    pChest_matchAll_b17 N v_grain v_limit v_lost v_places v_sizes v_worths v_isMatched v_goodWorths v_matcher_cameFrom v_matcher_columnPrices_c1 v_matcher_gaps v_matcher_isReached v_matcher_mates v_matcher_rowOf_c1 v_matcher_rowPrices_c1 (fun v_above_k5 v_fits_k6 v_matcher_costs_k7 => pChest_matchAll_b73 N v_grain v_limit v_lost v_places v_sizes v_worths v_isMatched v_above_k5 v_fits_k6 v_goodWorths v_matcher_cameFrom v_matcher_columnPrices_c1 v_matcher_costs_k7 v_matcher_gaps v_matcher_isReached v_matcher_mates v_matcher_rowOf_c1 v_matcher_rowPrices_c1) N 0 v_above v_fits v_matcher_costs_c1 v_row
  else
    some (v_isMatched, v_above, v_fits, v_goodWorths, v_matcher_cameFrom, v_matcher_columnPrices, v_matcher_costs, v_matcher_gaps, v_matcher_isReached, v_matcher_mates, v_matcher_rowOf, v_matcher_rowPrices, v_row)
abbrev R_pChest_mateOf : Type := Int32 × Int32 × (Nat → Int32) × (Nat → Int32) × (Nat → Int32) × (Nat → Int32) × (Nat → Int64) × (Nat → Nat → Int64) × (Nat → Int64) × (Nat → Int32) × (Nat → Int32) × (Nat → Int32) × (Nat → Int64) × (Nat → Int32)
def pChest_mateOf (N : Nat) (a1 : Int32) (v_grain : Int32) (v_isMatched : Int32) (v_limit : Int32) (v_lost : Int32) (v_above : (Nat → Int32)) (v_fits : (Nat → Int32)) (v_goodWorths : (Nat → Int32)) (v_matcher_cameFrom : (Nat → Int32)) (v_matcher_columnPrices : (Nat → Int64)) (v_matcher_costs : (Nat → Nat → Int64)) (v_matcher_gaps : (Nat → Int64)) (v_matcher_isReached : (Nat → Int32)) (v_matcher_mates : (Nat → Int32)) (v_matcher_rowOf : (Nat → Int32)) (v_matcher_rowPrices : (Nat → Int64)) (v_places : (Nat → Int32)) (v_row : (Nat → Int32)) (v_sizes : (Nat → Int32)) (v_worths : (Nat → Int32)) : Option R_pChest_mateOf :=
  bd13 (pChest_matchAll N v_grain v_isMatched v_limit v_lost v_above v_fits v_goodWorths v_matcher_cameFrom v_matcher_columnPrices v_matcher_costs v_matcher_gaps v_matcher_isReached v_matcher_mates v_matcher_rowOf v_matcher_rowPrices v_places v_row v_sizes v_worths) fun v_isMatched_c1 v_above_c1 v_fits_c1 v_goodWorths_c1 v_matcher_cameFrom_c1 v_matcher_columnPrices_c1 v_matcher_costs_c1 v_matcher_gaps_c1 v_matcher_isReached_c1 v_matcher_mates_c1 v_matcher_rowOf_c1 v_matcher_rowPrices_c1 v_row_c1 =>
  bd1 (pMatcher_foilOf a1 v_matcher_mates_c1) fun rc2 =>
  some (rc2, v_isMatched_c1, v_above_c1, v_fits_c1, v_goodWorths_c1, v_matcher_cameFrom_c1, v_matcher_columnPrices_c1, v_matcher_costs_c1, v_matcher_gaps_c1, v_matcher_isReached_c1, v_matcher_mates_c1, v_matcher_rowOf_c1, v_matcher_rowPrices_c1, v_row_c1)
abbrev R_pChest_pairsMatched : Type := Int32 × Int32 × (Nat → Int32) × (Nat → Int32) × (Nat → Int32) × (Nat → Int32) × (Nat → Int64) × (Nat → Nat → Int64) × (Nat → Int64) × (Nat → Int32) × (Nat → Int32) × (Nat → Int32) × (Nat → Int64) × (Nat → Int32)
def pChest_pairsMatched_b8_F (N : Nat) (v_grain : Int32) (v_limit : Int32) (v_lost : Int32) (v_places : (Nat → Int32)) (v_sizes : (Nat → Int32)) (v_worths : (Nat → Int32)) (v_isMatched : Int32) (v_above : (Nat → Int32)) (v_fits : (Nat → Int32)) (v_goodWorths : (Nat → Int32)) (v_matcher_cameFrom : (Nat → Int32)) (v_matcher_columnPrices : (Nat → Int64)) (v_matcher_costs : (Nat → Nat → Int64)) (v_matcher_gaps : (Nat → Int64)) (v_matcher_isReached : (Nat → Int32)) (v_matcher_mates : (Nat → Int32)) (v_matcher_rowOf : (Nat → Int32)) (v_matcher_rowPrices : (Nat → Int64)) (v_row : (Nat → Int32)) (self : Int32 → Int32 → Option R_pChest_pairsMatched) (x1 : Int32) (x2 : Int32) : Option R_pChest_pairsMatched :=
  if 10 ≤ x2 then
    some (x1, v_isMatched, v_above, v_fits, v_goodWorths, v_matcher_cameFrom, v_matcher_columnPrices, v_matcher_costs, v_matcher_gaps, v_matcher_isReached, v_matcher_mates, v_matcher_rowOf, v_matcher_rowPrices, v_row)
  else
    bd1 (pMatcher_foilOf x2 v_matcher_mates) fun rc2 =>
    if rc2 = (-1) then
      self (x1 + 0) (x2 + 1)
    else
      self (x1 + 1) (x2 + 1)
def pChest_pairsMatched_b8 (N : Nat) (v_grain : Int32) (v_limit : Int32) (v_lost : Int32) (v_places : (Nat → Int32)) (v_sizes : (Nat → Int32)) (v_worths : (Nat → Int32)) (v_isMatched : Int32) (v_above : (Nat → Int32)) (v_fits : (Nat → Int32)) (v_goodWorths : (Nat → Int32)) (v_matcher_cameFrom : (Nat → Int32)) (v_matcher_columnPrices : (Nat → Int64)) (v_matcher_costs : (Nat → Nat → Int64)) (v_matcher_gaps : (Nat → Int64)) (v_matcher_isReached : (Nat → Int32)) (v_matcher_mates : (Nat → Int32)) (v_matcher_rowOf : (Nat → Int32)) (v_matcher_rowPrices : (Nat → Int64)) (v_row : (Nat → Int32)) : Nat → Int32 → Int32 → Option R_pChest_pairsMatched := zlp2 (pChest_pairsMatched_b8_F N v_grain v_limit v_lost v_places v_sizes v_worths v_isMatched v_above v_fits v_goodWorths v_matcher_cameFrom v_matcher_columnPrices v_matcher_costs v_matcher_gaps v_matcher_isReached v_matcher_mates v_matcher_rowOf v_matcher_rowPrices v_row)
def pChest_pairsMatched (N : Nat) (v_grain : Int32) (v_isMatched : Int32) (v_limit : Int32) (v_lost : Int32) (v_above : (Nat → Int32)) (v_fits : (Nat → Int32)) (v_goodWorths : (Nat → Int32)) (v_matcher_cameFrom : (Nat → Int32)) (v_matcher_columnPrices : (Nat → Int64)) (v_matcher_costs : (Nat → Nat → Int64)) (v_matcher_gaps : (Nat → Int64)) (v_matcher_isReached : (Nat → Int32)) (v_matcher_mates : (Nat → Int32)) (v_matcher_rowOf : (Nat → Int32)) (v_matcher_rowPrices : (Nat → Int64)) (v_places : (Nat → Int32)) (v_row : (Nat → Int32)) (v_sizes : (Nat → Int32)) (v_worths : (Nat → Int32)) : Option R_pChest_pairsMatched :=
  bd13 (pChest_matchAll N v_grain v_isMatched v_limit v_lost v_above v_fits v_goodWorths v_matcher_cameFrom v_matcher_columnPrices v_matcher_costs v_matcher_gaps v_matcher_isReached v_matcher_mates v_matcher_rowOf v_matcher_rowPrices v_places v_row v_sizes v_worths) fun v_isMatched_c1 v_above_c1 v_fits_c1 v_goodWorths_c1 v_matcher_cameFrom_c1 v_matcher_columnPrices_c1 v_matcher_costs_c1 v_matcher_gaps_c1 v_matcher_isReached_c1 v_matcher_mates_c1 v_matcher_rowOf_c1 v_matcher_rowPrices_c1 v_row_c1 =>
  pChest_pairsMatched_b8 N v_grain v_limit v_lost v_places v_sizes v_worths v_isMatched_c1 v_above_c1 v_fits_c1 v_goodWorths_c1 v_matcher_cameFrom_c1 v_matcher_columnPrices_c1 v_matcher_costs_c1 v_matcher_gaps_c1 v_matcher_isReached_c1 v_matcher_mates_c1 v_matcher_rowOf_c1 v_matcher_rowPrices_c1 v_row_c1 N 0 0
abbrev R_pChest_fitMatched : Type := Int32 × Int32 × (Nat → Int32) × (Nat → Int32) × (Nat → Int32) × (Nat → Int32) × (Nat → Int64) × (Nat → Nat → Int64) × (Nat → Int64) × (Nat → Int32) × (Nat → Int32) × (Nat → Int32) × (Nat → Int64) × (Nat → Int32)
def pChest_fitMatched_b8_F (N : Nat) (v_grain : Int32) (v_limit : Int32) (v_lost : Int32) (v_places : (Nat → Int32)) (v_sizes : (Nat → Int32)) (v_worths : (Nat → Int32)) (v_isMatched : Int32) (v_goodWorths : (Nat → Int32)) (v_matcher_cameFrom : (Nat → Int32)) (v_matcher_columnPrices : (Nat → Int64)) (v_matcher_costs : (Nat → Nat → Int64)) (v_matcher_gaps : (Nat → Int64)) (v_matcher_isReached : (Nat → Int32)) (v_matcher_mates : (Nat → Int32)) (v_matcher_rowOf : (Nat → Int32)) (v_matcher_rowPrices : (Nat → Int64)) (self : Int32 → Int32 → (Nat → Int32) → (Nat → Int32) → (Nat → Int32) → Option R_pChest_fitMatched) (x1 : Int32) (x2 : Int32) (v_above : (Nat → Int32)) (v_fits : (Nat → Int32)) (v_row : (Nat → Int32)) : Option R_pChest_fitMatched :=
  if 10 ≤ x2 then
    some (x1, v_isMatched, v_above, v_fits, v_goodWorths, v_matcher_cameFrom, v_matcher_columnPrices, v_matcher_costs, v_matcher_gaps, v_matcher_isReached, v_matcher_mates, v_matcher_rowOf, v_matcher_rowPrices, v_row)
  else
    bd1 (pMatcher_foilOf x2 v_matcher_mates) fun rc2 =>
    if rc2 = (-1) then
      self (x1 + 0) (x2 + 1) v_above v_fits v_row
    else
      bd4 (pChest_fitOf N x2 rc2 v_grain v_lost v_above v_fits v_places v_row v_sizes v_worths) fun rc3 v_above_c3 v_fits_c3 v_row_c3 =>
      self (x1 + rc3) (x2 + 1) v_above_c3 v_fits_c3 v_row_c3
def pChest_fitMatched_b8 (N : Nat) (v_grain : Int32) (v_limit : Int32) (v_lost : Int32) (v_places : (Nat → Int32)) (v_sizes : (Nat → Int32)) (v_worths : (Nat → Int32)) (v_isMatched : Int32) (v_goodWorths : (Nat → Int32)) (v_matcher_cameFrom : (Nat → Int32)) (v_matcher_columnPrices : (Nat → Int64)) (v_matcher_costs : (Nat → Nat → Int64)) (v_matcher_gaps : (Nat → Int64)) (v_matcher_isReached : (Nat → Int32)) (v_matcher_mates : (Nat → Int32)) (v_matcher_rowOf : (Nat → Int32)) (v_matcher_rowPrices : (Nat → Int64)) : Nat → Int32 → Int32 → (Nat → Int32) → (Nat → Int32) → (Nat → Int32) → Option R_pChest_fitMatched := zlp5 (pChest_fitMatched_b8_F N v_grain v_limit v_lost v_places v_sizes v_worths v_isMatched v_goodWorths v_matcher_cameFrom v_matcher_columnPrices v_matcher_costs v_matcher_gaps v_matcher_isReached v_matcher_mates v_matcher_rowOf v_matcher_rowPrices)
def pChest_fitMatched (N : Nat) (v_grain : Int32) (v_isMatched : Int32) (v_limit : Int32) (v_lost : Int32) (v_above : (Nat → Int32)) (v_fits : (Nat → Int32)) (v_goodWorths : (Nat → Int32)) (v_matcher_cameFrom : (Nat → Int32)) (v_matcher_columnPrices : (Nat → Int64)) (v_matcher_costs : (Nat → Nat → Int64)) (v_matcher_gaps : (Nat → Int64)) (v_matcher_isReached : (Nat → Int32)) (v_matcher_mates : (Nat → Int32)) (v_matcher_rowOf : (Nat → Int32)) (v_matcher_rowPrices : (Nat → Int64)) (v_places : (Nat → Int32)) (v_row : (Nat → Int32)) (v_sizes : (Nat → Int32)) (v_worths : (Nat → Int32)) : Option R_pChest_fitMatched :=
  bd13 (pChest_matchAll N v_grain v_isMatched v_limit v_lost v_above v_fits v_goodWorths v_matcher_cameFrom v_matcher_columnPrices v_matcher_costs v_matcher_gaps v_matcher_isReached v_matcher_mates v_matcher_rowOf v_matcher_rowPrices v_places v_row v_sizes v_worths) fun v_isMatched_c1 v_above_c1 v_fits_c1 v_goodWorths_c1 v_matcher_cameFrom_c1 v_matcher_columnPrices_c1 v_matcher_costs_c1 v_matcher_gaps_c1 v_matcher_isReached_c1 v_matcher_mates_c1 v_matcher_rowOf_c1 v_matcher_rowPrices_c1 v_row_c1 =>
  pChest_fitMatched_b8 N v_grain v_limit v_lost v_places v_sizes v_worths v_isMatched_c1 v_goodWorths_c1 v_matcher_cameFrom_c1 v_matcher_columnPrices_c1 v_matcher_costs_c1 v_matcher_gaps_c1 v_matcher_isReached_c1 v_matcher_mates_c1 v_matcher_rowOf_c1 v_matcher_rowPrices_c1 N 0 0 v_above_c1 v_fits_c1 v_row_c1
abbrev R_pChest_changeCount : Type := Int32
def pChest_changeCount (v_changes : Int32) : Option R_pChest_changeCount :=
  some v_changes
abbrev R_pChest_goodWorth : Type := Int32
def pChest_goodWorth (a1 : Int32) (v_goodWorths : (Nat → Int32)) : Option R_pChest_goodWorth :=
  bd1 (pK_isStick a1) fun rc1 =>
  if rc1 = 0 then
    some 0
  else
    gd (ib a1 10) <|
    some (v_goodWorths (ix a1))
abbrev R_pChest_halvesFrom : Type := Int32
def pChest_halvesFrom_b4_F (N : Nat) (a1 : Int32) (v_sizes : (Nat → Int32)) (self : Int32 → Int32 → Option R_pChest_halvesFrom) (x2 : Int32) (x3 : Int32) : Option R_pChest_halvesFrom :=
  if (a1 + 10) ≤ x3 then
    some x2
  else
    bd1 (pChest_isThere x3 v_sizes) fun rc1 =>
    if rc1 = 0 then
      self (x2 + 0) (x3 + 1)
    else
      self (x2 + 1) (x3 + 1)
def pChest_halvesFrom_b4 (N : Nat) (a1 : Int32) (v_sizes : (Nat → Int32)) : Nat → Int32 → Int32 → Option R_pChest_halvesFrom := zlp2 (pChest_halvesFrom_b4_F N a1 v_sizes)
def pChest_halvesFrom (N : Nat) (a1 : Int32) (v_sizes : (Nat → Int32)) : Option R_pChest_halvesFrom :=
  pChest_halvesFrom_b4 N a1 v_sizes N 0 a1
abbrev R_pStatement_init : Type := Unit
def pStatement_init (t0 : Nat) : Option R_pStatement_init :=
  some ()
abbrev R_pWrit_init : Type := Dyn
def pWrit_init (t0 : Nat) (a2 : Int32) (a4 : Int32) (v_a1 : (Nat → Option Nat)) (v_a3 : (Nat → Int32)) (v_D : Dyn) : Option R_pWrit_init :=
  gd (ib a2 25) <|
  bd1 (some (dN v_D)) fun y1 =>
  bd1 (dPR (dNewA v_D 2 (ix a2)) t0 1 0 (some y1)) fun v_D3 =>
  bd1 (dGR v_D3 t0 1 0) fun d4 =>
  bd1 d4 fun y5 =>
  bd1 (dCopy v_D3 y5 v_a1 24 0 0 a2) fun v_D6 =>
  gd (ib a4 600) <|
  bd1 (some (dN v_D6)) fun y7 =>
  bd1 (dPR (dNewI v_D6 (ix a4) v_a3) t0 1 1 (some y7)) fun v_D9 =>
  some v_D9
