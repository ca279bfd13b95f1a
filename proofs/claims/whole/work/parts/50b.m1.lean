set_option maxHeartbeats 4000000
set_option maxRecDepth 100000
def iM_isIn (a0 : Int) (a2 : Int) (a4 : Int) : Option Int :=
  if a0 < a2 then
    some 0
  else
    if a4 < a0 then
      some 0
    else
      some 1
def iM_value_b5_F (N : Nat) (a1 : Int) (v_ratio : (Nat → Int)) (self : Int → Int → Option Int) (x2 : Int) (x4 : Int) : Option Int :=
  if a1 ≤ x4 then
    some x2
  else
    gd (jb x4 12) <|
    gd (jR (x2 * (v_ratio x4.toNat))) <|
    gd (jr (x4 + 1)) <|
    self (x2 * (v_ratio x4.toNat)) (x4 + 1)
def iM_value_b5 (N : Nat) (a1 : Int) (v_ratio : (Nat → Int)) : Nat → Int → Int → Option Int := zlp2 (iM_value_b5_F N a1 v_ratio)
def iM_value (N : Nat) (a1 : Int) (v_ratio : (Nat → Int)) : Option Int :=
  iM_value_b5 N a1 v_ratio N 1 0
def iM_plains_b7_F (N : Nat) (a1 : Int) (v_ratio : (Nat → Int)) (self : Int → Int → (Nat → Int) → Option (Nat → Int)) (x2 : Int) (x4 : Int) (v_plain : (Nat → Int)) : Option (Nat → Int) :=
  if x4 < 0 then
    some v_plain
  else
    bd1 (iM_value N x4 v_ratio) fun rc1 =>
    gd (jn rc1) <|
    gd (jb x4 13) <|
    bd1 (iM_value N x4 v_ratio) fun rc4 =>
    gd (jn rc4) <|
    gd (jr (x4 + (-1))) <|
    gd (jR ((x2).tdiv rc1)) <|
    gd (jr ((x2).tdiv rc1)) <|
    self ((x2).tmod rc4) (x4 + (-1)) (va_up v_plain x4.toNat ((x2).tdiv rc1))
def iM_plains_b7 (N : Nat) (a1 : Int) (v_ratio : (Nat → Int)) : Nat → Int → Int → (Nat → Int) → Option (Nat → Int) := zlp3 (iM_plains_b7_F N a1 v_ratio)
def iM_plains (N : Nat) (a1 : Int) (v_plain : (Nat → Int)) (v_ratio : (Nat → Int)) : Option (Nat → Int) :=
  iM_plains_b7 N a1 v_ratio N a1 12 v_plain
abbrev R_iM_put : Type := Int × (Nat → Int)
def iM_put (a1 : Int) (a2 : Int) (v_lie : (Nat → Int)) : Option R_iM_put :=
  bd1 (iM_isIn a1 0 12) fun rc1 =>
  if rc1 = 0 then
    some (0, v_lie)
  else
    bd1 (iM_isIn a2 0 99) fun rc2 =>
    if rc2 = 0 then
      some (0, v_lie)
    else
      gd (jb a1 13) <|
      some (1, va_up v_lie a1.toNat a2)
def iM_lies (a1 : Int) (v_lie : (Nat → Int)) : Option Int :=
  bd1 (iM_isIn a1 0 12) fun rc1 =>
  if rc1 = 0 then
    some (-1)
  else
    gd (jb a1 13) <|
    some (v_lie a1.toNat)
def iM_worth_b4_F (N : Nat) (v_lie : (Nat → Int)) (v_ratio : (Nat → Int)) (self : Int → Int → Option Int) (x1 : Int) (x3 : Int) : Option Int :=
  if 13 ≤ x3 then
    some x1
  else
    gd (jb x3 13) <|
    bd1 (iM_value N x3 v_ratio) fun rc2 =>
    gd (jR ((v_lie x3.toNat) * rc2)) <|
    gd (jR (x1 + ((v_lie x3.toNat) * rc2))) <|
    gd (jr (x3 + 1)) <|
    self (x1 + ((v_lie x3.toNat) * rc2)) (x3 + 1)
def iM_worth_b4 (N : Nat) (v_lie : (Nat → Int)) (v_ratio : (Nat → Int)) : Nat → Int → Int → Option Int := zlp2 (iM_worth_b4_F N v_lie v_ratio)
def iM_worth (N : Nat) (v_lie : (Nat → Int)) (v_ratio : (Nat → Int)) : Option Int :=
  iM_worth_b4 N v_lie v_ratio N 0 0
abbrev R_iM_plain : Type := Int × (Nat → Int)
def iM_plain (N : Nat) (a1 : Int) (a2 : Int) (v_plain : (Nat → Int)) (v_ratio : (Nat → Int)) : Option R_iM_plain :=
  bd1 (iM_isIn a1 0 1000000000) fun rc1 =>
  if rc1 = 0 then
    some ((-1), v_plain)
  else
    bd1 (iM_isIn a2 0 12) fun rc2 =>
    if rc2 = 0 then
      some ((-1), v_plain)
    else
      bd1 (iM_plains N a1 v_plain v_ratio) fun v_plain_c3 =>
      gd (jb a2 13) <|
      some (v_plain_c3 a2.toNat, v_plain_c3)
def iM_works_b2_F (N : Nat) (v_lie : (Nat → Int)) (self : Int → (Nat → Int) → Option (Nat → Int)) (x1 : Int) (v_work : (Nat → Int)) : Option (Nat → Int) :=
  if 13 ≤ x1 then
    some v_work
  else
    gd (jb x1 13) <|
    gd (jr (x1 + 1)) <|
    self (x1 + 1) (va_up v_work x1.toNat (v_lie x1.toNat))
def iM_works_b2 (N : Nat) (v_lie : (Nat → Int)) : Nat → Int → (Nat → Int) → Option (Nat → Int) := zlp2 (iM_works_b2_F N v_lie)
def iM_works (N : Nat) (v_lie : (Nat → Int)) (v_work : (Nat → Int)) : Option (Nat → Int) :=
  iM_works_b2 N v_lie N 0 v_work
def iM_stays_b2_F (N : Nat) (v_work : (Nat → Int)) (self : Int → (Nat → Int) → Option (Nat → Int)) (x1 : Int) (v_lie : (Nat → Int)) : Option (Nat → Int) :=
  if 13 ≤ x1 then
    some v_lie
  else
    gd (jb x1 13) <|
    gd (jr (x1 + 1)) <|
    self (x1 + 1) (va_up v_lie x1.toNat (v_work x1.toNat))
def iM_stays_b2 (N : Nat) (v_work : (Nat → Int)) : Nat → Int → (Nat → Int) → Option (Nat → Int) := zlp2 (iM_stays_b2_F N v_work)
def iM_stays (N : Nat) (v_lie : (Nat → Int)) (v_work : (Nat → Int)) : Option (Nat → Int) :=
  iM_stays_b2 N v_work N 0 v_lie
abbrev R_iM_lay : Type := Int × (Nat → Int) × (Nat → Int) × (Nat → Int)
def iM_lay_b25_F (N : Nat) (a1 : Int) (v_ratio : (Nat → Int)) (v_lie : (Nat → Int)) (v_plain : (Nat → Int)) (k65 : (Nat → Int) → Option R_iM_lay) (self : Int → (Nat → Int) → Option R_iM_lay) (x2 : Int) (v_work : (Nat → Int)) : Option R_iM_lay :=
  if 13 ≤ x2 then
    k65 v_work
  else
    gd (jb x2 13) <|
    gd (jr ((v_work x2.toNat) + (v_plain x2.toNat))) <|
    if (va_up v_work x2.toNat ((v_work x2.toNat) + (v_plain x2.toNat))) x2.toNat ≤ 99 then
      gd (jr (x2 + 1)) <|
      self (x2 + 1) (va_up v_work x2.toNat ((v_work x2.toNat) + (v_plain x2.toNat)))
    else
      some ((-1), v_lie, v_plain, va_up v_work x2.toNat ((v_work x2.toNat) + (v_plain x2.toNat)))
def iM_lay_b25 (N : Nat) (a1 : Int) (v_ratio : (Nat → Int)) (v_lie : (Nat → Int)) (v_plain : (Nat → Int)) (k65 : (Nat → Int) → Option R_iM_lay) : Nat → Int → (Nat → Int) → Option R_iM_lay := zlp2 (iM_lay_b25_F N a1 v_ratio v_lie v_plain k65)
def iM_lay_b75_F (N : Nat) (a1 : Int) (v_ratio : (Nat → Int)) (x3 : Int) (v_lie : (Nat → Int)) (v_plain : (Nat → Int)) (k138 : Int → (Nat → Int) → Option R_iM_lay) (self : Int → (Nat → Int) → Option R_iM_lay) (x2 : Int) (v_work : (Nat → Int)) : Option R_iM_lay :=
  gd (jb x3 13) <|
  gd (jb x3 12) <|
  if v_work x3.toNat < v_ratio x3.toNat then
    k138 x2 v_work
  else
    gd (jr (x3 + 1)) <|
    gd (jb (x3 + 1) 13) <|
    gd (jr ((v_work x3.toNat) - (v_ratio x3.toNat))) <|
    gd (jr (((va_up v_work x3.toNat ((v_work x3.toNat) - (v_ratio x3.toNat))) ((x3 + 1).toNat)) + 1)) <|
    if (va_up (va_up v_work x3.toNat ((v_work x3.toNat) - (v_ratio x3.toNat))) ((x3 + 1).toNat) (((va_up v_work x3.toNat ((v_work x3.toNat) - (v_ratio x3.toNat))) ((x3 + 1).toNat)) + 1)) ((x3 + 1).toNat) ≤ 99 then
      gd (jr (x2 + 1)) <|
      self (x2 + 1) (va_up (va_up v_work x3.toNat ((v_work x3.toNat) - (v_ratio x3.toNat))) ((x3 + 1).toNat) (((va_up v_work x3.toNat ((v_work x3.toNat) - (v_ratio x3.toNat))) ((x3 + 1).toNat)) + 1))
    else
      some ((-1), v_lie, v_plain, va_up (va_up v_work x3.toNat ((v_work x3.toNat) - (v_ratio x3.toNat))) ((x3 + 1).toNat) (((va_up v_work x3.toNat ((v_work x3.toNat) - (v_ratio x3.toNat))) ((x3 + 1).toNat)) + 1))
def iM_lay_b75 (N : Nat) (a1 : Int) (v_ratio : (Nat → Int)) (x3 : Int) (v_lie : (Nat → Int)) (v_plain : (Nat → Int)) (k138 : Int → (Nat → Int) → Option R_iM_lay) : Nat → Int → (Nat → Int) → Option R_iM_lay := zlp2 (iM_lay_b75_F N a1 v_ratio x3 v_lie v_plain k138)
def iM_lay_b138 (N : Nat) (a1 : Int) (v_ratio : (Nat → Int)) (self : Int → Int → (Nat → Int) → Option R_iM_lay) (k144 : Int → (Nat → Int) → Option R_iM_lay) (x2 : Int) (x3 : Int) (v_lie : (Nat → Int)) (v_plain : (Nat → Int)) (v_work : (Nat → Int)) : Option R_iM_lay :=
  gd (jr (x3 + 1)) <|
  self x2 (x3 + 1) v_work
def iM_lay_b69_F (N : Nat) (a1 : Int) (v_ratio : (Nat → Int)) (v_lie : (Nat → Int)) (v_plain : (Nat → Int)) (k144 : Int → (Nat → Int) → Option R_iM_lay) (self : Int → Int → (Nat → Int) → Option R_iM_lay) (x2 : Int) (x3 : Int) (v_work : (Nat → Int)) : Option R_iM_lay :=
  if 12 ≤ x3 then
    k144 x2 v_work
  else
    iM_lay_b75 N a1 v_ratio x3 v_lie v_plain (fun x2_k2 e9_ => iM_lay_b138 N a1 v_ratio self k144 x2_k2 x3 v_lie v_plain e9_) N x2 v_work
def iM_lay_b69 (N : Nat) (a1 : Int) (v_ratio : (Nat → Int)) (v_lie : (Nat → Int)) (v_plain : (Nat → Int)) (k144 : Int → (Nat → Int) → Option R_iM_lay) : Nat → Int → Int → (Nat → Int) → Option R_iM_lay := zlp3 (iM_lay_b69_F N a1 v_ratio v_lie v_plain k144)
def iM_lay_b144 (N : Nat) (a1 : Int) (v_ratio : (Nat → Int)) (x2 : Int) (v_lie : (Nat → Int)) (v_plain : (Nat → Int)) (v_work : (Nat → Int)) : Option R_iM_lay :=
  bd1 (iM_stays N v_lie v_work) fun v_lie_c5 =>
  some (x2, v_lie_c5, v_plain, v_work)
def iM_lay_b65 (N : Nat) (a1 : Int) (v_ratio : (Nat → Int)) (v_lie : (Nat → Int)) (v_plain : (Nat → Int)) (v_work : (Nat → Int)) : Option R_iM_lay :=
  iM_lay_b69 N a1 v_ratio v_lie v_plain (fun x2_k4 e6_ => iM_lay_b144 N a1 v_ratio x2_k4 v_lie v_plain e6_) N 0 0 v_work
def iM_lay (N : Nat) (a1 : Int) (v_lie : (Nat → Int)) (v_plain : (Nat → Int)) (v_ratio : (Nat → Int)) (v_work : (Nat → Int)) : Option R_iM_lay :=
  bd1 (iM_isIn a1 0 1000000000) fun rc1 =>
  if rc1 = 0 then
    some ((-1), v_lie, v_plain, v_work)
  else
    bd1 (iM_plains N a1 v_plain v_ratio) fun v_plain_c2 =>
    bd1 (iM_works N v_lie v_work) fun v_work_c3 =>
    iM_lay_b25 N a1 v_ratio v_lie v_plain_c2 (fun e5_ => iM_lay_b65 N a1 v_ratio v_lie v_plain_c2 e5_) N 0 v_work_c3
def iM_above_b4_F (N : Nat) (a1 : Int) (v_work : (Nat → Int)) (k25 : Int → Option Int) (self : Int → Option Int) (x2 : Int) : Option Int :=
  if 13 ≤ x2 then
    k25 x2
  else
    gd (jb x2 13) <|
    if v_work x2.toNat = 0 then
      gd (jr (x2 + 1)) <|
      self (x2 + 1)
    else
      k25 x2
def iM_above_b4 (N : Nat) (a1 : Int) (v_work : (Nat → Int)) (k25 : Int → Option Int) : Nat → Int → Option Int := zlp1 (iM_above_b4_F N a1 v_work k25)
def iM_above_b25 (N : Nat) (a1 : Int) (v_work : (Nat → Int)) (x2 : Int) : Option Int :=
  if 13 ≤ x2 then
    some (-1)
  else
    some x2
def iM_above (N : Nat) (a1 : Int) (v_work : (Nat → Int)) : Option Int :=
  gd (jr (a1 + 1)) <|
  iM_above_b4 N a1 v_work (fun e3_ => iM_above_b25 N a1 v_work e3_) N (a1 + 1)
abbrev R_iM_draw : Type := Int × (Nat → Int) × (Nat → Int) × (Nat → Int)
def iM_draw_b77_F (N : Nat) (a1 : Int) (v_ratio : (Nat → Int)) (x3 : Int) (v_lie : (Nat → Int)) (v_plain : (Nat → Int)) (k124 : Int → (Nat → Int) → Option R_iM_draw) (self : Int → Int → (Nat → Int) → Option R_iM_draw) (x2 : Int) (x5 : Int) (v_work : (Nat → Int)) : Option R_iM_draw :=
  if x5 ≤ x3 then
    k124 x2 v_work
  else
    gd (jb x5 13) <|
    gd (jr (x5 - 1)) <|
    gd (jb (x5 - 1) 13) <|
    gd (jb (x5 - 1) 12) <|
    gd (jr (x2 + 1)) <|
    gd (jr (x5 + (-1))) <|
    gd (jr ((v_work x5.toNat) - 1)) <|
    gd (jr (((va_up v_work x5.toNat ((v_work x5.toNat) - 1)) ((x5 - 1).toNat)) + (v_ratio ((x5 - 1).toNat)))) <|
    self (x2 + 1) (x5 + (-1)) (va_up (va_up v_work x5.toNat ((v_work x5.toNat) - 1)) ((x5 - 1).toNat) (((va_up v_work x5.toNat ((v_work x5.toNat) - 1)) ((x5 - 1).toNat)) + (v_ratio ((x5 - 1).toNat))))
def iM_draw_b77 (N : Nat) (a1 : Int) (v_ratio : (Nat → Int)) (x3 : Int) (v_lie : (Nat → Int)) (v_plain : (Nat → Int)) (k124 : Int → (Nat → Int) → Option R_iM_draw) : Nat → Int → Int → (Nat → Int) → Option R_iM_draw := zlp3 (iM_draw_b77_F N a1 v_ratio x3 v_lie v_plain k124)
def iM_draw_b124 (N : Nat) (a1 : Int) (v_ratio : (Nat → Int)) (self : Int → (Nat → Int) → Option R_iM_draw) (k127 : Int → (Nat → Int) → Option R_iM_draw) (x2 : Int) (x3 : Int) (v_lie : (Nat → Int)) (v_plain : (Nat → Int)) (v_work : (Nat → Int)) : Option R_iM_draw :=
  self x2 v_work
def iM_draw_b43_F (N : Nat) (a1 : Int) (v_ratio : (Nat → Int)) (x3 : Int) (v_lie : (Nat → Int)) (v_plain : (Nat → Int)) (k127 : Int → (Nat → Int) → Option R_iM_draw) (self : Int → (Nat → Int) → Option R_iM_draw) (x2 : Int) (v_work : (Nat → Int)) : Option R_iM_draw :=
  gd (jb x3 13) <|
  if v_plain x3.toNat ≤ v_work x3.toNat then
    k127 x2 v_work
  else
    bd1 (iM_above N x3 v_work) fun rc7 =>
    if rc7 = (-1) then
      some ((-1), v_lie, v_plain, v_work)
    else
      iM_draw_b77 N a1 v_ratio x3 v_lie v_plain (fun x2_k1 e9_ => iM_draw_b124 N a1 v_ratio self k127 x2_k1 x3 v_lie v_plain e9_) N x2 rc7 v_work
def iM_draw_b43 (N : Nat) (a1 : Int) (v_ratio : (Nat → Int)) (x3 : Int) (v_lie : (Nat → Int)) (v_plain : (Nat → Int)) (k127 : Int → (Nat → Int) → Option R_iM_draw) : Nat → Int → (Nat → Int) → Option R_iM_draw := zlp2 (iM_draw_b43_F N a1 v_ratio x3 v_lie v_plain k127)
def iM_draw_b127 (N : Nat) (a1 : Int) (v_ratio : (Nat → Int)) (self : Int → Int → (Nat → Int) → Option R_iM_draw) (k148 : Int → (Nat → Int) → Option R_iM_draw) (x2 : Int) (x3 : Int) (v_lie : (Nat → Int)) (v_plain : (Nat → Int)) (v_work : (Nat → Int)) : Option R_iM_draw :=
  gd (jb x3 13) <|
  gd (jr (x3 + 1)) <|
  gd (jr ((v_work x3.toNat) - (v_plain x3.toNat))) <|
  self x2 (x3 + 1) (va_up v_work x3.toNat ((v_work x3.toNat) - (v_plain x3.toNat)))
def iM_draw_b37_F (N : Nat) (a1 : Int) (v_ratio : (Nat → Int)) (v_lie : (Nat → Int)) (v_plain : (Nat → Int)) (k148 : Int → (Nat → Int) → Option R_iM_draw) (self : Int → Int → (Nat → Int) → Option R_iM_draw) (x2 : Int) (x3 : Int) (v_work : (Nat → Int)) : Option R_iM_draw :=
  if 13 ≤ x3 then
    k148 x2 v_work
  else
    iM_draw_b43 N a1 v_ratio x3 v_lie v_plain (fun x2_k3 e9_ => iM_draw_b127 N a1 v_ratio self k148 x2_k3 x3 v_lie v_plain e9_) N x2 v_work
def iM_draw_b37 (N : Nat) (a1 : Int) (v_ratio : (Nat → Int)) (v_lie : (Nat → Int)) (v_plain : (Nat → Int)) (k148 : Int → (Nat → Int) → Option R_iM_draw) : Nat → Int → Int → (Nat → Int) → Option R_iM_draw := zlp3 (iM_draw_b37_F N a1 v_ratio v_lie v_plain k148)
def iM_draw_b148 (N : Nat) (a1 : Int) (v_ratio : (Nat → Int)) (x2 : Int) (v_lie : (Nat → Int)) (v_plain : (Nat → Int)) (v_work : (Nat → Int)) : Option R_iM_draw :=
  bd1 (iM_stays N v_lie v_work) fun v_lie_c5 =>
  some (x2, v_lie_c5, v_plain, v_work)
def iM_draw (N : Nat) (a1 : Int) (v_lie : (Nat → Int)) (v_plain : (Nat → Int)) (v_ratio : (Nat → Int)) (v_work : (Nat → Int)) : Option R_iM_draw :=
  bd1 (iM_isIn a1 0 1000000000) fun rc1 =>
  if rc1 = 0 then
    some ((-1), v_lie, v_plain, v_work)
  else
    bd1 (iM_worth N v_lie v_ratio) fun rc2 =>
    if a1 ≤ rc2 then
      bd1 (iM_plains N a1 v_plain v_ratio) fun v_plain_c3 =>
      bd1 (iM_works N v_lie v_work) fun v_work_c4 =>
      iM_draw_b37 N a1 v_ratio v_lie v_plain_c3 (fun x2_k5 e6_ => iM_draw_b148 N a1 v_ratio x2_k5 v_lie v_plain_c3 e6_) N 0 0 v_work_c4
    else
      some ((-1), v_lie, v_plain, v_work)
def iM_size (a0 : Int) : Option Int :=
  if 0 ≤ a0 then
    some a0
  else
    gd (jr (-a0)) <|
    some (-a0)
abbrev R_iM_steps : Type := Int × (Nat → Int) × (Nat → Int) × (Nat → Int)
def iM_steps_b46 (N : Nat) (a1 : Int) (v_lie : (Nat → Int)) (v_ratio : (Nat → Int)) (self : Int → (Nat → Int) → Option R_iM_steps) (k53 : (Nat → Int) → Option R_iM_steps) (x2 : Int) (s1 : Int) (s2 : Int) (v_fewest : (Nat → Int)) (v_next : (Nat → Int)) (v_plain : (Nat → Int)) : Option R_iM_steps :=
  gd (jb s1 601) <|
  gd (jr (x2 + 1)) <|
  self (x2 + 1) (va_up v_fewest s1.toNat s2)
def iM_steps_b21_F (N : Nat) (a1 : Int) (v_lie : (Nat → Int)) (v_ratio : (Nat → Int)) (v_next : (Nat → Int)) (v_plain : (Nat → Int)) (k53 : (Nat → Int) → Option R_iM_steps) (self : Int → (Nat → Int) → Option R_iM_steps) (x2 : Int) (v_fewest : (Nat → Int)) : Option R_iM_steps :=
  if 600 < x2 then
    k53 v_fewest
  else
    if x2 = 300 then
      iM_steps_b46 N a1 v_lie v_ratio self k53 x2 x2 0 v_fewest v_next v_plain
    else
      iM_steps_b46 N a1 v_lie v_ratio self k53 x2 x2 100000000 v_fewest v_next v_plain
def iM_steps_b21 (N : Nat) (a1 : Int) (v_lie : (Nat → Int)) (v_ratio : (Nat → Int)) (v_next : (Nat → Int)) (v_plain : (Nat → Int)) (k53 : (Nat → Int) → Option R_iM_steps) : Nat → Int → (Nat → Int) → Option R_iM_steps := zlp2 (iM_steps_b21_F N a1 v_lie v_ratio v_next v_plain k53)
def iM_steps_b63_F (N : Nat) (a1 : Int) (v_lie : (Nat → Int)) (v_ratio : (Nat → Int)) (x2 : Int) (v_fewest : (Nat → Int)) (v_plain : (Nat → Int)) (k84 : (Nat → Int) → Option R_iM_steps) (self : Int → (Nat → Int) → Option R_iM_steps) (x3 : Int) (v_next : (Nat → Int)) : Option R_iM_steps :=
  if 600 < x3 then
    k84 v_next
  else
    gd (jb x3 601) <|
    gd (jr (x3 + 1)) <|
    self (x3 + 1) (va_up v_next x3.toNat 100000000)
def iM_steps_b63 (N : Nat) (a1 : Int) (v_lie : (Nat → Int)) (v_ratio : (Nat → Int)) (x2 : Int) (v_fewest : (Nat → Int)) (v_plain : (Nat → Int)) (k84 : (Nat → Int) → Option R_iM_steps) : Nat → Int → (Nat → Int) → Option R_iM_steps := zlp2 (iM_steps_b63_F N a1 v_lie v_ratio x2 v_fewest v_plain k84)
def iM_steps_b206 (N : Nat) (a1 : Int) (v_lie : (Nat → Int)) (v_ratio : (Nat → Int)) (self : Int → (Nat → Int) → Option R_iM_steps) (k212 : (Nat → Int) → Option R_iM_steps) (x2 : Int) (x3 : Int) (v_fewest : (Nat → Int)) (v_next : (Nat → Int)) (v_plain : (Nat → Int)) : Option R_iM_steps :=
  gd (jr (x3 + 1)) <|
  self (x3 + 1) v_next
def iM_steps_b133_F (N : Nat) (a1 : Int) (v_lie : (Nat → Int)) (v_ratio : (Nat → Int)) (x2 : Int) (x3 : Int) (x4 : Int) (v_fewest : (Nat → Int)) (v_plain : (Nat → Int)) (k206 : (Nat → Int) → Option R_iM_steps) (self : Int → (Nat → Int) → Option R_iM_steps) (x5 : Int) (v_next : (Nat → Int)) : Option R_iM_steps :=
  if 300 < x5 then
    k206 v_next
  else
    gd (jb x3 601) <|
    bd1 (iM_size x5) fun rc10 =>
    gd (jb x2 12) <|
    gd (jr ((v_ratio x2.toNat) * x5)) <|
    gd (jr (x4 - ((v_ratio x2.toNat) * x5))) <|
    bd1 (iM_size (x4 - ((v_ratio x2.toNat) * x5))) fun rc12 =>
    gd (jr (x5 + 300)) <|
    gd (jb (x5 + 300) 601) <|
    gd (jr ((v_fewest x3.toNat) + rc10)) <|
    gd (jr (((v_fewest x3.toNat) + rc10) + rc12)) <|
    if v_next ((x5 + 300).toNat) ≤ ((v_fewest x3.toNat) + rc10) + rc12 then
      gd (jr (x5 + 1)) <|
      self (x5 + 1) v_next
    else
      gd (jr (x5 + 1)) <|
      self (x5 + 1) (va_up v_next ((x5 + 300).toNat) (((v_fewest x3.toNat) + rc10) + rc12))
def iM_steps_b133 (N : Nat) (a1 : Int) (v_lie : (Nat → Int)) (v_ratio : (Nat → Int)) (x2 : Int) (x3 : Int) (x4 : Int) (v_fewest : (Nat → Int)) (v_plain : (Nat → Int)) (k206 : (Nat → Int) → Option R_iM_steps) : Nat → Int → (Nat → Int) → Option R_iM_steps := zlp2 (iM_steps_b133_F N a1 v_lie v_ratio x2 x3 x4 v_fewest v_plain k206)
def iM_steps_b86_F (N : Nat) (a1 : Int) (v_lie : (Nat → Int)) (v_ratio : (Nat → Int)) (x2 : Int) (v_fewest : (Nat → Int)) (v_plain : (Nat → Int)) (k212 : (Nat → Int) → Option R_iM_steps) (self : Int → (Nat → Int) → Option R_iM_steps) (x3 : Int) (v_next : (Nat → Int)) : Option R_iM_steps :=
  if 600 < x3 then
    k212 v_next
  else
    gd (jb x3 601) <|
    if v_fewest x3.toNat = 100000000 then
      iM_steps_b206 N a1 v_lie v_ratio self k212 x2 x3 v_fewest v_next v_plain
    else
      gd (jb x2 13) <|
      gd (jr ((v_lie x2.toNat) + x3)) <|
      gd (jr (((v_lie x2.toNat) + x3) - 300)) <|
      gd (jr ((((v_lie x2.toNat) + x3) - 300) - (v_plain x2.toNat))) <|
      iM_steps_b133 N a1 v_lie v_ratio x2 x3 ((((v_lie x2.toNat) + x3) - 300) - (v_plain x2.toNat)) v_fewest v_plain (fun v_next_k3 => iM_steps_b206 N a1 v_lie v_ratio self k212 x2 x3 v_fewest v_next_k3 v_plain) N (-300) v_next
def iM_steps_b86 (N : Nat) (a1 : Int) (v_lie : (Nat → Int)) (v_ratio : (Nat → Int)) (x2 : Int) (v_fewest : (Nat → Int)) (v_plain : (Nat → Int)) (k212 : (Nat → Int) → Option R_iM_steps) : Nat → Int → (Nat → Int) → Option R_iM_steps := zlp2 (iM_steps_b86_F N a1 v_lie v_ratio x2 v_fewest v_plain k212)
def iM_steps_b214_F (N : Nat) (a1 : Int) (v_lie : (Nat → Int)) (v_ratio : (Nat → Int)) (x2 : Int) (v_next : (Nat → Int)) (v_plain : (Nat → Int)) (k239 : (Nat → Int) → Option R_iM_steps) (self : Int → (Nat → Int) → Option R_iM_steps) (x3 : Int) (v_fewest : (Nat → Int)) : Option R_iM_steps :=
  if 600 < x3 then
    k239 v_fewest
  else
    gd (jb x3 601) <|
    gd (jr (x3 + 1)) <|
    self (x3 + 1) (va_up v_fewest x3.toNat (v_next x3.toNat))
def iM_steps_b214 (N : Nat) (a1 : Int) (v_lie : (Nat → Int)) (v_ratio : (Nat → Int)) (x2 : Int) (v_next : (Nat → Int)) (v_plain : (Nat → Int)) (k239 : (Nat → Int) → Option R_iM_steps) : Nat → Int → (Nat → Int) → Option R_iM_steps := zlp2 (iM_steps_b214_F N a1 v_lie v_ratio x2 v_next v_plain k239)
def iM_steps_b239 (N : Nat) (a1 : Int) (v_lie : (Nat → Int)) (v_ratio : (Nat → Int)) (self : Int → (Nat → Int) → (Nat → Int) → Option R_iM_steps) (k245 : (Nat → Int) → (Nat → Int) → Option R_iM_steps) (x2 : Int) (v_fewest : (Nat → Int)) (v_next : (Nat → Int)) (v_plain : (Nat → Int)) : Option R_iM_steps :=
  gd (jr (x2 + 1)) <|
  self (x2 + 1) v_fewest v_next
def iM_steps_b212 (N : Nat) (a1 : Int) (v_lie : (Nat → Int)) (v_ratio : (Nat → Int)) (self : Int → (Nat → Int) → (Nat → Int) → Option R_iM_steps) (k245 : (Nat → Int) → (Nat → Int) → Option R_iM_steps) (x2 : Int) (v_fewest : (Nat → Int)) (v_next : (Nat → Int)) (v_plain : (Nat → Int)) : Option R_iM_steps :=
  iM_steps_b214 N a1 v_lie v_ratio x2 v_next v_plain (fun v_fewest_k5 => iM_steps_b239 N a1 v_lie v_ratio self k245 x2 v_fewest_k5 v_next v_plain) N 0 v_fewest
def iM_steps_b84 (N : Nat) (a1 : Int) (v_lie : (Nat → Int)) (v_ratio : (Nat → Int)) (self : Int → (Nat → Int) → (Nat → Int) → Option R_iM_steps) (k245 : (Nat → Int) → (Nat → Int) → Option R_iM_steps) (x2 : Int) (v_fewest : (Nat → Int)) (v_next : (Nat → Int)) (v_plain : (Nat → Int)) : Option R_iM_steps :=
  iM_steps_b86 N a1 v_lie v_ratio x2 v_fewest v_plain (fun v_next_k4 => iM_steps_b212 N a1 v_lie v_ratio self k245 x2 v_fewest v_next_k4 v_plain) N 0 v_next
def iM_steps_b55_F (N : Nat) (a1 : Int) (v_lie : (Nat → Int)) (v_ratio : (Nat → Int)) (v_plain : (Nat → Int)) (k245 : (Nat → Int) → (Nat → Int) → Option R_iM_steps) (self : Int → (Nat → Int) → (Nat → Int) → Option R_iM_steps) (x2 : Int) (v_fewest : (Nat → Int)) (v_next : (Nat → Int)) : Option R_iM_steps :=
  if 12 ≤ x2 then
    k245 v_fewest v_next
  else
    iM_steps_b63 N a1 v_lie v_ratio x2 v_fewest v_plain (fun v_next_k2 => iM_steps_b84 N a1 v_lie v_ratio self k245 x2 v_fewest v_next_k2 v_plain) N 0 v_next
def iM_steps_b55 (N : Nat) (a1 : Int) (v_lie : (Nat → Int)) (v_ratio : (Nat → Int)) (v_plain : (Nat → Int)) (k245 : (Nat → Int) → (Nat → Int) → Option R_iM_steps) : Nat → Int → (Nat → Int) → (Nat → Int) → Option R_iM_steps := zlp3 (iM_steps_b55_F N a1 v_lie v_ratio v_plain k245)
def iM_steps_b250_F (N : Nat) (a1 : Int) (v_lie : (Nat → Int)) (v_ratio : (Nat → Int)) (v_fewest : (Nat → Int)) (v_next : (Nat → Int)) (v_plain : (Nat → Int)) (self : Int → Int → Option R_iM_steps) (x2 : Int) (x3 : Int) : Option R_iM_steps :=
  if 600 < x3 then
    some (x2, v_fewest, v_next, v_plain)
  else
    gd (jb x3 601) <|
    gd (jr ((v_lie 12) + x3)) <|
    gd (jr (((v_lie 12) + x3) - 300)) <|
    gd (jr ((((v_lie 12) + x3) - 300) - (v_plain 12))) <|
    bd1 (iM_size ((((v_lie 12) + x3) - 300) - (v_plain 12))) fun rc6 =>
    gd (jr ((v_fewest x3.toNat) + rc6)) <|
    if x2 ≤ (v_fewest x3.toNat) + rc6 then
      gd (jr (x3 + 1)) <|
      self x2 (x3 + 1)
    else
      gd (jr (x3 + 1)) <|
      self ((v_fewest x3.toNat) + rc6) (x3 + 1)
def iM_steps_b250 (N : Nat) (a1 : Int) (v_lie : (Nat → Int)) (v_ratio : (Nat → Int)) (v_fewest : (Nat → Int)) (v_next : (Nat → Int)) (v_plain : (Nat → Int)) : Nat → Int → Int → Option R_iM_steps := zlp2 (iM_steps_b250_F N a1 v_lie v_ratio v_fewest v_next v_plain)
def iM_steps_b245 (N : Nat) (a1 : Int) (v_lie : (Nat → Int)) (v_ratio : (Nat → Int)) (v_fewest : (Nat → Int)) (v_next : (Nat → Int)) (v_plain : (Nat → Int)) : Option R_iM_steps :=
  iM_steps_b250 N a1 v_lie v_ratio v_fewest v_next v_plain N 100000000 0
def iM_steps_b53 (N : Nat) (a1 : Int) (v_lie : (Nat → Int)) (v_ratio : (Nat → Int)) (v_fewest : (Nat → Int)) (v_next : (Nat → Int)) (v_plain : (Nat → Int)) : Option R_iM_steps :=
  iM_steps_b55 N a1 v_lie v_ratio v_plain (fun v_fewest_k6 v_next_k7 => iM_steps_b245 N a1 v_lie v_ratio v_fewest_k6 v_next_k7 v_plain) N 0 v_fewest v_next
def iM_steps (N : Nat) (a1 : Int) (v_fewest : (Nat → Int)) (v_lie : (Nat → Int)) (v_next : (Nat → Int)) (v_plain : (Nat → Int)) (v_ratio : (Nat → Int)) : Option R_iM_steps :=
  bd1 (iM_isIn a1 0 1000000000) fun rc1 =>
  if rc1 = 0 then
    some ((-1), v_fewest, v_next, v_plain)
  else
    bd1 (iM_plains N a1 v_plain v_ratio) fun v_plain_c2 =>
    iM_steps_b21 N a1 v_lie v_ratio v_next v_plain_c2 (fun v_fewest_k1 => iM_steps_b53 N a1 v_lie v_ratio v_fewest_k1 v_next v_plain_c2) N 0 v_fewest
def iM_half (a0 : Int) (a1 : Int) : Option Int :=
  bd1 (iM_isIn a1 0 9) fun rc1 =>
  if rc1 = 0 then
    some (-1)
  else
    if a0 = 0 then
      some a1
    else
      gd (jr (10 + a1)) <|
      some (10 + a1)
abbrev R_iM_cut : Type := Int × (Nat → Int) × (Nat → Int) × (Nat → Int)
def iM_cut_b88 (a1 : Int) (a2 : Int) (a3 : Int) (a4 : Int) (x5 : Int) (v_cutAt : (Nat → Int)) (v_cutWorth : (Nat → Int)) (v_cuts : (Nat → Int)) : Option R_iM_cut :=
  gd (jb x5 20) <|
  gd (jr (12 * x5)) <|
  gd (jr ((12 * x5) + (v_cuts x5.toNat))) <|
  gd (jb ((12 * x5) + (v_cuts x5.toNat)) 240) <|
  gd (jr ((v_cuts x5.toNat) + 1)) <|
  some ((va_up v_cuts x5.toNat ((v_cuts x5.toNat) + 1)) x5.toNat, va_up v_cutAt (((12 * x5) + (v_cuts x5.toNat)).toNat) a3, va_up v_cutWorth (((12 * x5) + (v_cuts x5.toNat)).toNat) a4, va_up v_cuts x5.toNat ((v_cuts x5.toNat) + 1))
def iM_cut (a1 : Int) (a2 : Int) (a3 : Int) (a4 : Int) (v_cutAt : (Nat → Int)) (v_cutWorth : (Nat → Int)) (v_cuts : (Nat → Int)) : Option R_iM_cut :=
  bd1 (iM_half a1 a2) fun rc1 =>
  if rc1 = (-1) then
    some ((-1), v_cutAt, v_cutWorth, v_cuts)
  else
    bd1 (iM_isIn a3 0 240) fun rc2 =>
    if rc2 = 0 then
      some ((-1), v_cutAt, v_cutWorth, v_cuts)
    else
      bd1 (iM_isIn a4 0 5) fun rc3 =>
      if rc3 = 0 then
        some ((-1), v_cutAt, v_cutWorth, v_cuts)
      else
        gd (jb rc1 20) <|
        if v_cuts rc1.toNat = 12 then
          some ((-1), v_cutAt, v_cutWorth, v_cuts)
        else
          if v_cuts rc1.toNat ≤ 0 then
            iM_cut_b88 a1 a2 a3 a4 rc1 v_cutAt v_cutWorth v_cuts
          else
            gd (jr (12 * rc1)) <|
            gd (jr ((12 * rc1) + (v_cuts rc1.toNat))) <|
            gd (jr (((12 * rc1) + (v_cuts rc1.toNat)) - 1)) <|
            gd (jb (((12 * rc1) + (v_cuts rc1.toNat)) - 1) 240) <|
            if v_cutAt ((((12 * rc1) + (v_cuts rc1.toNat)) - 1).toNat) < a3 then
              iM_cut_b88 a1 a2 a3 a4 rc1 v_cutAt v_cutWorth v_cuts
            else
              some ((-1), v_cutAt, v_cutWorth, v_cuts)
def iM_isThere (a1 : Int) (v_cuts : (Nat → Int)) : Option Int :=
  if a1 = (-1) then
    some 0
  else
    gd (jb a1 20) <|
    if v_cuts a1.toNat ≤ 0 then
      some 0
    else
      some 1
abbrev R_iM_burn : Type := Int × (Nat → Int)
def iM_burn (a1 : Int) (a2 : Int) (v_cuts : (Nat → Int)) : Option R_iM_burn :=
  bd1 (iM_half a1 a2) fun rc1 =>
  bd1 (iM_isThere rc1 v_cuts) fun rc2 =>
  if rc2 = 0 then
    some (0, v_cuts)
  else
    gd (jb rc1 20) <|
    some (1, va_up v_cuts rc1.toNat 0)
def iM_sumOf_b4_F (N : Nat) (a1 : Int) (v_cutWorth : (Nat → Int)) (v_cuts : (Nat → Int)) (v_pence : (Nat → Int)) (self : Int → Int → Option Int) (x2 : Int) (x3 : Int) : Option Int :=
  gd (jb a1 20) <|
  if v_cuts a1.toNat ≤ x3 then
    some x2
  else
    gd (jr (12 * a1)) <|
    gd (jr ((12 * a1) + x3)) <|
    gd (jb ((12 * a1) + x3) 240) <|
    gd (jb (v_cutWorth (((12 * a1) + x3).toNat)) 6) <|
    gd (jr (x2 + (v_pence ((v_cutWorth (((12 * a1) + x3).toNat)).toNat)))) <|
    gd (jr (x3 + 1)) <|
    self (x2 + (v_pence ((v_cutWorth (((12 * a1) + x3).toNat)).toNat))) (x3 + 1)
def iM_sumOf_b4 (N : Nat) (a1 : Int) (v_cutWorth : (Nat → Int)) (v_cuts : (Nat → Int)) (v_pence : (Nat → Int)) : Nat → Int → Int → Option Int := zlp2 (iM_sumOf_b4_F N a1 v_cutWorth v_cuts v_pence)
def iM_sumOf (N : Nat) (a1 : Int) (v_cutWorth : (Nat → Int)) (v_cuts : (Nat → Int)) (v_pence : (Nat → Int)) : Option Int :=
  iM_sumOf_b4 N a1 v_cutWorth v_cuts v_pence N 0 0
def iM_sum (N : Nat) (a1 : Int) (a2 : Int) (v_cutWorth : (Nat → Int)) (v_cuts : (Nat → Int)) (v_pence : (Nat → Int)) : Option Int :=
  bd1 (iM_half a1 a2) fun rc1 =>
  bd1 (iM_isThere rc1 v_cuts) fun rc2 =>
  if rc2 = 0 then
    some (-1)
  else
    bd1 (iM_sumOf N rc1 v_cutWorth v_cuts v_pence) fun rc3 =>
    some rc3
abbrev R_iM_wear : Type := Int × Int × Int × Int
def iM_wear (a1 : Int) (a2 : Int) (a3 : Int) (v_grain : Int) (v_limit : Int) (v_lost : Int) : Option R_iM_wear :=
  bd1 (iM_isIn a1 0 20) fun rc1 =>
  if rc1 = 0 then
    some (0, v_grain, v_limit, v_lost)
  else
    bd1 (iM_isIn a2 1 100) fun rc2 =>
    if rc2 = 0 then
      some (0, v_grain, v_limit, v_lost)
    else
      bd1 (iM_isIn a3 0 500) fun rc3 =>
      if rc3 = 0 then
        some (0, v_grain, v_limit, v_lost)
      else
        some (1, a1, a3, a2)
def iM_pairs (a1 : Int) (a2 : Int) (v_grain : Int) (v_cutAt : (Nat → Int)) (v_cutWorth : (Nat → Int)) : Option Int :=
  gd (jb a1 240) <|
  gd (jb a2 240) <|
  if v_cutWorth a1.toNat = v_cutWorth a2.toNat then
    gd (jr ((v_cutAt a1.toNat) - (v_cutAt a2.toNat))) <|
    bd1 (iM_size ((v_cutAt a1.toNat) - (v_cutAt a2.toNat))) fun rc3 =>
    if v_grain < rc3 then
      some 0
    else
      some 1
  else
    some 0
abbrev R_iM_fitOf : Type := Int × (Nat → Int)
def iM_fitOf_b236 (N : Nat) (a1 : Int) (a2 : Int) (v_grain : Int) (v_lost : Int) (v_cutAt : (Nat → Int)) (v_cutWorth : (Nat → Int)) (v_cuts : (Nat → Int)) (self : Int → (Nat → Int) → Option R_iM_fitOf) (k256 : (Nat → Int) → Option R_iM_fitOf) (x3 : Int) (x4 : Int) (x5 : Int) (v_cost : (Nat → Int)) : Option R_iM_fitOf :=
  gd (jr (13 * x3)) <|
  gd (jr ((13 * x3) + x4)) <|
  gd (jb ((13 * x3) + x4) 169) <|
  gd (jr (x4 + 1)) <|
  self (x4 + 1) (va_up v_cost (((13 * x3) + x4).toNat) x5)
def iM_fitOf_b142 (N : Nat) (a1 : Int) (a2 : Int) (v_grain : Int) (v_lost : Int) (v_cutAt : (Nat → Int)) (v_cutWorth : (Nat → Int)) (v_cuts : (Nat → Int)) (self : Int → (Nat → Int) → Option R_iM_fitOf) (k256 : (Nat → Int) → Option R_iM_fitOf) (x3 : Int) (x4 : Int) (x5 : Int) (v_cost : (Nat → Int)) : Option R_iM_fitOf :=
  if x3 ≤ 0 then
    iM_fitOf_b236 N a1 a2 v_grain v_lost v_cutAt v_cutWorth v_cuts self k256 x3 x4 x5 v_cost
  else
    if x4 ≤ 0 then
      iM_fitOf_b236 N a1 a2 v_grain v_lost v_cutAt v_cutWorth v_cuts self k256 x3 x4 x5 v_cost
    else
      gd (jr (12 * a1)) <|
      gd (jr ((12 * a1) + x3)) <|
      gd (jr (((12 * a1) + x3) - 1)) <|
      gd (jr (12 * a2)) <|
      gd (jr ((12 * a2) + x4)) <|
      gd (jr (((12 * a2) + x4) - 1)) <|
      bd1 (iM_pairs (((12 * a1) + x3) - 1) (((12 * a2) + x4) - 1) v_grain v_cutAt v_cutWorth) fun rc7 =>
      if rc7 = 0 then
        iM_fitOf_b236 N a1 a2 v_grain v_lost v_cutAt v_cutWorth v_cuts self k256 x3 x4 x5 v_cost
      else
        gd (jr (x3 - 1)) <|
        gd (jr (13 * (x3 - 1))) <|
        gd (jr ((13 * (x3 - 1)) + x4)) <|
        gd (jr (((13 * (x3 - 1)) + x4) - 1)) <|
        gd (jb (((13 * (x3 - 1)) + x4) - 1) 169) <|
        gd (jb (((12 * a1) + x3) - 1) 240) <|
        gd (jb (((12 * a2) + x4) - 1) 240) <|
        gd (jr ((v_cutAt ((((12 * a1) + x3) - 1).toNat)) - (v_cutAt ((((12 * a2) + x4) - 1).toNat)))) <|
        bd1 (iM_size ((v_cutAt ((((12 * a1) + x3) - 1).toNat)) - (v_cutAt ((((12 * a2) + x4) - 1).toNat)))) fun rc11 =>
        gd (jr ((v_cost ((((13 * (x3 - 1)) + x4) - 1).toNat)) + rc11)) <|
        if x5 ≤ (v_cost ((((13 * (x3 - 1)) + x4) - 1).toNat)) + rc11 then
          iM_fitOf_b236 N a1 a2 v_grain v_lost v_cutAt v_cutWorth v_cuts self k256 x3 x4 x5 v_cost
        else
          iM_fitOf_b236 N a1 a2 v_grain v_lost v_cutAt v_cutWorth v_cuts self k256 x3 x4 ((v_cost ((((13 * (x3 - 1)) + x4) - 1).toNat)) + rc11) v_cost
def iM_fitOf_b92 (N : Nat) (a1 : Int) (a2 : Int) (v_grain : Int) (v_lost : Int) (v_cutAt : (Nat → Int)) (v_cutWorth : (Nat → Int)) (v_cuts : (Nat → Int)) (self : Int → (Nat → Int) → Option R_iM_fitOf) (k256 : (Nat → Int) → Option R_iM_fitOf) (x3 : Int) (x4 : Int) (x5 : Int) (v_cost : (Nat → Int)) : Option R_iM_fitOf :=
  if x4 ≤ 0 then
    iM_fitOf_b142 N a1 a2 v_grain v_lost v_cutAt v_cutWorth v_cuts self k256 x3 x4 x5 v_cost
  else
    gd (jr (13 * x3)) <|
    gd (jr ((13 * x3) + x4)) <|
    gd (jr (((13 * x3) + x4) - 1)) <|
    gd (jb (((13 * x3) + x4) - 1) 169) <|
    gd (jr ((v_cost ((((13 * x3) + x4) - 1).toNat)) + v_lost)) <|
    if x5 ≤ (v_cost ((((13 * x3) + x4) - 1).toNat)) + v_lost then
      iM_fitOf_b142 N a1 a2 v_grain v_lost v_cutAt v_cutWorth v_cuts self k256 x3 x4 x5 v_cost
    else
      iM_fitOf_b142 N a1 a2 v_grain v_lost v_cutAt v_cutWorth v_cuts self k256 x3 x4 ((v_cost ((((13 * x3) + x4) - 1).toNat)) + v_lost) v_cost
def iM_fitOf_b41 (N : Nat) (a1 : Int) (a2 : Int) (v_grain : Int) (v_lost : Int) (v_cutAt : (Nat → Int)) (v_cutWorth : (Nat → Int)) (v_cuts : (Nat → Int)) (self : Int → (Nat → Int) → Option R_iM_fitOf) (k256 : (Nat → Int) → Option R_iM_fitOf) (x3 : Int) (x4 : Int) (s0 : Int) (v_cost : (Nat → Int)) : Option R_iM_fitOf :=
  if x3 ≤ 0 then
    iM_fitOf_b92 N a1 a2 v_grain v_lost v_cutAt v_cutWorth v_cuts self k256 x3 x4 s0 v_cost
  else
    gd (jr (x3 - 1)) <|
    gd (jr (13 * (x3 - 1))) <|
    gd (jr ((13 * (x3 - 1)) + x4)) <|
    gd (jb ((13 * (x3 - 1)) + x4) 169) <|
    gd (jr ((v_cost (((13 * (x3 - 1)) + x4).toNat)) + v_lost)) <|
    if s0 ≤ (v_cost (((13 * (x3 - 1)) + x4).toNat)) + v_lost then
      iM_fitOf_b92 N a1 a2 v_grain v_lost v_cutAt v_cutWorth v_cuts self k256 x3 x4 s0 v_cost
    else
      iM_fitOf_b92 N a1 a2 v_grain v_lost v_cutAt v_cutWorth v_cuts self k256 x3 x4 ((v_cost (((13 * (x3 - 1)) + x4).toNat)) + v_lost) v_cost
def iM_fitOf_b39 (N : Nat) (a1 : Int) (a2 : Int) (v_grain : Int) (v_lost : Int) (v_cutAt : (Nat → Int)) (v_cutWorth : (Nat → Int)) (v_cuts : (Nat → Int)) (self : Int → (Nat → Int) → Option R_iM_fitOf) (k256 : (Nat → Int) → Option R_iM_fitOf) (x3 : Int) (x4 : Int) (v_cost : (Nat → Int)) : Option R_iM_fitOf :=
  iM_fitOf_b41 N a1 a2 v_grain v_lost v_cutAt v_cutWorth v_cuts self k256 x3 x4 100000000 v_cost
def iM_fitOf_b15_F (N : Nat) (a1 : Int) (a2 : Int) (v_grain : Int) (v_lost : Int) (v_cutAt : (Nat → Int)) (v_cutWorth : (Nat → Int)) (v_cuts : (Nat → Int)) (x3 : Int) (k256 : (Nat → Int) → Option R_iM_fitOf) (self : Int → (Nat → Int) → Option R_iM_fitOf) (x4 : Int) (v_cost : (Nat → Int)) : Option R_iM_fitOf :=
  gd (jb a2 20) <|
  if v_cuts a2.toNat < x4 then
    k256 v_cost
  else
    if x3 = 0 then
      if x4 = 0 then
        iM_fitOf_b41 N a1 a2 v_grain v_lost v_cutAt v_cutWorth v_cuts self k256 x3 x4 0 v_cost
      else
        iM_fitOf_b39 N a1 a2 v_grain v_lost v_cutAt v_cutWorth v_cuts self k256 x3 x4 v_cost
    else
      iM_fitOf_b39 N a1 a2 v_grain v_lost v_cutAt v_cutWorth v_cuts self k256 x3 x4 v_cost
def iM_fitOf_b15 (N : Nat) (a1 : Int) (a2 : Int) (v_grain : Int) (v_lost : Int) (v_cutAt : (Nat → Int)) (v_cutWorth : (Nat → Int)) (v_cuts : (Nat → Int)) (x3 : Int) (k256 : (Nat → Int) → Option R_iM_fitOf) : Nat → Int → (Nat → Int) → Option R_iM_fitOf := zlp2 (iM_fitOf_b15_F N a1 a2 v_grain v_lost v_cutAt v_cutWorth v_cuts x3 k256)
def iM_fitOf_b256 (N : Nat) (a1 : Int) (a2 : Int) (v_grain : Int) (v_lost : Int) (v_cutAt : (Nat → Int)) (v_cutWorth : (Nat → Int)) (v_cuts : (Nat → Int)) (self : Int → (Nat → Int) → Option R_iM_fitOf) (x3 : Int) (v_cost : (Nat → Int)) : Option R_iM_fitOf :=
  gd (jr (x3 + 1)) <|
  self (x3 + 1) v_cost
def iM_fitOf_b2_F (N : Nat) (a1 : Int) (a2 : Int) (v_grain : Int) (v_lost : Int) (v_cutAt : (Nat → Int)) (v_cutWorth : (Nat → Int)) (v_cuts : (Nat → Int)) (self : Int → (Nat → Int) → Option R_iM_fitOf) (x3 : Int) (v_cost : (Nat → Int)) : Option R_iM_fitOf :=
  gd (jb a1 20) <|
  if v_cuts a1.toNat < x3 then
    gd (jb a2 20) <|
    gd (jr (13 * (v_cuts a1.toNat))) <|
    gd (jr ((13 * (v_cuts a1.toNat)) + (v_cuts a2.toNat))) <|
    gd (jb ((13 * (v_cuts a1.toNat)) + (v_cuts a2.toNat)) 169) <|
    some (v_cost (((13 * (v_cuts a1.toNat)) + (v_cuts a2.toNat)).toNat), v_cost)
  else
    iM_fitOf_b15 N a1 a2 v_grain v_lost v_cutAt v_cutWorth v_cuts x3 (fun e10_ => iM_fitOf_b256 N a1 a2 v_grain v_lost v_cutAt v_cutWorth v_cuts self x3 e10_) N 0 v_cost
def iM_fitOf_b2 (N : Nat) (a1 : Int) (a2 : Int) (v_grain : Int) (v_lost : Int) (v_cutAt : (Nat → Int)) (v_cutWorth : (Nat → Int)) (v_cuts : (Nat → Int)) : Nat → Int → (Nat → Int) → Option R_iM_fitOf := zlp2 (iM_fitOf_b2_F N a1 a2 v_grain v_lost v_cutAt v_cutWorth v_cuts)
def iM_fitOf (N : Nat) (a1 : Int) (a2 : Int) (v_grain : Int) (v_lost : Int) (v_cost : (Nat → Int)) (v_cutAt : (Nat → Int)) (v_cutWorth : (Nat → Int)) (v_cuts : (Nat → Int)) : Option R_iM_fitOf :=
  iM_fitOf_b2 N a1 a2 v_grain v_lost v_cutAt v_cutWorth v_cuts N 0 v_cost
abbrev R_iM_fit : Type := Int × (Nat → Int)
def iM_fit (N : Nat) (a1 : Int) (a2 : Int) (v_grain : Int) (v_lost : Int) (v_cost : (Nat → Int)) (v_cutAt : (Nat → Int)) (v_cutWorth : (Nat → Int)) (v_cuts : (Nat → Int)) : Option R_iM_fit :=
  bd1 (iM_half 0 a1) fun rc1 =>
  bd1 (iM_half 1 a2) fun rc2 =>
  bd1 (iM_isThere rc1 v_cuts) fun rc3 =>
  if rc3 = 0 then
    some ((-1), v_cost)
  else
    bd1 (iM_isThere rc2 v_cuts) fun rc4 =>
    if rc4 = 0 then
      some ((-1), v_cost)
    else
      bd2 (iM_fitOf N rc1 rc2 v_grain v_lost v_cost v_cutAt v_cutWorth v_cuts) fun rc5 v_cost_c5 =>
      some (rc5, v_cost_c5)
def iM_canPair (a1 : Int) (a2 : Int) (a3 : Int) (v_limit : Int) (v_fits : (Nat → Int)) : Option Int :=
  gd (jr (10 * a1)) <|
  gd (jr ((10 * a1) + a2)) <|
  gd (jb ((10 * a1) + a2) 100) <|
  if v_limit < v_fits (((10 * a1) + a2).toNat) then
    some 0
  else
    if jand (jshr a3 a2) 1 = 0 then
      some 1
    else
      some 0
def iM_paired (a1 : Int) (a2 : Int) (a3 : Int) (v_best : (Nat → Int)) (v_fits : (Nat → Int)) : Option Int :=
  gd (jr (a1 + 1)) <|
  gd (jr (1024 * (a1 + 1))) <|
  gd (jr ((1024 * (a1 + 1)) + (jor a3 (jshl 1 a2)))) <|
  gd (jb ((1024 * (a1 + 1)) + (jor a3 (jshl 1 a2))) 11264) <|
  gd (jr (10 * a1)) <|
  gd (jr ((10 * a1) + a2)) <|
  gd (jb ((10 * a1) + a2) 100) <|
  gd (jr ((v_best (((1024 * (a1 + 1)) + (jor a3 (jshl 1 a2))).toNat)) + 100000)) <|
  gd (jr (((v_best (((1024 * (a1 + 1)) + (jor a3 (jshl 1 a2))).toNat)) + 100000) - (v_fits (((10 * a1) + a2).toNat)))) <|
  some (((v_best (((1024 * (a1 + 1)) + (jor a3 (jshl 1 a2))).toNat)) + 100000) - (v_fits (((10 * a1) + a2).toNat)))
abbrev R_iM_matches : Type := (Nat → Int) × (Nat → Int) × (Nat → Int) × (Nat → Int)
def iM_matches_b59 (N : Nat) (v_grain : Int) (v_limit : Int) (v_lost : Int) (v_cutAt : (Nat → Int)) (v_cutWorth : (Nat → Int)) (v_cuts : (Nat → Int)) (self : Int → (Nat → Int) → (Nat → Int) → Option R_iM_matches) (k66 : (Nat → Int) → (Nat → Int) → Option R_iM_matches) (x1 : Int) (x2 : Int) (s1 : Int) (s2 : Int) (v_best : (Nat → Int)) (v_cost : (Nat → Int)) (v_fits : (Nat → Int)) (v_mates : (Nat → Int)) : Option R_iM_matches :=
  gd (jb s1 100) <|
  gd (jr (x2 + 1)) <|
  self (x2 + 1) v_cost (va_up v_fits s1.toNat s2)
def iM_matches_b57 (N : Nat) (v_grain : Int) (v_limit : Int) (v_lost : Int) (v_cutAt : (Nat → Int)) (v_cutWorth : (Nat → Int)) (v_cuts : (Nat → Int)) (self : Int → (Nat → Int) → (Nat → Int) → Option R_iM_matches) (k66 : (Nat → Int) → (Nat → Int) → Option R_iM_matches) (x1 : Int) (x2 : Int) (s1 : Int) (v_best : (Nat → Int)) (v_cost : (Nat → Int)) (v_fits : (Nat → Int)) (v_mates : (Nat → Int)) : Option R_iM_matches :=
  iM_matches_b59 N v_grain v_limit v_lost v_cutAt v_cutWorth v_cuts self k66 x1 x2 s1 100000000 v_best v_cost v_fits v_mates
def iM_matches_b10_F (N : Nat) (v_grain : Int) (v_limit : Int) (v_lost : Int) (v_cutAt : (Nat → Int)) (v_cutWorth : (Nat → Int)) (v_cuts : (Nat → Int)) (x1 : Int) (v_best : (Nat → Int)) (v_mates : (Nat → Int)) (k66 : (Nat → Int) → (Nat → Int) → Option R_iM_matches) (self : Int → (Nat → Int) → (Nat → Int) → Option R_iM_matches) (x2 : Int) (v_cost : (Nat → Int)) (v_fits : (Nat → Int)) : Option R_iM_matches :=
  if 10 ≤ x2 then
    k66 v_cost v_fits
  else
    bd1 (iM_isThere x1 v_cuts) fun rc1 =>
    if rc1 = 0 then
      gd (jr (10 * x1)) <|
      gd (jr ((10 * x1) + x2)) <|
      iM_matches_b57 N v_grain v_limit v_lost v_cutAt v_cutWorth v_cuts self k66 x1 x2 ((10 * x1) + x2) v_best v_cost v_fits v_mates
    else
      gd (jr (10 + x2)) <|
      bd1 (iM_isThere (10 + x2) v_cuts) fun rc2 =>
      if rc2 = 0 then
        gd (jr (10 * x1)) <|
        gd (jr ((10 * x1) + x2)) <|
        iM_matches_b57 N v_grain v_limit v_lost v_cutAt v_cutWorth v_cuts self k66 x1 x2 ((10 * x1) + x2) v_best v_cost v_fits v_mates
      else
        bd2 (iM_fitOf N x1 (10 + x2) v_grain v_lost v_cost v_cutAt v_cutWorth v_cuts) fun rc3 v_cost_c3 =>
        gd (jr (10 * x1)) <|
        gd (jr ((10 * x1) + x2)) <|
        iM_matches_b59 N v_grain v_limit v_lost v_cutAt v_cutWorth v_cuts self k66 x1 x2 ((10 * x1) + x2) rc3 v_best v_cost_c3 v_fits v_mates
def iM_matches_b10 (N : Nat) (v_grain : Int) (v_limit : Int) (v_lost : Int) (v_cutAt : (Nat → Int)) (v_cutWorth : (Nat → Int)) (v_cuts : (Nat → Int)) (x1 : Int) (v_best : (Nat → Int)) (v_mates : (Nat → Int)) (k66 : (Nat → Int) → (Nat → Int) → Option R_iM_matches) : Nat → Int → (Nat → Int) → (Nat → Int) → Option R_iM_matches := zlp3 (iM_matches_b10_F N v_grain v_limit v_lost v_cutAt v_cutWorth v_cuts x1 v_best v_mates k66)
def iM_matches_b66 (N : Nat) (v_grain : Int) (v_limit : Int) (v_lost : Int) (v_cutAt : (Nat → Int)) (v_cutWorth : (Nat → Int)) (v_cuts : (Nat → Int)) (self : Int → (Nat → Int) → (Nat → Int) → Option R_iM_matches) (k72 : (Nat → Int) → (Nat → Int) → Option R_iM_matches) (x1 : Int) (v_best : (Nat → Int)) (v_cost : (Nat → Int)) (v_fits : (Nat → Int)) (v_mates : (Nat → Int)) : Option R_iM_matches :=
  gd (jr (x1 + 1)) <|
  self (x1 + 1) v_cost v_fits
def iM_matches_b2_F (N : Nat) (v_grain : Int) (v_limit : Int) (v_lost : Int) (v_cutAt : (Nat → Int)) (v_cutWorth : (Nat → Int)) (v_cuts : (Nat → Int)) (v_best : (Nat → Int)) (v_mates : (Nat → Int)) (k72 : (Nat → Int) → (Nat → Int) → Option R_iM_matches) (self : Int → (Nat → Int) → (Nat → Int) → Option R_iM_matches) (x1 : Int) (v_cost : (Nat → Int)) (v_fits : (Nat → Int)) : Option R_iM_matches :=
  if 10 ≤ x1 then
    k72 v_cost v_fits
  else
    iM_matches_b10 N v_grain v_limit v_lost v_cutAt v_cutWorth v_cuts x1 v_best v_mates (fun v_cost_k1 v_fits_k2 => iM_matches_b66 N v_grain v_limit v_lost v_cutAt v_cutWorth v_cuts self k72 x1 v_best v_cost_k1 v_fits_k2 v_mates) N 0 v_cost v_fits
def iM_matches_b2 (N : Nat) (v_grain : Int) (v_limit : Int) (v_lost : Int) (v_cutAt : (Nat → Int)) (v_cutWorth : (Nat → Int)) (v_cuts : (Nat → Int)) (v_best : (Nat → Int)) (v_mates : (Nat → Int)) (k72 : (Nat → Int) → (Nat → Int) → Option R_iM_matches) : Nat → Int → (Nat → Int) → (Nat → Int) → Option R_iM_matches := zlp3 (iM_matches_b2_F N v_grain v_limit v_lost v_cutAt v_cutWorth v_cuts v_best v_mates k72)
def iM_matches_b74_F (N : Nat) (v_grain : Int) (v_limit : Int) (v_lost : Int) (v_cutAt : (Nat → Int)) (v_cutWorth : (Nat → Int)) (v_cuts : (Nat → Int)) (v_cost : (Nat → Int)) (v_fits : (Nat → Int)) (v_mates : (Nat → Int)) (k98 : (Nat → Int) → Option R_iM_matches) (self : Int → (Nat → Int) → Option R_iM_matches) (x1 : Int) (v_best : (Nat → Int)) : Option R_iM_matches :=
  if 1024 ≤ x1 then
    k98 v_best
  else
    gd (jr (10240 + x1)) <|
    gd (jb (10240 + x1) 11264) <|
    gd (jr (x1 + 1)) <|
    self (x1 + 1) (va_up v_best ((10240 + x1).toNat) 0)
def iM_matches_b74 (N : Nat) (v_grain : Int) (v_limit : Int) (v_lost : Int) (v_cutAt : (Nat → Int)) (v_cutWorth : (Nat → Int)) (v_cuts : (Nat → Int)) (v_cost : (Nat → Int)) (v_fits : (Nat → Int)) (v_mates : (Nat → Int)) (k98 : (Nat → Int) → Option R_iM_matches) : Nat → Int → (Nat → Int) → Option R_iM_matches := zlp2 (iM_matches_b74_F N v_grain v_limit v_lost v_cutAt v_cutWorth v_cuts v_cost v_fits v_mates k98)
def iM_matches_b132_F (N : Nat) (v_grain : Int) (v_limit : Int) (v_lost : Int) (v_cutAt : (Nat → Int)) (v_cutWorth : (Nat → Int)) (v_cuts : (Nat → Int)) (x1 : Int) (x2 : Int) (v_best : (Nat → Int)) (v_cost : (Nat → Int)) (v_fits : (Nat → Int)) (v_mates : (Nat → Int)) (k177 : Int → Option R_iM_matches) (self : Int → Int → Option R_iM_matches) (x3 : Int) (x4 : Int) : Option R_iM_matches :=
  if 10 ≤ x4 then
    k177 x3
  else
    bd1 (iM_canPair x1 x4 x2 v_limit v_fits) fun rc8 =>
    if rc8 = 0 then
      gd (jr (x4 + 1)) <|
      self x3 (x4 + 1)
    else
      bd1 (iM_paired x1 x4 x2 v_best v_fits) fun rc9 =>
      if rc9 ≤ x3 then
        gd (jr (x4 + 1)) <|
        self x3 (x4 + 1)
      else
        bd1 (iM_paired x1 x4 x2 v_best v_fits) fun rc10 =>
        gd (jr (x4 + 1)) <|
        self rc10 (x4 + 1)
def iM_matches_b132 (N : Nat) (v_grain : Int) (v_limit : Int) (v_lost : Int) (v_cutAt : (Nat → Int)) (v_cutWorth : (Nat → Int)) (v_cuts : (Nat → Int)) (x1 : Int) (x2 : Int) (v_best : (Nat → Int)) (v_cost : (Nat → Int)) (v_fits : (Nat → Int)) (v_mates : (Nat → Int)) (k177 : Int → Option R_iM_matches) : Nat → Int → Int → Option R_iM_matches := zlp2 (iM_matches_b132_F N v_grain v_limit v_lost v_cutAt v_cutWorth v_cuts x1 x2 v_best v_cost v_fits v_mates k177)
def iM_matches_b177 (N : Nat) (v_grain : Int) (v_limit : Int) (v_lost : Int) (v_cutAt : (Nat → Int)) (v_cutWorth : (Nat → Int)) (v_cuts : (Nat → Int)) (self : Int → (Nat → Int) → Option R_iM_matches) (k196 : (Nat → Int) → Option R_iM_matches) (x1 : Int) (x2 : Int) (x3 : Int) (v_best : (Nat → Int)) (v_cost : (Nat → Int)) (v_fits : (Nat → Int)) (v_mates : (Nat → Int)) : Option R_iM_matches :=
  gd (jr (1024 * x1)) <|
  gd (jr ((1024 * x1) + x2)) <|
  gd (jb ((1024 * x1) + x2) 11264) <|
  gd (jr (x2 + 1)) <|
  self (x2 + 1) (va_up v_best (((1024 * x1) + x2).toNat) x3)
def iM_matches_b107_F (N : Nat) (v_grain : Int) (v_limit : Int) (v_lost : Int) (v_cutAt : (Nat → Int)) (v_cutWorth : (Nat → Int)) (v_cuts : (Nat → Int)) (x1 : Int) (v_cost : (Nat → Int)) (v_fits : (Nat → Int)) (v_mates : (Nat → Int)) (k196 : (Nat → Int) → Option R_iM_matches) (self : Int → (Nat → Int) → Option R_iM_matches) (x2 : Int) (v_best : (Nat → Int)) : Option R_iM_matches :=
  if 1024 ≤ x2 then
    k196 v_best
  else
    gd (jr (x1 + 1)) <|
    gd (jr (1024 * (x1 + 1))) <|
    gd (jr ((1024 * (x1 + 1)) + x2)) <|
    gd (jb ((1024 * (x1 + 1)) + x2) 11264) <|
    iM_matches_b132 N v_grain v_limit v_lost v_cutAt v_cutWorth v_cuts x1 x2 v_best v_cost v_fits v_mates (fun x3_k6 => iM_matches_b177 N v_grain v_limit v_lost v_cutAt v_cutWorth v_cuts self k196 x1 x2 x3_k6 v_best v_cost v_fits v_mates) N (v_best (((1024 * (x1 + 1)) + x2).toNat)) 0
def iM_matches_b107 (N : Nat) (v_grain : Int) (v_limit : Int) (v_lost : Int) (v_cutAt : (Nat → Int)) (v_cutWorth : (Nat → Int)) (v_cuts : (Nat → Int)) (x1 : Int) (v_cost : (Nat → Int)) (v_fits : (Nat → Int)) (v_mates : (Nat → Int)) (k196 : (Nat → Int) → Option R_iM_matches) : Nat → Int → (Nat → Int) → Option R_iM_matches := zlp2 (iM_matches_b107_F N v_grain v_limit v_lost v_cutAt v_cutWorth v_cuts x1 v_cost v_fits v_mates k196)
def iM_matches_b196 (N : Nat) (v_grain : Int) (v_limit : Int) (v_lost : Int) (v_cutAt : (Nat → Int)) (v_cutWorth : (Nat → Int)) (v_cuts : (Nat → Int)) (self : Int → (Nat → Int) → Option R_iM_matches) (k202 : (Nat → Int) → Option R_iM_matches) (x1 : Int) (v_best : (Nat → Int)) (v_cost : (Nat → Int)) (v_fits : (Nat → Int)) (v_mates : (Nat → Int)) : Option R_iM_matches :=
  gd (jr (x1 + (-1))) <|
  self (x1 + (-1)) v_best
def iM_matches_b101_F (N : Nat) (v_grain : Int) (v_limit : Int) (v_lost : Int) (v_cutAt : (Nat → Int)) (v_cutWorth : (Nat → Int)) (v_cuts : (Nat → Int)) (v_cost : (Nat → Int)) (v_fits : (Nat → Int)) (v_mates : (Nat → Int)) (k202 : (Nat → Int) → Option R_iM_matches) (self : Int → (Nat → Int) → Option R_iM_matches) (x1 : Int) (v_best : (Nat → Int)) : Option R_iM_matches :=
  if x1 < 0 then
    k202 v_best
  else
    iM_matches_b107 N v_grain v_limit v_lost v_cutAt v_cutWorth v_cuts x1 v_cost v_fits v_mates (fun v_best_k7 => iM_matches_b196 N v_grain v_limit v_lost v_cutAt v_cutWorth v_cuts self k202 x1 v_best_k7 v_cost v_fits v_mates) N 0 v_best
def iM_matches_b101 (N : Nat) (v_grain : Int) (v_limit : Int) (v_lost : Int) (v_cutAt : (Nat → Int)) (v_cutWorth : (Nat → Int)) (v_cuts : (Nat → Int)) (v_cost : (Nat → Int)) (v_fits : (Nat → Int)) (v_mates : (Nat → Int)) (k202 : (Nat → Int) → Option R_iM_matches) : Nat → Int → (Nat → Int) → Option R_iM_matches := zlp2 (iM_matches_b101_F N v_grain v_limit v_lost v_cutAt v_cutWorth v_cuts v_cost v_fits v_mates k202)
def iM_matches_b222_F (N : Nat) (v_grain : Int) (v_limit : Int) (v_lost : Int) (v_cutAt : (Nat → Int)) (v_cutWorth : (Nat → Int)) (v_cuts : (Nat → Int)) (x1 : Int) (x2 : Int) (v_best : (Nat → Int)) (v_cost : (Nat → Int)) (v_fits : (Nat → Int)) (k271 : (Nat → Int) → Option R_iM_matches) (self : Int → (Nat → Int) → Option R_iM_matches) (x3 : Int) (v_mates : (Nat → Int)) : Option R_iM_matches :=
  if x3 < 0 then
    k271 v_mates
  else
    bd1 (iM_canPair x2 x3 x1 v_limit v_fits) fun rc11 =>
    if rc11 = 0 then
      gd (jr (x3 + (-1))) <|
      self (x3 + (-1)) v_mates
    else
      bd1 (iM_paired x2 x3 x1 v_best v_fits) fun rc12 =>
      gd (jr (1024 * x2)) <|
      gd (jr ((1024 * x2) + x1)) <|
      gd (jb ((1024 * x2) + x1) 11264) <|
      if rc12 = v_best (((1024 * x2) + x1).toNat) then
        gd (jb x2 10) <|
        gd (jr (x3 + (-1))) <|
        self (x3 + (-1)) (va_up v_mates x2.toNat x3)
      else
        gd (jr (x3 + (-1))) <|
        self (x3 + (-1)) v_mates
def iM_matches_b222 (N : Nat) (v_grain : Int) (v_limit : Int) (v_lost : Int) (v_cutAt : (Nat → Int)) (v_cutWorth : (Nat → Int)) (v_cuts : (Nat → Int)) (x1 : Int) (x2 : Int) (v_best : (Nat → Int)) (v_cost : (Nat → Int)) (v_fits : (Nat → Int)) (k271 : (Nat → Int) → Option R_iM_matches) : Nat → Int → (Nat → Int) → Option R_iM_matches := zlp2 (iM_matches_b222_F N v_grain v_limit v_lost v_cutAt v_cutWorth v_cuts x1 x2 v_best v_cost v_fits k271)
def iM_matches_b271 (N : Nat) (v_grain : Int) (v_limit : Int) (v_lost : Int) (v_cutAt : (Nat → Int)) (v_cutWorth : (Nat → Int)) (v_cuts : (Nat → Int)) (self : Int → Int → (Nat → Int) → Option R_iM_matches) (x1 : Int) (x2 : Int) (v_best : (Nat → Int)) (v_cost : (Nat → Int)) (v_fits : (Nat → Int)) (v_mates : (Nat → Int)) : Option R_iM_matches :=
  gd (jb x2 10) <|
  if v_mates x2.toNat = (-1) then
    gd (jr (x2 + 1)) <|
    self x1 (x2 + 1) v_mates
  else
    gd (jr (x2 + 1)) <|
    self (jor x1 (jshl 1 (v_mates x2.toNat))) (x2 + 1) v_mates
def iM_matches_b206_F (N : Nat) (v_grain : Int) (v_limit : Int) (v_lost : Int) (v_cutAt : (Nat → Int)) (v_cutWorth : (Nat → Int)) (v_cuts : (Nat → Int)) (v_best : (Nat → Int)) (v_cost : (Nat → Int)) (v_fits : (Nat → Int)) (self : Int → Int → (Nat → Int) → Option R_iM_matches) (x1 : Int) (x2 : Int) (v_mates : (Nat → Int)) : Option R_iM_matches :=
  if 10 ≤ x2 then
    some (v_best, v_cost, v_fits, v_mates)
  else
    gd (jb x2 10) <|
    iM_matches_b222 N v_grain v_limit v_lost v_cutAt v_cutWorth v_cuts x1 x2 v_best v_cost v_fits (fun e13_ => iM_matches_b271 N v_grain v_limit v_lost v_cutAt v_cutWorth v_cuts self x1 x2 v_best v_cost v_fits e13_) N 9 (va_up v_mates x2.toNat (-1))
def iM_matches_b206 (N : Nat) (v_grain : Int) (v_limit : Int) (v_lost : Int) (v_cutAt : (Nat → Int)) (v_cutWorth : (Nat → Int)) (v_cuts : (Nat → Int)) (v_best : (Nat → Int)) (v_cost : (Nat → Int)) (v_fits : (Nat → Int)) : Nat → Int → Int → (Nat → Int) → Option R_iM_matches := zlp3 (iM_matches_b206_F N v_grain v_limit v_lost v_cutAt v_cutWorth v_cuts v_best v_cost v_fits)
def iM_matches_b202 (N : Nat) (v_grain : Int) (v_limit : Int) (v_lost : Int) (v_cutAt : (Nat → Int)) (v_cutWorth : (Nat → Int)) (v_cuts : (Nat → Int)) (v_best : (Nat → Int)) (v_cost : (Nat → Int)) (v_fits : (Nat → Int)) (v_mates : (Nat → Int)) : Option R_iM_matches :=
  iM_matches_b206 N v_grain v_limit v_lost v_cutAt v_cutWorth v_cuts v_best v_cost v_fits N 0 0 v_mates
def iM_matches_b98 (N : Nat) (v_grain : Int) (v_limit : Int) (v_lost : Int) (v_cutAt : (Nat → Int)) (v_cutWorth : (Nat → Int)) (v_cuts : (Nat → Int)) (v_best : (Nat → Int)) (v_cost : (Nat → Int)) (v_fits : (Nat → Int)) (v_mates : (Nat → Int)) : Option R_iM_matches :=
  iM_matches_b101 N v_grain v_limit v_lost v_cutAt v_cutWorth v_cuts v_cost v_fits v_mates (fun v_best_k8 => iM_matches_b202 N v_grain v_limit v_lost v_cutAt v_cutWorth v_cuts v_best_k8 v_cost v_fits v_mates) N 9 v_best
def iM_matches_b72 (N : Nat) (v_grain : Int) (v_limit : Int) (v_lost : Int) (v_cutAt : (Nat → Int)) (v_cutWorth : (Nat → Int)) (v_cuts : (Nat → Int)) (v_best : (Nat → Int)) (v_cost : (Nat → Int)) (v_fits : (Nat → Int)) (v_mates : (Nat → Int)) : Option R_iM_matches :=
  iM_matches_b74 N v_grain v_limit v_lost v_cutAt v_cutWorth v_cuts v_cost v_fits v_mates (fun v_best_k5 => iM_matches_b98 N v_grain v_limit v_lost v_cutAt v_cutWorth v_cuts v_best_k5 v_cost v_fits v_mates) N 0 v_best
def iM_matches (N : Nat) (v_grain : Int) (v_limit : Int) (v_lost : Int) (v_best : (Nat → Int)) (v_cost : (Nat → Int)) (v_cutAt : (Nat → Int)) (v_cutWorth : (Nat → Int)) (v_cuts : (Nat → Int)) (v_fits : (Nat → Int)) (v_mates : (Nat → Int)) : Option R_iM_matches :=
  iM_matches_b2 N v_grain v_limit v_lost v_cutAt v_cutWorth v_cuts v_best v_mates (fun v_cost_k3 v_fits_k4 => iM_matches_b72 N v_grain v_limit v_lost v_cutAt v_cutWorth v_cuts v_best v_cost_k3 v_fits_k4 v_mates) N 0 v_cost v_fits
abbrev R_iM_mate : Type := Int × (Nat → Int) × (Nat → Int) × (Nat → Int) × (Nat → Int)
def iM_mate (N : Nat) (a1 : Int) (v_grain : Int) (v_limit : Int) (v_lost : Int) (v_best : (Nat → Int)) (v_cost : (Nat → Int)) (v_cutAt : (Nat → Int)) (v_cutWorth : (Nat → Int)) (v_cuts : (Nat → Int)) (v_fits : (Nat → Int)) (v_mates : (Nat → Int)) : Option R_iM_mate :=
  bd1 (iM_isIn a1 0 9) fun rc1 =>
  if rc1 = 0 then
    some ((-1), v_best, v_cost, v_fits, v_mates)
  else
    bd4 (iM_matches N v_grain v_limit v_lost v_best v_cost v_cutAt v_cutWorth v_cuts v_fits v_mates) fun v_best_c2 v_cost_c2 v_fits_c2 v_mates_c2 =>
    gd (jb a1 10) <|
    some (v_mates_c2 a1.toNat, v_best_c2, v_cost_c2, v_fits_c2, v_mates_c2)
abbrev R_iM_matched : Type := Int × (Nat → Int) × (Nat → Int) × (Nat → Int) × (Nat → Int)
def iM_matched_b22_F (N : Nat) (a1 : Int) (v_grain : Int) (v_limit : Int) (v_lost : Int) (v_cutAt : (Nat → Int)) (v_cutWorth : (Nat → Int)) (v_cuts : (Nat → Int)) (v_best : (Nat → Int)) (v_cost : (Nat → Int)) (v_fits : (Nat → Int)) (v_mates : (Nat → Int)) (k73 : Int → Int → Option R_iM_matched) (self : Int → Int → Int → Option R_iM_matched) (x2 : Int) (x3 : Int) (x4 : Int) : Option R_iM_matched :=
  if 10 ≤ x4 then
    k73 x2 x3
  else
    gd (jb x4 10) <|
    if v_mates x4.toNat = (-1) then
      gd (jr (x4 + 1)) <|
      self x2 x3 (x4 + 1)
    else
      gd (jr (10 * x4)) <|
      gd (jr ((10 * x4) + (v_mates x4.toNat))) <|
      gd (jb ((10 * x4) + (v_mates x4.toNat)) 100) <|
      gd (jr (x2 + 1)) <|
      gd (jr (x3 + (v_fits (((10 * x4) + (v_mates x4.toNat)).toNat)))) <|
      gd (jr (x4 + 1)) <|
      self (x2 + 1) (x3 + (v_fits (((10 * x4) + (v_mates x4.toNat)).toNat))) (x4 + 1)
def iM_matched_b22 (N : Nat) (a1 : Int) (v_grain : Int) (v_limit : Int) (v_lost : Int) (v_cutAt : (Nat → Int)) (v_cutWorth : (Nat → Int)) (v_cuts : (Nat → Int)) (v_best : (Nat → Int)) (v_cost : (Nat → Int)) (v_fits : (Nat → Int)) (v_mates : (Nat → Int)) (k73 : Int → Int → Option R_iM_matched) : Nat → Int → Int → Int → Option R_iM_matched := zlp3 (iM_matched_b22_F N a1 v_grain v_limit v_lost v_cutAt v_cutWorth v_cuts v_best v_cost v_fits v_mates k73)
def iM_matched_b73 (N : Nat) (a1 : Int) (v_grain : Int) (v_limit : Int) (v_lost : Int) (v_cutAt : (Nat → Int)) (v_cutWorth : (Nat → Int)) (v_cuts : (Nat → Int)) (x2 : Int) (x3 : Int) (v_best : (Nat → Int)) (v_cost : (Nat → Int)) (v_fits : (Nat → Int)) (v_mates : (Nat → Int)) : Option R_iM_matched :=
  if a1 = 0 then
    some (x2, v_best, v_cost, v_fits, v_mates)
  else
    some (x3, v_best, v_cost, v_fits, v_mates)
def iM_matched_b11 (N : Nat) (a1 : Int) (v_grain : Int) (v_limit : Int) (v_lost : Int) (v_cutAt : (Nat → Int)) (v_cutWorth : (Nat → Int)) (v_cuts : (Nat → Int)) (v_best : (Nat → Int)) (v_cost : (Nat → Int)) (v_fits : (Nat → Int)) (v_mates : (Nat → Int)) : Option R_iM_matched :=
  bd4 (iM_matches N v_grain v_limit v_lost v_best v_cost v_cutAt v_cutWorth v_cuts v_fits v_mates) fun v_best_c1 v_cost_c1 v_fits_c1 v_mates_c1 =>
  iM_matched_b22 N a1 v_grain v_limit v_lost v_cutAt v_cutWorth v_cuts v_best_c1 v_cost_c1 v_fits_c1 v_mates_c1 (fun x2_k1 x3_k2 => iM_matched_b73 N a1 v_grain v_limit v_lost v_cutAt v_cutWorth v_cuts x2_k1 x3_k2 v_best_c1 v_cost_c1 v_fits_c1 v_mates_c1) N 0 0 0
def iM_matched (N : Nat) (a1 : Int) (v_grain : Int) (v_limit : Int) (v_lost : Int) (v_best : (Nat → Int)) (v_cost : (Nat → Int)) (v_cutAt : (Nat → Int)) (v_cutWorth : (Nat → Int)) (v_cuts : (Nat → Int)) (v_fits : (Nat → Int)) (v_mates : (Nat → Int)) : Option R_iM_matched :=
  if a1 = 0 then
    iM_matched_b11 N a1 v_grain v_limit v_lost v_cutAt v_cutWorth v_cuts v_best v_cost v_fits v_mates
  else
    if a1 = 1 then
      iM_matched_b11 N a1 v_grain v_limit v_lost v_cutAt v_cutWorth v_cuts v_best v_cost v_fits v_mates
    else
      some ((-1), v_best, v_cost, v_fits, v_mates)
abbrev R_iM_feed : Type := Int × Int × (Nat → Int)
def iM_feed_b71 (N : Nat) (a1 : Int) (a2 : Int) (a3 : Int) (a4 : Int) (a5 : Int) (self : Int → Int → (Nat → Int) → Option R_iM_feed) (x6 : Int) (s0 : Int) (v_taped : Int) (v_tape : (Nat → Int)) : Option R_iM_feed :=
  gd (jb v_taped 600) <|
  gd (jr (x6 + 1)) <|
  gd (jr (v_taped + 1)) <|
  gd (jr (3 - ((x6).tmod 4))) <|
  gd (jr (8 * (3 - ((x6).tmod 4)))) <|
  self (x6 + 1) (v_taped + 1) (va_up v_tape v_taped.toNat (jand (jshr s0 (8 * (3 - ((x6).tmod 4)))) 255))
def iM_feed_b18_F (N : Nat) (a1 : Int) (a2 : Int) (a3 : Int) (a4 : Int) (a5 : Int) (self : Int → Int → (Nat → Int) → Option R_iM_feed) (x6 : Int) (v_taped : Int) (v_tape : (Nat → Int)) : Option R_iM_feed :=
  if 20 ≤ x6 then
    some (v_taped, v_taped, v_tape)
  else
    if 4 ≤ x6 then
      if 8 ≤ x6 then
        if 12 ≤ x6 then
          if 16 ≤ x6 then
            iM_feed_b71 N a1 a2 a3 a4 a5 self x6 a5 v_taped v_tape
          else
            iM_feed_b71 N a1 a2 a3 a4 a5 self x6 a4 v_taped v_tape
        else
          iM_feed_b71 N a1 a2 a3 a4 a5 self x6 a3 v_taped v_tape
      else
        iM_feed_b71 N a1 a2 a3 a4 a5 self x6 a2 v_taped v_tape
    else
      iM_feed_b71 N a1 a2 a3 a4 a5 self x6 a1 v_taped v_tape
def iM_feed_b18 (N : Nat) (a1 : Int) (a2 : Int) (a3 : Int) (a4 : Int) (a5 : Int) : Nat → Int → Int → (Nat → Int) → Option R_iM_feed := zlp3 (iM_feed_b18_F N a1 a2 a3 a4 a5)
def iM_feed (N : Nat) (a1 : Int) (a2 : Int) (a3 : Int) (a4 : Int) (a5 : Int) (v_taped : Int) (v_tape : (Nat → Int)) : Option R_iM_feed :=
  gd (jr (v_taped + 20)) <|
  if v_taped + 20 ≤ 600 then
    iM_feed_b18 N a1 a2 a3 a4 a5 N 0 v_taped v_tape
  else
    some ((-1), v_taped, v_tape)
abbrev R_iM_end : Type := Int × Int
def iM_end (a1 : Int) (v_taped : Int) : Option R_iM_end :=
  if a1 < 0 then
    some (0, v_taped)
  else
    if a1 ≤ v_taped then
      some (1, a1)
    else
      some (0, v_taped)
abbrev R_iM_fail : Type := Int × Int
def iM_fail (a1 : Int) (a2 : Int) (v_bad : Int) (v_badPlace : Int) : Option R_iM_fail :=
  if v_bad = 0 then
    some (a1, a2)
  else
    some (v_bad, v_badPlace)
def iM_isLetter (a0 : Int) : Option Int :=
  if a0 < 97 then
    some 0
  else
    if 122 < a0 then
      some 0
    else
      some 1
def iM_isDigit (a0 : Int) : Option Int :=
  if a0 < 48 then
    some 0
  else
    if 57 < a0 then
      some 0
    else
      some 1
abbrev R_iM_look : Type := Int × Int
def iM_look_b39 (N : Nat) (v_end : Int) (v_tape : (Nat → Int)) (self : Int → Option R_iM_look) (k52 : Int → Option R_iM_look) (v_at : Int) : Option R_iM_look :=
  gd (jr (v_at + 1)) <|
  self (v_at + 1)
def iM_look_b0_F (N : Nat) (v_end : Int) (v_tape : (Nat → Int)) (k52 : Int → Option R_iM_look) (self : Int → Option R_iM_look) (v_at : Int) : Option R_iM_look :=
  if v_end ≤ v_at then
    k52 v_at
  else
    gd (jb v_at 600) <|
    if v_tape v_at.toNat = 10 then
      iM_look_b39 N v_end v_tape self k52 v_at
    else
      if v_tape v_at.toNat = 32 then
        iM_look_b39 N v_end v_tape self k52 v_at
      else
        k52 v_at
def iM_look_b0 (N : Nat) (v_end : Int) (v_tape : (Nat → Int)) (k52 : Int → Option R_iM_look) : Nat → Int → Option R_iM_look := zlp1 (iM_look_b0_F N v_end v_tape k52)
def iM_look_b52 (N : Nat) (v_end : Int) (v_tape : (Nat → Int)) (v_at : Int) : Option R_iM_look :=
  if v_end ≤ v_at then
    some ((-1), v_at)
  else
    gd (jb v_at 600) <|
    some (v_tape v_at.toNat, v_at)
def iM_look (N : Nat) (v_at : Int) (v_end : Int) (v_tape : (Nat → Int)) : Option R_iM_look :=
  iM_look_b0 N v_end v_tape (fun e3_ => iM_look_b52 N v_end v_tape e3_) N v_at
abbrev R_iM_isHere : Type := Int × Int
def iM_isHere_b35_F (N : Nat) (n_a1 : Nat) (v_a1 : (Nat → Int)) (v_bad : Int) (v_end : Int) (v_ended : Int) (v_tape : (Nat → Int)) (v_at : Int) (k61 : Int → Option R_iM_isHere) (self : Int → Option R_iM_isHere) (x2 : Int) : Option R_iM_isHere :=
  if v_end ≤ x2 then
    k61 x2
  else
    gd (jb x2 600) <|
    bd1 (iM_isLetter (v_tape x2.toNat)) fun rc4 =>
    if rc4 = 0 then
      k61 x2
    else
      gd (jr (x2 + 1)) <|
      self (x2 + 1)
def iM_isHere_b35 (N : Nat) (n_a1 : Nat) (v_a1 : (Nat → Int)) (v_bad : Int) (v_end : Int) (v_ended : Int) (v_tape : (Nat → Int)) (v_at : Int) (k61 : Int → Option R_iM_isHere) : Nat → Int → Option R_iM_isHere := zlp1 (iM_isHere_b35_F N n_a1 v_a1 v_bad v_end v_ended v_tape v_at k61)
def iM_isHere_b76_F (N : Nat) (n_a1 : Nat) (v_a1 : (Nat → Int)) (v_bad : Int) (v_end : Int) (v_ended : Int) (v_tape : (Nat → Int)) (v_at : Int) (self : Int → Option R_iM_isHere) (x3 : Int) : Option R_iM_isHere :=
  gd (jr ((n_a1 : Nat) : Int)) <|
  if ((n_a1 : Nat) : Int) ≤ x3 then
    some (1, v_at)
  else
    gd (jr (v_at + x3)) <|
    gd (jb (v_at + x3) 600) <|
    gd (jb x3 n_a1) <|
    if v_tape ((v_at + x3).toNat) = v_a1 x3.toNat then
      gd (jr (x3 + 1)) <|
      self (x3 + 1)
    else
      some (0, v_at)
def iM_isHere_b76 (N : Nat) (n_a1 : Nat) (v_a1 : (Nat → Int)) (v_bad : Int) (v_end : Int) (v_ended : Int) (v_tape : (Nat → Int)) (v_at : Int) : Nat → Int → Option R_iM_isHere := zlp1 (iM_isHere_b76_F N n_a1 v_a1 v_bad v_end v_ended v_tape v_at)
def iM_isHere_b61 (N : Nat) (n_a1 : Nat) (v_a1 : (Nat → Int)) (v_bad : Int) (v_end : Int) (v_ended : Int) (v_tape : (Nat → Int)) (x2 : Int) (v_at : Int) : Option R_iM_isHere :=
  gd (jr (x2 - v_at)) <|
  gd (jr ((n_a1 : Nat) : Int)) <|
  if x2 - v_at = ((n_a1 : Nat) : Int) then
    iM_isHere_b76 N n_a1 v_a1 v_bad v_end v_ended v_tape v_at N 0
  else
    some (0, v_at)
def iM_isHere (N : Nat) (n_a1 : Nat) (v_a1 : (Nat → Int)) (v_at : Int) (v_bad : Int) (v_end : Int) (v_ended : Int) (v_tape : (Nat → Int)) : Option R_iM_isHere :=
  if v_bad = 0 then
    bd2 (iM_look N v_at v_end v_tape) fun rc1 v_at_c1 =>
    bd1 (iM_isLetter rc1) fun rc2 =>
    if rc2 = 0 then
      some (0, v_at_c1)
    else
      if v_at_c1 = v_ended then
        some (0, v_at_c1)
      else
        iM_isHere_b35 N n_a1 v_a1 v_bad v_end v_ended v_tape v_at_c1 (fun x2_k1 => iM_isHere_b61 N n_a1 v_a1 v_bad v_end v_ended v_tape x2_k1 v_at_c1) N v_at_c1
  else
    some (0, v_at)
abbrev R_iM_takes : Type := Int × Int × Int
def iM_takes (N : Nat) (n_a1 : Nat) (v_a1 : (Nat → Int)) (v_at : Int) (v_bad : Int) (v_end : Int) (v_ended : Int) (v_tape : (Nat → Int)) : Option R_iM_takes :=
  bd2 (iM_isHere N n_a1 v_a1 v_at v_bad v_end v_ended v_tape) fun rc1 v_at_c1 =>
  if rc1 = 0 then
    some (0, v_at_c1, v_ended)
  else
    gd (jr ((n_a1 : Nat) : Int)) <|
    gd (jr (v_at_c1 + ((n_a1 : Nat) : Int))) <|
    some (1, v_at_c1 + ((n_a1 : Nat) : Int), v_at_c1 + ((n_a1 : Nat) : Int))
abbrev R_iM_asks : Type := Int × Int × Int × Int
def iM_asks (N : Nat) (n_a1 : Nat) (v_a1 : (Nat → Int)) (v_at : Int) (v_bad : Int) (v_badPlace : Int) (v_end : Int) (v_ended : Int) (v_tape : (Nat → Int)) : Option R_iM_asks :=
  if v_bad = 0 then
    bd3 (iM_takes N n_a1 v_a1 v_at v_bad v_end v_ended v_tape) fun rc1 v_at_c1 v_ended_c1 =>
    if rc1 = 0 then
      bd2 (iM_fail 1 v_at_c1 v_bad v_badPlace) fun v_bad_c2 v_badPlace_c2 =>
      some (v_at_c1, v_bad_c2, v_badPlace_c2, v_ended_c1)
    else
      some (v_at_c1, v_bad, v_badPlace, v_ended_c1)
  else
    some (v_at, v_bad, v_badPlace, v_ended)
abbrev R_iM_takesSign : Type := Int × Int
def iM_takesSign (N : Nat) (a1 : Int) (v_at : Int) (v_bad : Int) (v_end : Int) (v_tape : (Nat → Int)) : Option R_iM_takesSign :=
  if v_bad = 0 then
    bd2 (iM_look N v_at v_end v_tape) fun rc1 v_at_c1 =>
    if rc1 = a1 then
      gd (jr (v_at_c1 + 1)) <|
      some (1, v_at_c1 + 1)
    else
      some (0, v_at_c1)
  else
    some (0, v_at)
abbrev R_iM_asksSign : Type := Int × Int × Int
def iM_asksSign (N : Nat) (a1 : Int) (v_at : Int) (v_bad : Int) (v_badPlace : Int) (v_end : Int) (v_tape : (Nat → Int)) : Option R_iM_asksSign :=
  if v_bad = 0 then
    bd2 (iM_takesSign N a1 v_at v_bad v_end v_tape) fun rc1 v_at_c1 =>
    if rc1 = 0 then
      bd2 (iM_fail 1 v_at_c1 v_bad v_badPlace) fun v_bad_c2 v_badPlace_c2 =>
      some (v_at_c1, v_bad_c2, v_badPlace_c2)
    else
      some (v_at_c1, v_bad, v_badPlace)
  else
    some (v_at, v_bad, v_badPlace)
abbrev R_iM_number : Type := Int × Int × Int × Int × Int
def iM_number_b30 (N : Nat) (a1 : Int) (a2 : Int) (v_end : Int) (v_tape : (Nat → Int)) (v_at : Int) (v_bad : Int) (v_badPlace : Int) (v_ended : Int) : Option R_iM_number :=
  bd2 (iM_fail 1 v_at v_bad v_badPlace) fun v_bad_c3 v_badPlace_c3 =>
  some (0, v_at, v_bad_c3, v_badPlace_c3, v_ended)
def iM_number_b49_F (N : Nat) (a1 : Int) (a2 : Int) (v_end : Int) (v_tape : (Nat → Int)) (x3 : Int) (v_bad : Int) (v_badPlace : Int) (v_ended : Int) (k85 : Int → Option R_iM_number) (k129 : Int → Int → Option R_iM_number) (self : Int → Int → Option R_iM_number) (x4 : Int) (v_at : Int) : Option R_iM_number :=
  if v_end ≤ v_at then
    k129 x4 v_at
  else
    gd (jb v_at 600) <|
    bd1 (iM_isDigit (v_tape v_at.toNat)) fun rc5 =>
    if rc5 = 0 then
      k129 x4 v_at
    else
      gd (jr (v_at - x3)) <|
      if v_at - x3 = 5 then
        k85 v_at
      else
        gd (jr (10 * x4)) <|
        gd (jr ((10 * x4) + (v_tape v_at.toNat))) <|
        gd (jr (((10 * x4) + (v_tape v_at.toNat)) - 48)) <|
        gd (jr (v_at + 1)) <|
        self (((10 * x4) + (v_tape v_at.toNat)) - 48) (v_at + 1)
def iM_number_b49 (N : Nat) (a1 : Int) (a2 : Int) (v_end : Int) (v_tape : (Nat → Int)) (x3 : Int) (v_bad : Int) (v_badPlace : Int) (v_ended : Int) (k85 : Int → Option R_iM_number) (k129 : Int → Int → Option R_iM_number) : Nat → Int → Int → Option R_iM_number := zlp2 (iM_number_b49_F N a1 a2 v_end v_tape x3 v_bad v_badPlace v_ended k85 k129)
def iM_number_b85 (N : Nat) (a1 : Int) (a2 : Int) (v_end : Int) (v_tape : (Nat → Int)) (v_at : Int) (v_bad : Int) (v_badPlace : Int) (v_ended : Int) : Option R_iM_number :=
  bd2 (iM_fail 1 v_at v_bad v_badPlace) fun v_bad_c8 v_badPlace_c8 =>
  some (0, v_at, v_bad_c8, v_badPlace_c8, v_ended)
def iM_number_b129 (N : Nat) (a1 : Int) (a2 : Int) (v_end : Int) (v_tape : (Nat → Int)) (x3 : Int) (x4 : Int) (v_at : Int) (v_bad : Int) (v_badPlace : Int) (v_ended : Int) : Option R_iM_number :=
  bd1 (iM_isIn x4 a1 a2) fun rc6 =>
  if rc6 = 0 then
    bd2 (iM_fail 2 x3 v_bad v_badPlace) fun v_bad_c7 v_badPlace_c7 =>
    some (x4, v_at, v_bad_c7, v_badPlace_c7, v_at)
  else
    some (x4, v_at, v_bad, v_badPlace, v_at)
def iM_number (N : Nat) (a1 : Int) (a2 : Int) (v_at : Int) (v_bad : Int) (v_badPlace : Int) (v_end : Int) (v_ended : Int) (v_tape : (Nat → Int)) : Option R_iM_number :=
  if v_bad = 0 then
    bd2 (iM_look N v_at v_end v_tape) fun rc1 v_at_c1 =>
    bd1 (iM_isDigit rc1) fun rc2 =>
    if rc2 = 0 then
      iM_number_b30 N a1 a2 v_end v_tape v_at_c1 v_bad v_badPlace v_ended
    else
      if v_at_c1 = v_ended then
        iM_number_b30 N a1 a2 v_end v_tape v_at_c1 v_bad v_badPlace v_ended
      else
        iM_number_b49 N a1 a2 v_end v_tape v_at_c1 v_bad v_badPlace v_ended (fun v_at_k1 => iM_number_b85 N a1 a2 v_end v_tape v_at_k1 v_bad v_badPlace v_ended) (fun x4_k2 v_at_k3 => iM_number_b129 N a1 a2 v_end v_tape v_at_c1 x4_k2 v_at_k3 v_bad v_badPlace v_ended) N 0 v_at_c1
  else
    some (0, v_at, v_bad, v_badPlace, v_ended)
abbrev R_iM_code : Type := Int × (Nat → Int)
def iM_code (a1 : Int) (v_coded : Int) (v_codes : (Nat → Int)) : Option R_iM_code :=
  gd (jr (0 + v_coded)) <|
  gd (jb (0 + v_coded) 128640) <|
  gd (jr (v_coded + 1)) <|
  some (v_coded + 1, va_up v_codes ((0 + v_coded).toNat) a1)
abbrev R_iM_opens : Type := Int × Int × Int × Int × (Nat → Int)
def iM_opens (a1 : Int) (a2 : Int) (v_bad : Int) (v_badPlace : Int) (v_open : Int) (v_waits : Int) (v_wait : (Nat → Int)) : Option R_iM_opens :=
  if v_open = 6 then
    bd2 (iM_fail 3 a2 v_bad v_badPlace) fun v_bad_c2 v_badPlace_c2 =>
    some (v_bad_c2, v_badPlace_c2, v_open, v_waits, v_wait)
  else
    gd (jb v_waits 700) <|
    gd (jr (v_open + 1)) <|
    gd (jr (v_waits + 1)) <|
    some (v_bad, v_badPlace, v_open + 1, v_waits + 1, va_up v_wait v_waits.toNat a1)
def iM_isOn (a1 : Int) (v_waits : Int) (v_wait : (Nat → Int)) : Option Int :=
  if v_waits ≤ 0 then
    some 0
  else
    gd (jr (v_waits - 1)) <|
    gd (jb (v_waits - 1) 700) <|
    if v_wait ((v_waits - 1).toNat) = a1 then
      some 1
    else
      some 0
abbrev R_iM_drops : Type := Int × Int × (Nat → Int)
def iM_drops (v_coded : Int) (v_waits : Int) (v_codes : (Nat → Int)) (v_wait : (Nat → Int)) : Option R_iM_drops :=
  gd (jr (v_waits - 1)) <|
  gd (jb (v_waits - 1) 700) <|
  bd2 (iM_code (v_wait ((v_waits - 1).toNat)) v_coded v_codes) fun v_coded_c2 v_codes_c2 =>
  some (v_coded_c2, v_waits - 1, v_codes_c2)
def iM_isMark (a1 : Int) : Option Int :=
  if a1 < 20 then
    some 0
  else
    if 24 < a1 then
      some 0
    else
      some 1
def iM_mark_b7_F (N : Nat) (v_base : Int) (v_waits : Int) (v_wait : (Nat → Int)) (k34 : Int → Option Int) (self : Int → Option Int) (x1 : Int) : Option Int :=
  if x1 < v_base then
    k34 x1
  else
    gd (jb x1 700) <|
    bd1 (iM_isMark (v_wait x1.toNat)) fun rc2 =>
    if rc2 = 0 then
      gd (jr (x1 + (-1))) <|
      self (x1 + (-1))
    else
      k34 x1
def iM_mark_b7 (N : Nat) (v_base : Int) (v_waits : Int) (v_wait : (Nat → Int)) (k34 : Int → Option Int) : Nat → Int → Option Int := zlp1 (iM_mark_b7_F N v_base v_waits v_wait k34)
def iM_mark_b34 (N : Nat) (v_base : Int) (v_waits : Int) (v_wait : (Nat → Int)) (x1 : Int) : Option Int :=
  if x1 < v_base then
    some (-1)
  else
    gd (jb x1 700) <|
    some (v_wait x1.toNat)
def iM_mark (N : Nat) (v_base : Int) (v_waits : Int) (v_wait : (Nat → Int)) : Option Int :=
  gd (jr (v_waits - 1)) <|
  iM_mark_b7 N v_base v_waits v_wait (fun e4_ => iM_mark_b34 N v_base v_waits v_wait e4_) N (v_waits - 1)
abbrev R_iM_dropsToMark : Type := Int × Int × (Nat → Int)
def iM_dropsToMark_b0_F (N : Nat) (v_base : Int) (v_wait : (Nat → Int)) (self : Int → Int → (Nat → Int) → Option R_iM_dropsToMark) (v_coded : Int) (v_waits : Int) (v_codes : (Nat → Int)) : Option R_iM_dropsToMark :=
  if v_waits ≤ v_base then
    some (v_coded, v_waits, v_codes)
  else
    gd (jr (v_waits - 1)) <|
    gd (jb (v_waits - 1) 700) <|
    bd1 (iM_isMark (v_wait ((v_waits - 1).toNat))) fun rc2 =>
    if rc2 = 0 then
      bd3 (iM_drops v_coded v_waits v_codes v_wait) fun v_coded_c3 v_waits_c3 v_codes_c3 =>
      self v_coded_c3 v_waits_c3 v_codes_c3
    else
      some (v_coded, v_waits, v_codes)
def iM_dropsToMark_b0 (N : Nat) (v_base : Int) (v_wait : (Nat → Int)) : Nat → Int → Int → (Nat → Int) → Option R_iM_dropsToMark := zlp3 (iM_dropsToMark_b0_F N v_base v_wait)
def iM_dropsToMark (N : Nat) (v_base : Int) (v_coded : Int) (v_waits : Int) (v_codes : (Nat → Int)) (v_wait : (Nat → Int)) : Option R_iM_dropsToMark :=
  iM_dropsToMark_b0 N v_base v_wait N v_coded v_waits v_codes
abbrev R_iM_numberPart : Type := Int × Int × Int × Int × Int × (Nat → Int)
def iM_numberPart_b66 (N : Nat) (v_end : Int) (v_penceWord : (Nat → Int)) (v_poundsWord : (Nat → Int)) (v_shillingsWord : (Nat → Int)) (v_tape : (Nat → Int)) (x1 : Int) (s0 : Int) (v_at : Int) (v_bad : Int) (v_badPlace : Int) (v_coded : Int) (v_ended : Int) (v_codes : (Nat → Int)) : Option R_iM_numberPart :=
  gd (jr (x1 * s0)) <|
  gd (jr (1000 + (x1 * s0))) <|
  bd2 (iM_code (1000 + (x1 * s0)) v_coded v_codes) fun v_coded_c5 v_codes_c5 =>
  some (v_at, v_bad, v_badPlace, v_coded_c5, v_ended, v_codes_c5)
def iM_numberPart (N : Nat) (v_at : Int) (v_bad : Int) (v_badPlace : Int) (v_coded : Int) (v_end : Int) (v_ended : Int) (v_codes : (Nat → Int)) (v_penceWord : (Nat → Int)) (v_poundsWord : (Nat → Int)) (v_shillingsWord : (Nat → Int)) (v_tape : (Nat → Int)) : Option R_iM_numberPart :=
  bd5 (iM_number N 0 99999 v_at v_bad v_badPlace v_end v_ended v_tape) fun rc1 v_at_c1 v_bad_c1 v_badPlace_c1 v_ended_c1 =>
  if v_bad_c1 = 0 then
    bd3 (iM_takes N 5 v_penceWord v_at_c1 v_bad_c1 v_end v_ended_c1 v_tape) fun rc2 v_at_c2 v_ended_c2 =>
    if rc2 = 0 then
      bd3 (iM_takes N 9 v_shillingsWord v_at_c2 v_bad_c1 v_end v_ended_c2 v_tape) fun rc3 v_at_c3 v_ended_c3 =>
      if rc3 = 0 then
        bd3 (iM_takes N 6 v_poundsWord v_at_c3 v_bad_c1 v_end v_ended_c3 v_tape) fun rc4 v_at_c4 v_ended_c4 =>
        if rc4 = 0 then
          iM_numberPart_b66 N v_end v_penceWord v_poundsWord v_shillingsWord v_tape rc1 1 v_at_c4 v_bad_c1 v_badPlace_c1 v_coded v_ended_c4 v_codes
        else
          iM_numberPart_b66 N v_end v_penceWord v_poundsWord v_shillingsWord v_tape rc1 240 v_at_c4 v_bad_c1 v_badPlace_c1 v_coded v_ended_c4 v_codes
      else
        iM_numberPart_b66 N v_end v_penceWord v_poundsWord v_shillingsWord v_tape rc1 12 v_at_c3 v_bad_c1 v_badPlace_c1 v_coded v_ended_c3 v_codes
    else
      iM_numberPart_b66 N v_end v_penceWord v_poundsWord v_shillingsWord v_tape rc1 1 v_at_c2 v_bad_c1 v_badPlace_c1 v_coded v_ended_c2 v_codes
  else
    some (v_at_c1, v_bad_c1, v_badPlace_c1, v_coded, v_ended_c1, v_codes)
abbrev R_iM_part : Type := Int × Int × Int × Int × Int × Int × Int × (Nat → Int) × (Nat → Int)
def iM_part_b132 (N : Nat) (v_end : Int) (v_debtWord : (Nat → Int)) (v_maxWord : (Nat → Int)) (v_minWord : (Nat → Int)) (v_paidWord : (Nat → Int)) (v_penceWord : (Nat → Int)) (v_poundsWord : (Nat → Int)) (v_shillingsWord : (Nat → Int)) (v_tape : (Nat → Int)) (v_termWord : (Nat → Int)) (v_yearWord : (Nat → Int)) (self : Int → Int → Int → Int → Int → Int → Int → (Nat → Int) → Option R_iM_part) (k146 : Int → Int → Int → Int → Int → Int → (Nat → Int) → Option R_iM_part) (x1 : Int) (v_at : Int) (v_bad : Int) (v_badPlace : Int) (v_coded : Int) (v_ended : Int) (v_open : Int) (v_waits : Int) (v_codes : (Nat → Int)) (v_wait : (Nat → Int)) : Option R_iM_part :=
  bd3 (iM_asksSign N 40 v_at v_bad v_badPlace v_end v_tape) fun v_at_c17 v_bad_c17 v_badPlace_c17 =>
  self x1 v_at_c17 v_bad_c17 v_badPlace_c17 v_ended v_open v_waits v_wait
def iM_part_b127 (N : Nat) (v_end : Int) (v_debtWord : (Nat → Int)) (v_maxWord : (Nat → Int)) (v_minWord : (Nat → Int)) (v_paidWord : (Nat → Int)) (v_penceWord : (Nat → Int)) (v_poundsWord : (Nat → Int)) (v_shillingsWord : (Nat → Int)) (v_tape : (Nat → Int)) (v_termWord : (Nat → Int)) (v_yearWord : (Nat → Int)) (self : Int → Int → Int → Int → Int → Int → Int → (Nat → Int) → Option R_iM_part) (k146 : Int → Int → Int → Int → Int → Int → (Nat → Int) → Option R_iM_part) (x1 : Int) (x4 : Int) (s1 : Int) (v_at : Int) (v_bad : Int) (v_badPlace : Int) (v_coded : Int) (v_ended : Int) (v_open : Int) (v_waits : Int) (v_codes : (Nat → Int)) (v_wait : (Nat → Int)) : Option R_iM_part :=
  bd5 (iM_opens s1 x4 v_bad v_badPlace v_open v_waits v_wait) fun v_bad_c18 v_badPlace_c18 v_open_c18 v_waits_c18 v_wait_c18 =>
  iM_part_b132 N v_end v_debtWord v_maxWord v_minWord v_paidWord v_penceWord v_poundsWord v_shillingsWord v_tape v_termWord v_yearWord self k146 x1 v_at v_bad_c18 v_badPlace_c18 v_coded v_ended v_open_c18 v_waits_c18 v_codes v_wait_c18
def iM_part_b107 (N : Nat) (v_end : Int) (v_debtWord : (Nat → Int)) (v_maxWord : (Nat → Int)) (v_minWord : (Nat → Int)) (v_paidWord : (Nat → Int)) (v_penceWord : (Nat → Int)) (v_poundsWord : (Nat → Int)) (v_shillingsWord : (Nat → Int)) (v_tape : (Nat → Int)) (v_termWord : (Nat → Int)) (v_yearWord : (Nat → Int)) (self : Int → Int → Int → Int → Int → Int → Int → (Nat → Int) → Option R_iM_part) (k146 : Int → Int → Int → Int → Int → Int → (Nat → Int) → Option R_iM_part) (x1 : Int) (x3 : Int) (s0 : Int) (v_at : Int) (v_bad : Int) (v_badPlace : Int) (v_coded : Int) (v_ended : Int) (v_open : Int) (v_waits : Int) (v_codes : (Nat → Int)) (v_wait : (Nat → Int)) : Option R_iM_part :=
  if s0 = (-1) then
    iM_part_b132 N v_end v_debtWord v_maxWord v_minWord v_paidWord v_penceWord v_poundsWord v_shillingsWord v_tape v_termWord v_yearWord self k146 x1 v_at v_bad v_badPlace v_coded v_ended v_open v_waits v_codes v_wait
  else
    if x3 = 0 then
      iM_part_b127 N v_end v_debtWord v_maxWord v_minWord v_paidWord v_penceWord v_poundsWord v_shillingsWord v_tape v_termWord v_yearWord self k146 x1 s0 22 v_at v_bad v_badPlace v_coded v_ended v_open v_waits v_codes v_wait
    else
      iM_part_b127 N v_end v_debtWord v_maxWord v_minWord v_paidWord v_penceWord v_poundsWord v_shillingsWord v_tape v_termWord v_yearWord self k146 x1 s0 21 v_at v_bad v_badPlace v_coded v_ended v_open v_waits v_codes v_wait
def iM_part_b90 (N : Nat) (v_end : Int) (v_debtWord : (Nat → Int)) (v_maxWord : (Nat → Int)) (v_minWord : (Nat → Int)) (v_paidWord : (Nat → Int)) (v_penceWord : (Nat → Int)) (v_poundsWord : (Nat → Int)) (v_shillingsWord : (Nat → Int)) (v_tape : (Nat → Int)) (v_termWord : (Nat → Int)) (v_yearWord : (Nat → Int)) (self : Int → Int → Int → Int → Int → Int → Int → (Nat → Int) → Option R_iM_part) (k146 : Int → Int → Int → Int → Int → Int → (Nat → Int) → Option R_iM_part) (x1 : Int) (x3 : Int) (v_at : Int) (v_bad : Int) (v_badPlace : Int) (v_coded : Int) (v_ended : Int) (v_open : Int) (v_waits : Int) (v_codes : (Nat → Int)) (v_wait : (Nat → Int)) : Option R_iM_part :=
  bd2 (iM_look N v_at v_end v_tape) fun rc16 v_at_c16 =>
  if rc16 = 40 then
    iM_part_b107 N v_end v_debtWord v_maxWord v_minWord v_paidWord v_penceWord v_poundsWord v_shillingsWord v_tape v_termWord v_yearWord self k146 x1 x3 v_at_c16 v_at_c16 v_bad v_badPlace v_coded v_ended v_open v_waits v_codes v_wait
  else
    iM_part_b107 N v_end v_debtWord v_maxWord v_minWord v_paidWord v_penceWord v_poundsWord v_shillingsWord v_tape v_termWord v_yearWord self k146 x1 x3 (-1) v_at_c16 v_bad v_badPlace v_coded v_ended v_open v_waits v_codes v_wait
def iM_part_b69 (N : Nat) (v_end : Int) (v_debtWord : (Nat → Int)) (v_maxWord : (Nat → Int)) (v_minWord : (Nat → Int)) (v_paidWord : (Nat → Int)) (v_penceWord : (Nat → Int)) (v_poundsWord : (Nat → Int)) (v_shillingsWord : (Nat → Int)) (v_tape : (Nat → Int)) (v_termWord : (Nat → Int)) (v_yearWord : (Nat → Int)) (self : Int → Int → Int → Int → Int → Int → Int → (Nat → Int) → Option R_iM_part) (k146 : Int → Int → Int → Int → Int → Int → (Nat → Int) → Option R_iM_part) (x1 : Int) (v_at : Int) (v_bad : Int) (v_badPlace : Int) (v_coded : Int) (v_ended : Int) (v_open : Int) (v_waits : Int) (v_codes : (Nat → Int)) (v_wait : (Nat → Int)) : Option R_iM_part :=
  bd3 (iM_takes N 3 v_minWord v_at v_bad v_end v_ended v_tape) fun rc14 v_at_c14 v_ended_c14 =>
  if rc14 = 0 then
    bd4 (iM_asks N 3 v_maxWord v_at_c14 v_bad v_badPlace v_end v_ended_c14 v_tape) fun v_at_c15 v_bad_c15 v_badPlace_c15 v_ended_c15 =>
    iM_part_b90 N v_end v_debtWord v_maxWord v_minWord v_paidWord v_penceWord v_poundsWord v_shillingsWord v_tape v_termWord v_yearWord self k146 x1 rc14 v_at_c15 v_bad_c15 v_badPlace_c15 v_coded v_ended_c15 v_open v_waits v_codes v_wait
  else
    iM_part_b90 N v_end v_debtWord v_maxWord v_minWord v_paidWord v_penceWord v_poundsWord v_shillingsWord v_tape v_termWord v_yearWord self k146 x1 rc14 v_at_c14 v_bad v_badPlace v_coded v_ended_c14 v_open v_waits v_codes v_wait
def iM_part_b2_F (N : Nat) (v_end : Int) (v_debtWord : (Nat → Int)) (v_maxWord : (Nat → Int)) (v_minWord : (Nat → Int)) (v_paidWord : (Nat → Int)) (v_penceWord : (Nat → Int)) (v_poundsWord : (Nat → Int)) (v_shillingsWord : (Nat → Int)) (v_tape : (Nat → Int)) (v_termWord : (Nat → Int)) (v_yearWord : (Nat → Int)) (v_coded : Int) (v_codes : (Nat → Int)) (k146 : Int → Int → Int → Int → Int → Int → (Nat → Int) → Option R_iM_part) (self : Int → Int → Int → Int → Int → Int → Int → (Nat → Int) → Option R_iM_part) (x1 : Int) (v_at : Int) (v_bad : Int) (v_badPlace : Int) (v_ended : Int) (v_open : Int) (v_waits : Int) (v_wait : (Nat → Int)) : Option R_iM_part :=
  if x1 = 0 then
    k146 v_at v_bad v_badPlace v_ended v_open v_waits v_wait
  else
    if v_bad = 0 then
      bd2 (iM_look N v_at v_end v_tape) fun rc1 v_at_c1 =>
      if rc1 = 40 then
        bd5 (iM_opens 20 v_at_c1 v_bad v_badPlace v_open v_waits v_wait) fun v_bad_c4 v_badPlace_c4 v_open_c4 v_waits_c4 v_wait_c4 =>
        gd (jr (v_at_c1 + 1)) <|
        self x1 (v_at_c1 + 1) v_bad_c4 v_badPlace_c4 v_ended v_open_c4 v_waits_c4 v_wait_c4
      else
        bd2 (iM_isHere N 3 v_minWord v_at_c1 v_bad v_end v_ended v_tape) fun rc2 v_at_c2 =>
        if rc2 = 0 then
          bd2 (iM_isHere N 3 v_maxWord v_at_c2 v_bad v_end v_ended v_tape) fun rc3 v_at_c3 =>
          if rc3 = 0 then
            self 0 v_at_c3 v_bad v_badPlace v_ended v_open v_waits v_wait
          else
            iM_part_b69 N v_end v_debtWord v_maxWord v_minWord v_paidWord v_penceWord v_poundsWord v_shillingsWord v_tape v_termWord v_yearWord self k146 x1 v_at_c3 v_bad v_badPlace v_coded v_ended v_open v_waits v_codes v_wait
        else
          iM_part_b69 N v_end v_debtWord v_maxWord v_minWord v_paidWord v_penceWord v_poundsWord v_shillingsWord v_tape v_termWord v_yearWord self k146 x1 v_at_c2 v_bad v_badPlace v_coded v_ended v_open v_waits v_codes v_wait
    else
      k146 v_at v_bad v_badPlace v_ended v_open v_waits v_wait
def iM_part_b2 (N : Nat) (v_end : Int) (v_debtWord : (Nat → Int)) (v_maxWord : (Nat → Int)) (v_minWord : (Nat → Int)) (v_paidWord : (Nat → Int)) (v_penceWord : (Nat → Int)) (v_poundsWord : (Nat → Int)) (v_shillingsWord : (Nat → Int)) (v_tape : (Nat → Int)) (v_termWord : (Nat → Int)) (v_yearWord : (Nat → Int)) (v_coded : Int) (v_codes : (Nat → Int)) (k146 : Int → Int → Int → Int → Int → Int → (Nat → Int) → Option R_iM_part) : Nat → Int → Int → Int → Int → Int → Int → Int → (Nat → Int) → Option R_iM_part := zlp8 (iM_part_b2_F N v_end v_debtWord v_maxWord v_minWord v_paidWord v_penceWord v_poundsWord v_shillingsWord v_tape v_termWord v_yearWord v_coded v_codes k146)
def iM_part_b146 (N : Nat) (v_end : Int) (v_debtWord : (Nat → Int)) (v_maxWord : (Nat → Int)) (v_minWord : (Nat → Int)) (v_paidWord : (Nat → Int)) (v_penceWord : (Nat → Int)) (v_poundsWord : (Nat → Int)) (v_shillingsWord : (Nat → Int)) (v_tape : (Nat → Int)) (v_termWord : (Nat → Int)) (v_yearWord : (Nat → Int)) (v_at : Int) (v_bad : Int) (v_badPlace : Int) (v_coded : Int) (v_ended : Int) (v_open : Int) (v_waits : Int) (v_codes : (Nat → Int)) (v_wait : (Nat → Int)) : Option R_iM_part :=
  if v_bad = 0 then
    bd3 (iM_takes N 4 v_termWord v_at v_bad v_end v_ended v_tape) fun rc5 v_at_c5 v_ended_c5 =>
    if rc5 = 0 then
      bd3 (iM_takes N 4 v_yearWord v_at_c5 v_bad v_end v_ended_c5 v_tape) fun rc6 v_at_c6 v_ended_c6 =>
      if rc6 = 0 then
        bd3 (iM_takes N 4 v_debtWord v_at_c6 v_bad v_end v_ended_c6 v_tape) fun rc7 v_at_c7 v_ended_c7 =>
        if rc7 = 0 then
          bd3 (iM_takes N 4 v_paidWord v_at_c7 v_bad v_end v_ended_c7 v_tape) fun rc8 v_at_c8 v_ended_c8 =>
          if rc8 = 0 then
            bd6 (iM_numberPart N v_at_c8 v_bad v_badPlace v_coded v_end v_ended_c8 v_codes v_penceWord v_poundsWord v_shillingsWord v_tape) fun v_at_c9 v_bad_c9 v_badPlace_c9 v_coded_c9 v_ended_c9 v_codes_c9 =>
            some (v_at_c9, v_bad_c9, v_badPlace_c9, v_coded_c9, v_ended_c9, v_open, v_waits, v_codes_c9, v_wait)
          else
            bd2 (iM_code 10 v_coded v_codes) fun v_coded_c10 v_codes_c10 =>
            some (v_at_c8, v_bad, v_badPlace, v_coded_c10, v_ended_c8, v_open, v_waits, v_codes_c10, v_wait)
        else
          bd2 (iM_code 9 v_coded v_codes) fun v_coded_c11 v_codes_c11 =>
          some (v_at_c7, v_bad, v_badPlace, v_coded_c11, v_ended_c7, v_open, v_waits, v_codes_c11, v_wait)
      else
        bd2 (iM_code 8 v_coded v_codes) fun v_coded_c12 v_codes_c12 =>
        some (v_at_c6, v_bad, v_badPlace, v_coded_c12, v_ended_c6, v_open, v_waits, v_codes_c12, v_wait)
    else
      bd2 (iM_code 7 v_coded v_codes) fun v_coded_c13 v_codes_c13 =>
      some (v_at_c5, v_bad, v_badPlace, v_coded_c13, v_ended_c5, v_open, v_waits, v_codes_c13, v_wait)
  else
    some (v_at, v_bad, v_badPlace, v_coded, v_ended, v_open, v_waits, v_codes, v_wait)
def iM_part (N : Nat) (v_at : Int) (v_bad : Int) (v_badPlace : Int) (v_coded : Int) (v_end : Int) (v_ended : Int) (v_open : Int) (v_waits : Int) (v_codes : (Nat → Int)) (v_debtWord : (Nat → Int)) (v_maxWord : (Nat → Int)) (v_minWord : (Nat → Int)) (v_paidWord : (Nat → Int)) (v_penceWord : (Nat → Int)) (v_poundsWord : (Nat → Int)) (v_shillingsWord : (Nat → Int)) (v_tape : (Nat → Int)) (v_termWord : (Nat → Int)) (v_wait : (Nat → Int)) (v_yearWord : (Nat → Int)) : Option R_iM_part :=
  iM_part_b2 N v_end v_debtWord v_maxWord v_minWord v_paidWord v_penceWord v_poundsWord v_shillingsWord v_tape v_termWord v_yearWord v_coded v_codes (fun v_at_k1 v_bad_k2 v_badPlace_k3 v_ended_k4 v_open_k5 v_waits_k6 e20_ => iM_part_b146 N v_end v_debtWord v_maxWord v_minWord v_paidWord v_penceWord v_poundsWord v_shillingsWord v_tape v_termWord v_yearWord v_at_k1 v_bad_k2 v_badPlace_k3 v_coded v_ended_k4 v_open_k5 v_waits_k6 v_codes e20_) N 1 v_at v_bad v_badPlace v_ended v_open v_waits v_wait
abbrev R_iM_goesOn : Type := Int × Int × Int × Int × Int × Int × Int × (Nat → Int) × (Nat → Int)
def iM_goesOn_b112 (N : Nat) (v_base : Int) (v_end : Int) (v_tape : (Nat → Int)) (self : Int → Int → Int → Int → (Nat → Int) → Option R_iM_goesOn) (k118 : Int → Int → Int → Int → (Nat → Int) → Option R_iM_goesOn) (s1 : Int) (v_at : Int) (v_bad : Int) (v_badPlace : Int) (v_coded : Int) (v_open : Int) (v_waits : Int) (v_codes : (Nat → Int)) (v_wait : (Nat → Int)) : Option R_iM_goesOn :=
  bd2 (iM_code s1 v_coded v_codes) fun v_coded_c20 v_codes_c20 =>
  self v_at v_coded_c20 v_open v_waits v_codes_c20
def iM_goesOn_b43 (N : Nat) (v_base : Int) (v_end : Int) (v_tape : (Nat → Int)) (self : Int → Int → Int → Int → (Nat → Int) → Option R_iM_goesOn) (k118 : Int → Int → Int → Int → (Nat → Int) → Option R_iM_goesOn) (v_at : Int) (v_bad : Int) (v_badPlace : Int) (v_coded : Int) (v_open : Int) (v_waits : Int) (v_codes : (Nat → Int)) (v_wait : (Nat → Int)) : Option R_iM_goesOn :=
  bd3 (iM_dropsToMark N v_base v_coded v_waits v_codes v_wait) fun v_coded_c13 v_waits_c13 v_codes_c13 =>
  gd (jr (v_waits_c13 - 1)) <|
  gd (jb (v_waits_c13 - 1) 700) <|
  if v_wait ((v_waits_c13 - 1).toNat) = 20 then
    gd (jr (v_at + 1)) <|
    gd (jr (v_open - 1)) <|
    self (v_at + 1) v_coded_c13 (v_open - 1) (v_waits_c13 - 1) v_codes_c13
  else
    if v_wait ((v_waits_c13 - 1).toNat) = 23 then
      gd (jr (v_at + 1)) <|
      gd (jr (v_open - 1)) <|
      iM_goesOn_b112 N v_base v_end v_tape self k118 5 (v_at + 1) v_bad v_badPlace v_coded_c13 (v_open - 1) (v_waits_c13 - 1) v_codes_c13 v_wait
    else
      gd (jr (v_at + 1)) <|
      gd (jr (v_open - 1)) <|
      iM_goesOn_b112 N v_base v_end v_tape self k118 6 (v_at + 1) v_bad v_badPlace v_coded_c13 (v_open - 1) (v_waits_c13 - 1) v_codes_c13 v_wait
def iM_goesOn_b0_F (N : Nat) (v_base : Int) (v_end : Int) (v_tape : (Nat → Int)) (v_bad : Int) (v_badPlace : Int) (v_wait : (Nat → Int)) (k118 : Int → Int → Int → Int → (Nat → Int) → Option R_iM_goesOn) (self : Int → Int → Int → Int → (Nat → Int) → Option R_iM_goesOn) (v_at : Int) (v_coded : Int) (v_open : Int) (v_waits : Int) (v_codes : (Nat → Int)) : Option R_iM_goesOn :=
  if v_bad = 0 then
    bd2 (iM_look N v_at v_end v_tape) fun rc1 v_at_c1 =>
    if rc1 = 41 then
      bd1 (iM_mark N v_base v_waits v_wait) fun rc2 =>
      if rc2 = 20 then
        iM_goesOn_b43 N v_base v_end v_tape self k118 v_at_c1 v_bad v_badPlace v_coded v_open v_waits v_codes v_wait
      else
        bd1 (iM_mark N v_base v_waits v_wait) fun rc3 =>
        if rc3 = 23 then
          iM_goesOn_b43 N v_base v_end v_tape self k118 v_at_c1 v_bad v_badPlace v_coded v_open v_waits v_codes v_wait
        else
          bd1 (iM_mark N v_base v_waits v_wait) fun rc4 =>
          if rc4 = 24 then
            iM_goesOn_b43 N v_base v_end v_tape self k118 v_at_c1 v_bad v_badPlace v_coded v_open v_waits v_codes v_wait
          else
            k118 v_at_c1 v_coded v_open v_waits v_codes
    else
      k118 v_at_c1 v_coded v_open v_waits v_codes
  else
    k118 v_at v_coded v_open v_waits v_codes
def iM_goesOn_b0 (N : Nat) (v_base : Int) (v_end : Int) (v_tape : (Nat → Int)) (v_bad : Int) (v_badPlace : Int) (v_wait : (Nat → Int)) (k118 : Int → Int → Int → Int → (Nat → Int) → Option R_iM_goesOn) : Nat → Int → Int → Int → Int → (Nat → Int) → Option R_iM_goesOn := zlp5 (iM_goesOn_b0_F N v_base v_end v_tape v_bad v_badPlace v_wait k118)
def iM_goesOn_b322 (N : Nat) (v_base : Int) (v_end : Int) (v_tape : (Nat → Int)) (v_at : Int) (v_bad : Int) (v_badPlace : Int) (v_coded : Int) (v_open : Int) (v_waits : Int) (v_codes : (Nat → Int)) (v_wait : (Nat → Int)) : Option R_iM_goesOn :=
  bd3 (iM_asksSign N 44 v_at v_bad v_badPlace v_end v_tape) fun v_at_c17 v_bad_c17 v_badPlace_c17 =>
  if v_bad_c17 = 0 then
    bd3 (iM_dropsToMark N v_base v_coded v_waits v_codes v_wait) fun v_coded_c18 v_waits_c18 v_codes_c18 =>
    gd (jr (v_waits_c18 - 1)) <|
    gd (jb (v_waits_c18 - 1) 700) <|
    gd (jr ((v_wait ((v_waits_c18 - 1).toNat)) + 2)) <|
    some (1, v_at_c17, v_bad_c17, v_badPlace_c17, v_coded_c18, v_open, v_waits_c18, v_codes_c18, va_up v_wait ((v_waits_c18 - 1).toNat) ((v_wait ((v_waits_c18 - 1).toNat)) + 2))
  else
    some (0, v_at_c17, v_bad_c17, v_badPlace_c17, v_coded, v_open, v_waits, v_codes, v_wait)
def iM_goesOn_b275 (N : Nat) (v_base : Int) (v_end : Int) (v_tape : (Nat → Int)) (self : Int → Int → (Nat → Int) → Option R_iM_goesOn) (x1 : Int) (v_at : Int) (v_bad : Int) (v_badPlace : Int) (v_coded : Int) (v_open : Int) (v_waits : Int) (v_codes : (Nat → Int)) (v_wait : (Nat → Int)) : Option R_iM_goesOn :=
  bd3 (iM_drops v_coded v_waits v_codes v_wait) fun v_coded_c30 v_waits_c30 v_codes_c30 =>
  self v_coded_c30 v_waits_c30 v_codes_c30
def iM_goesOn_b243_F (N : Nat) (v_base : Int) (v_end : Int) (v_tape : (Nat → Int)) (x1 : Int) (v_at : Int) (v_bad : Int) (v_badPlace : Int) (v_open : Int) (v_wait : (Nat → Int)) (self : Int → Int → (Nat → Int) → Option R_iM_goesOn) (v_coded : Int) (v_waits : Int) (v_codes : (Nat → Int)) : Option R_iM_goesOn :=
  bd1 (iM_isOn 3 v_waits v_wait) fun rc24 =>
  if rc24 = 0 then
    bd1 (iM_isOn 4 v_waits v_wait) fun rc25 =>
    if rc25 = 0 then
      bd1 (iM_isOn 1 v_waits v_wait) fun rc26 =>
      if rc26 = 0 then
        bd1 (iM_isOn 2 v_waits v_wait) fun rc27 =>
        if rc27 = 0 then
          gd (jb v_waits 700) <|
          gd (jr (v_waits + 1)) <|
          some (1, v_at, v_bad, v_badPlace, v_coded, v_open, v_waits + 1, v_codes, va_up v_wait v_waits.toNat x1)
        else
          iM_goesOn_b275 N v_base v_end v_tape self x1 v_at v_bad v_badPlace v_coded v_open v_waits v_codes v_wait
      else
        iM_goesOn_b275 N v_base v_end v_tape self x1 v_at v_bad v_badPlace v_coded v_open v_waits v_codes v_wait
    else
      iM_goesOn_b275 N v_base v_end v_tape self x1 v_at v_bad v_badPlace v_coded v_open v_waits v_codes v_wait
  else
    iM_goesOn_b275 N v_base v_end v_tape self x1 v_at v_bad v_badPlace v_coded v_open v_waits v_codes v_wait
def iM_goesOn_b243 (N : Nat) (v_base : Int) (v_end : Int) (v_tape : (Nat → Int)) (x1 : Int) (v_at : Int) (v_bad : Int) (v_badPlace : Int) (v_open : Int) (v_wait : (Nat → Int)) : Nat → Int → Int → (Nat → Int) → Option R_iM_goesOn := zlp3 (iM_goesOn_b243_F N v_base v_end v_tape x1 v_at v_bad v_badPlace v_open v_wait)
def iM_goesOn_b221 (N : Nat) (v_base : Int) (v_end : Int) (v_tape : (Nat → Int)) (v_at : Int) (v_bad : Int) (v_badPlace : Int) (v_coded : Int) (v_open : Int) (v_waits : Int) (v_codes : (Nat → Int)) (v_wait : (Nat → Int)) : Option R_iM_goesOn :=
  gd (jr (v_at - 1)) <|
  gd (jb (v_at - 1) 600) <|
  if v_tape ((v_at - 1).toNat) = 43 then
    iM_goesOn_b243 N v_base v_end v_tape 1 v_at v_bad v_badPlace v_open v_wait N v_coded v_waits v_codes
  else
    iM_goesOn_b243 N v_base v_end v_tape 2 v_at v_bad v_badPlace v_open v_wait N v_coded v_waits v_codes
def iM_goesOn_b174 (N : Nat) (v_base : Int) (v_end : Int) (v_tape : (Nat → Int)) (self : Int → Int → (Nat → Int) → Option R_iM_goesOn) (x1 : Int) (v_at : Int) (v_bad : Int) (v_badPlace : Int) (v_coded : Int) (v_open : Int) (v_waits : Int) (v_codes : (Nat → Int)) (v_wait : (Nat → Int)) : Option R_iM_goesOn :=
  bd3 (iM_drops v_coded v_waits v_codes v_wait) fun v_coded_c29 v_waits_c29 v_codes_c29 =>
  self v_coded_c29 v_waits_c29 v_codes_c29
def iM_goesOn_b158_F (N : Nat) (v_base : Int) (v_end : Int) (v_tape : (Nat → Int)) (x1 : Int) (v_at : Int) (v_bad : Int) (v_badPlace : Int) (v_open : Int) (v_wait : (Nat → Int)) (self : Int → Int → (Nat → Int) → Option R_iM_goesOn) (v_coded : Int) (v_waits : Int) (v_codes : (Nat → Int)) : Option R_iM_goesOn :=
  bd1 (iM_isOn 3 v_waits v_wait) fun rc21 =>
  if rc21 = 0 then
    bd1 (iM_isOn 4 v_waits v_wait) fun rc22 =>
    if rc22 = 0 then
      gd (jb v_waits 700) <|
      gd (jr (v_waits + 1)) <|
      some (1, v_at, v_bad, v_badPlace, v_coded, v_open, v_waits + 1, v_codes, va_up v_wait v_waits.toNat x1)
    else
      iM_goesOn_b174 N v_base v_end v_tape self x1 v_at v_bad v_badPlace v_coded v_open v_waits v_codes v_wait
  else
    iM_goesOn_b174 N v_base v_end v_tape self x1 v_at v_bad v_badPlace v_coded v_open v_waits v_codes v_wait
def iM_goesOn_b158 (N : Nat) (v_base : Int) (v_end : Int) (v_tape : (Nat → Int)) (x1 : Int) (v_at : Int) (v_bad : Int) (v_badPlace : Int) (v_open : Int) (v_wait : (Nat → Int)) : Nat → Int → Int → (Nat → Int) → Option R_iM_goesOn := zlp3 (iM_goesOn_b158_F N v_base v_end v_tape x1 v_at v_bad v_badPlace v_open v_wait)
def iM_goesOn_b136 (N : Nat) (v_base : Int) (v_end : Int) (v_tape : (Nat → Int)) (v_at : Int) (v_bad : Int) (v_badPlace : Int) (v_coded : Int) (v_open : Int) (v_waits : Int) (v_codes : (Nat → Int)) (v_wait : (Nat → Int)) : Option R_iM_goesOn :=
  gd (jr (v_at - 1)) <|
  gd (jb (v_at - 1) 600) <|
  if v_tape ((v_at - 1).toNat) = 42 then
    iM_goesOn_b158 N v_base v_end v_tape 3 v_at v_bad v_badPlace v_open v_wait N v_coded v_waits v_codes
  else
    iM_goesOn_b158 N v_base v_end v_tape 4 v_at v_bad v_badPlace v_open v_wait N v_coded v_waits v_codes
def iM_goesOn_b118 (N : Nat) (v_base : Int) (v_end : Int) (v_tape : (Nat → Int)) (v_at : Int) (v_bad : Int) (v_badPlace : Int) (v_coded : Int) (v_open : Int) (v_waits : Int) (v_codes : (Nat → Int)) (v_wait : (Nat → Int)) : Option R_iM_goesOn :=
  bd2 (iM_takesSign N 42 v_at v_bad v_end v_tape) fun rc5 v_at_c5 =>
  if rc5 = 0 then
    bd2 (iM_takesSign N 47 v_at_c5 v_bad v_end v_tape) fun rc6 v_at_c6 =>
    if rc6 = 0 then
      bd2 (iM_takesSign N 43 v_at_c6 v_bad v_end v_tape) fun rc7 v_at_c7 =>
      if rc7 = 0 then
        bd2 (iM_takesSign N 45 v_at_c7 v_bad v_end v_tape) fun rc8 v_at_c8 =>
        if rc8 = 0 then
          bd1 (iM_mark N v_base v_waits v_wait) fun rc9 =>
          if rc9 = 21 then
            iM_goesOn_b322 N v_base v_end v_tape v_at_c8 v_bad v_badPlace v_coded v_open v_waits v_codes v_wait
          else
            bd1 (iM_mark N v_base v_waits v_wait) fun rc10 =>
            if rc10 = 22 then
              iM_goesOn_b322 N v_base v_end v_tape v_at_c8 v_bad v_badPlace v_coded v_open v_waits v_codes v_wait
            else
              bd1 (iM_mark N v_base v_waits v_wait) fun rc11 =>
              if rc11 = (-1) then
                some (0, v_at_c8, v_bad, v_badPlace, v_coded, v_open, v_waits, v_codes, v_wait)
              else
                if v_bad = 0 then
                  bd2 (iM_fail 1 v_at_c8 v_bad v_badPlace) fun v_bad_c12 v_badPlace_c12 =>
                  some (0, v_at_c8, v_bad_c12, v_badPlace_c12, v_coded, v_open, v_waits, v_codes, v_wait)
                else
                  some (0, v_at_c8, v_bad, v_badPlace, v_coded, v_open, v_waits, v_codes, v_wait)
        else
          iM_goesOn_b221 N v_base v_end v_tape v_at_c8 v_bad v_badPlace v_coded v_open v_waits v_codes v_wait
      else
        iM_goesOn_b221 N v_base v_end v_tape v_at_c7 v_bad v_badPlace v_coded v_open v_waits v_codes v_wait
    else
      iM_goesOn_b136 N v_base v_end v_tape v_at_c6 v_bad v_badPlace v_coded v_open v_waits v_codes v_wait
  else
    iM_goesOn_b136 N v_base v_end v_tape v_at_c5 v_bad v_badPlace v_coded v_open v_waits v_codes v_wait
def iM_goesOn (N : Nat) (v_at : Int) (v_bad : Int) (v_badPlace : Int) (v_base : Int) (v_coded : Int) (v_end : Int) (v_open : Int) (v_waits : Int) (v_codes : (Nat → Int)) (v_tape : (Nat → Int)) (v_wait : (Nat → Int)) : Option R_iM_goesOn :=
  iM_goesOn_b0 N v_base v_end v_tape v_bad v_badPlace v_wait (fun v_at_k1 v_coded_k2 v_open_k3 v_waits_k4 v_codes_k5 => iM_goesOn_b118 N v_base v_end v_tape v_at_k1 v_bad v_badPlace v_coded_k2 v_open_k3 v_waits_k4 v_codes_k5 v_wait) N v_at v_coded v_open v_waits v_codes
abbrev R_iM_sums : Type := Int × Int × Int × Int × Int × Int × Int × Int × (Nat → Int) × (Nat → Int)
def iM_sums_b15_F (N : Nat) (v_end : Int) (v_debtWord : (Nat → Int)) (v_maxWord : (Nat → Int)) (v_minWord : (Nat → Int)) (v_paidWord : (Nat → Int)) (v_penceWord : (Nat → Int)) (v_poundsWord : (Nat → Int)) (v_shillingsWord : (Nat → Int)) (v_tape : (Nat → Int)) (v_termWord : (Nat → Int)) (v_yearWord : (Nat → Int)) (x1 : Int) (v_base : Int) (k53 : Int → Int → Int → Int → Int → Int → Int → (Nat → Int) → (Nat → Int) → Option R_iM_sums) (self : Int → Int → Int → Int → Int → Int → Int → Int → (Nat → Int) → (Nat → Int) → Option R_iM_sums) (x2 : Int) (v_at : Int) (v_bad : Int) (v_badPlace : Int) (v_coded : Int) (v_ended : Int) (v_open : Int) (v_waits : Int) (v_codes : (Nat → Int)) (v_wait : (Nat → Int)) : Option R_iM_sums :=
  if x2 = 0 then
    k53 v_at v_bad v_badPlace v_coded v_ended v_open v_waits v_codes v_wait
  else
    if v_bad = 0 then
      bd9 (iM_part N v_at v_bad v_badPlace v_coded v_end v_ended v_open v_waits v_codes v_debtWord v_maxWord v_minWord v_paidWord v_penceWord v_poundsWord v_shillingsWord v_tape v_termWord v_wait v_yearWord) fun v_at_c1 v_bad_c1 v_badPlace_c1 v_coded_c1 v_ended_c1 v_open_c1 v_waits_c1 v_codes_c1 v_wait_c1 =>
      if v_bad_c1 = 0 then
        bd9 (iM_goesOn N v_at_c1 v_bad_c1 v_badPlace_c1 v_base v_coded_c1 v_end v_open_c1 v_waits_c1 v_codes_c1 v_tape v_wait_c1) fun rc2 v_at_c2 v_bad_c2 v_badPlace_c2 v_coded_c2 v_open_c2 v_waits_c2 v_codes_c2 v_wait_c2 =>
        if rc2 = 0 then
          self 0 v_at_c2 v_bad_c2 v_badPlace_c2 v_coded_c2 v_ended_c1 v_open_c2 v_waits_c2 v_codes_c2 v_wait_c2
        else
          self 1 v_at_c2 v_bad_c2 v_badPlace_c2 v_coded_c2 v_ended_c1 v_open_c2 v_waits_c2 v_codes_c2 v_wait_c2
      else
        self 0 v_at_c1 v_bad_c1 v_badPlace_c1 v_coded_c1 v_ended_c1 v_open_c1 v_waits_c1 v_codes_c1 v_wait_c1
    else
      k53 v_at v_bad v_badPlace v_coded v_ended v_open v_waits v_codes v_wait
def iM_sums_b15 (N : Nat) (v_end : Int) (v_debtWord : (Nat → Int)) (v_maxWord : (Nat → Int)) (v_minWord : (Nat → Int)) (v_paidWord : (Nat → Int)) (v_penceWord : (Nat → Int)) (v_poundsWord : (Nat → Int)) (v_shillingsWord : (Nat → Int)) (v_tape : (Nat → Int)) (v_termWord : (Nat → Int)) (v_yearWord : (Nat → Int)) (x1 : Int) (v_base : Int) (k53 : Int → Int → Int → Int → Int → Int → Int → (Nat → Int) → (Nat → Int) → Option R_iM_sums) : Nat → Int → Int → Int → Int → Int → Int → Int → Int → (Nat → Int) → (Nat → Int) → Option R_iM_sums := zlp10 (iM_sums_b15_F N v_end v_debtWord v_maxWord v_minWord v_paidWord v_penceWord v_poundsWord v_shillingsWord v_tape v_termWord v_yearWord x1 v_base k53)
def iM_sums_b53_F (N : Nat) (v_end : Int) (v_debtWord : (Nat → Int)) (v_maxWord : (Nat → Int)) (v_minWord : (Nat → Int)) (v_paidWord : (Nat → Int)) (v_penceWord : (Nat → Int)) (v_poundsWord : (Nat → Int)) (v_shillingsWord : (Nat → Int)) (v_tape : (Nat → Int)) (v_termWord : (Nat → Int)) (v_yearWord : (Nat → Int)) (x1 : Int) (v_at : Int) (v_bad : Int) (v_badPlace : Int) (v_base : Int) (v_ended : Int) (v_open : Int) (v_wait : (Nat → Int)) (k78 : Int → Int → (Nat → Int) → Option R_iM_sums) (self : Int → Int → (Nat → Int) → Option R_iM_sums) (v_coded : Int) (v_waits : Int) (v_codes : (Nat → Int)) : Option R_iM_sums :=
  if v_bad = 0 then
    if v_waits ≤ v_base then
      k78 v_coded v_waits v_codes
    else
      bd3 (iM_drops v_coded v_waits v_codes v_wait) fun v_coded_c3 v_waits_c3 v_codes_c3 =>
      self v_coded_c3 v_waits_c3 v_codes_c3
  else
    k78 v_coded v_waits v_codes
def iM_sums_b53 (N : Nat) (v_end : Int) (v_debtWord : (Nat → Int)) (v_maxWord : (Nat → Int)) (v_minWord : (Nat → Int)) (v_paidWord : (Nat → Int)) (v_penceWord : (Nat → Int)) (v_poundsWord : (Nat → Int)) (v_shillingsWord : (Nat → Int)) (v_tape : (Nat → Int)) (v_termWord : (Nat → Int)) (v_yearWord : (Nat → Int)) (x1 : Int) (v_at : Int) (v_bad : Int) (v_badPlace : Int) (v_base : Int) (v_ended : Int) (v_open : Int) (v_wait : (Nat → Int)) (k78 : Int → Int → (Nat → Int) → Option R_iM_sums) : Nat → Int → Int → (Nat → Int) → Option R_iM_sums := zlp3 (iM_sums_b53_F N v_end v_debtWord v_maxWord v_minWord v_paidWord v_penceWord v_poundsWord v_shillingsWord v_tape v_termWord v_yearWord x1 v_at v_bad v_badPlace v_base v_ended v_open v_wait k78)
def iM_sums_b78 (N : Nat) (v_end : Int) (v_debtWord : (Nat → Int)) (v_maxWord : (Nat → Int)) (v_minWord : (Nat → Int)) (v_paidWord : (Nat → Int)) (v_penceWord : (Nat → Int)) (v_poundsWord : (Nat → Int)) (v_shillingsWord : (Nat → Int)) (v_tape : (Nat → Int)) (v_termWord : (Nat → Int)) (v_yearWord : (Nat → Int)) (x1 : Int) (v_at : Int) (v_bad : Int) (v_badPlace : Int) (v_base : Int) (v_coded : Int) (v_ended : Int) (v_open : Int) (v_waits : Int) (v_codes : (Nat → Int)) (v_wait : (Nat → Int)) : Option R_iM_sums :=
  some (v_at, v_bad, v_badPlace, x1, v_coded, v_ended, v_open, v_waits, v_codes, v_wait)
def iM_sums (N : Nat) (v_at : Int) (v_bad : Int) (v_badPlace : Int) (v_base : Int) (v_coded : Int) (v_end : Int) (v_ended : Int) (v_open : Int) (v_waits : Int) (v_codes : (Nat → Int)) (v_debtWord : (Nat → Int)) (v_maxWord : (Nat → Int)) (v_minWord : (Nat → Int)) (v_paidWord : (Nat → Int)) (v_penceWord : (Nat → Int)) (v_poundsWord : (Nat → Int)) (v_shillingsWord : (Nat → Int)) (v_tape : (Nat → Int)) (v_termWord : (Nat → Int)) (v_wait : (Nat → Int)) (v_yearWord : (Nat → Int)) : Option R_iM_sums :=
  iM_sums_b15 N v_end v_debtWord v_maxWord v_minWord v_paidWord v_penceWord v_poundsWord v_shillingsWord v_tape v_termWord v_yearWord v_base v_waits (fun v_at_k1 v_bad_k2 v_badPlace_k3 v_coded_k4 v_ended_k5 v_open_k6 v_waits_k7 v_codes_k8 v_wait_k9 => iM_sums_b53 N v_end v_debtWord v_maxWord v_minWord v_paidWord v_penceWord v_poundsWord v_shillingsWord v_tape v_termWord v_yearWord v_base v_at_k1 v_bad_k2 v_badPlace_k3 v_waits v_ended_k5 v_open_k6 v_wait_k9 (fun v_coded_k10 v_waits_k11 v_codes_k12 => iM_sums_b78 N v_end v_debtWord v_maxWord v_minWord v_paidWord v_penceWord v_poundsWord v_shillingsWord v_tape v_termWord v_yearWord v_base v_at_k1 v_bad_k2 v_badPlace_k3 v_waits v_coded_k10 v_ended_k5 v_open_k6 v_waits_k11 v_codes_k12 v_wait_k9) N v_coded_k4 v_waits_k7 v_codes_k8) N 1 v_at v_bad v_badPlace v_coded v_ended v_open v_waits v_codes v_wait
abbrev R_iM_fact : Type := Int × Int × Int × Int × Int × Int × Int × Int × (Nat → Int) × (Nat → Int)
def iM_fact_b128 (N : Nat) (v_end : Int) (v_allWord : (Nat → Int)) (v_debtWord : (Nat → Int)) (v_maxWord : (Nat → Int)) (v_minWord : (Nat → Int)) (v_paidWord : (Nat → Int)) (v_penceWord : (Nat → Int)) (v_poundsWord : (Nat → Int)) (v_shillingsWord : (Nat → Int)) (v_shireWord : (Nat → Int)) (v_tape : (Nat → Int)) (v_termWord : (Nat → Int)) (v_yearWord : (Nat → Int)) (s1 : Int) (v_at : Int) (v_bad : Int) (v_badPlace : Int) (v_base : Int) (v_coded : Int) (v_ended : Int) (v_open : Int) (v_waits : Int) (v_codes : (Nat → Int)) (v_wait : (Nat → Int)) : Option R_iM_fact :=
  bd2 (iM_code s1 v_coded v_codes) fun v_coded_c10 v_codes_c10 =>
  some (v_at, v_bad, v_badPlace, v_base, v_coded_c10, v_ended, v_open, v_waits, v_codes_c10, v_wait)
def iM_fact_b89 (N : Nat) (v_end : Int) (v_allWord : (Nat → Int)) (v_debtWord : (Nat → Int)) (v_maxWord : (Nat → Int)) (v_minWord : (Nat → Int)) (v_paidWord : (Nat → Int)) (v_penceWord : (Nat → Int)) (v_poundsWord : (Nat → Int)) (v_shillingsWord : (Nat → Int)) (v_shireWord : (Nat → Int)) (v_tape : (Nat → Int)) (v_termWord : (Nat → Int)) (v_yearWord : (Nat → Int)) (x1 : Int) (v_at : Int) (v_bad : Int) (v_badPlace : Int) (v_base : Int) (v_coded : Int) (v_ended : Int) (v_open : Int) (v_waits : Int) (v_codes : (Nat → Int)) (v_wait : (Nat → Int)) : Option R_iM_fact :=
  gd (jr (v_at + 1)) <|
  bd10 (iM_sums N (v_at + 1) v_bad v_badPlace v_base v_coded v_end v_ended v_open v_waits v_codes v_debtWord v_maxWord v_minWord v_paidWord v_penceWord v_poundsWord v_shillingsWord v_tape v_termWord v_wait v_yearWord) fun v_at_c9 v_bad_c9 v_badPlace_c9 v_base_c9 v_coded_c9 v_ended_c9 v_open_c9 v_waits_c9 v_codes_c9 v_wait_c9 =>
  if x1 = 60 then
    iM_fact_b128 N v_end v_allWord v_debtWord v_maxWord v_minWord v_paidWord v_penceWord v_poundsWord v_shillingsWord v_shireWord v_tape v_termWord v_yearWord 11 v_at_c9 v_bad_c9 v_badPlace_c9 v_base_c9 v_coded_c9 v_ended_c9 v_open_c9 v_waits_c9 v_codes_c9 v_wait_c9
  else
    if x1 = 62 then
      iM_fact_b128 N v_end v_allWord v_debtWord v_maxWord v_minWord v_paidWord v_penceWord v_poundsWord v_shillingsWord v_shireWord v_tape v_termWord v_yearWord 12 v_at_c9 v_bad_c9 v_badPlace_c9 v_base_c9 v_coded_c9 v_ended_c9 v_open_c9 v_waits_c9 v_codes_c9 v_wait_c9
    else
      iM_fact_b128 N v_end v_allWord v_debtWord v_maxWord v_minWord v_paidWord v_penceWord v_poundsWord v_shillingsWord v_shireWord v_tape v_termWord v_yearWord 13 v_at_c9 v_bad_c9 v_badPlace_c9 v_base_c9 v_coded_c9 v_ended_c9 v_open_c9 v_waits_c9 v_codes_c9 v_wait_c9
def iM_fact (N : Nat) (v_at : Int) (v_bad : Int) (v_badPlace : Int) (v_base : Int) (v_coded : Int) (v_end : Int) (v_ended : Int) (v_open : Int) (v_waits : Int) (v_allWord : (Nat → Int)) (v_codes : (Nat → Int)) (v_debtWord : (Nat → Int)) (v_maxWord : (Nat → Int)) (v_minWord : (Nat → Int)) (v_paidWord : (Nat → Int)) (v_penceWord : (Nat → Int)) (v_poundsWord : (Nat → Int)) (v_shillingsWord : (Nat → Int)) (v_shireWord : (Nat → Int)) (v_tape : (Nat → Int)) (v_termWord : (Nat → Int)) (v_wait : (Nat → Int)) (v_yearWord : (Nat → Int)) : Option R_iM_fact :=
  bd3 (iM_takes N 3 v_allWord v_at v_bad v_end v_ended v_tape) fun rc1 v_at_c1 v_ended_c1 =>
  if rc1 = 0 then
    bd3 (iM_takes N 5 v_shireWord v_at_c1 v_bad v_end v_ended_c1 v_tape) fun rc2 v_at_c2 v_ended_c2 =>
    if rc2 = 0 then
      bd10 (iM_sums N v_at_c2 v_bad v_badPlace v_base v_coded v_end v_ended_c2 v_open v_waits v_codes v_debtWord v_maxWord v_minWord v_paidWord v_penceWord v_poundsWord v_shillingsWord v_tape v_termWord v_wait v_yearWord) fun v_at_c3 v_bad_c3 v_badPlace_c3 v_base_c3 v_coded_c3 v_ended_c3 v_open_c3 v_waits_c3 v_codes_c3 v_wait_c3 =>
      if v_bad_c3 = 0 then
        bd2 (iM_look N v_at_c3 v_end v_tape) fun rc4 v_at_c4 =>
        if rc4 = 60 then
          iM_fact_b89 N v_end v_allWord v_debtWord v_maxWord v_minWord v_paidWord v_penceWord v_poundsWord v_shillingsWord v_shireWord v_tape v_termWord v_yearWord rc4 v_at_c4 v_bad_c3 v_badPlace_c3 v_base_c3 v_coded_c3 v_ended_c3 v_open_c3 v_waits_c3 v_codes_c3 v_wait_c3
        else
          if rc4 = 62 then
            iM_fact_b89 N v_end v_allWord v_debtWord v_maxWord v_minWord v_paidWord v_penceWord v_poundsWord v_shillingsWord v_shireWord v_tape v_termWord v_yearWord rc4 v_at_c4 v_bad_c3 v_badPlace_c3 v_base_c3 v_coded_c3 v_ended_c3 v_open_c3 v_waits_c3 v_codes_c3 v_wait_c3
          else
            if rc4 = 61 then
              iM_fact_b89 N v_end v_allWord v_debtWord v_maxWord v_minWord v_paidWord v_penceWord v_poundsWord v_shillingsWord v_shireWord v_tape v_termWord v_yearWord rc4 v_at_c4 v_bad_c3 v_badPlace_c3 v_base_c3 v_coded_c3 v_ended_c3 v_open_c3 v_waits_c3 v_codes_c3 v_wait_c3
            else
              bd2 (iM_fail 1 v_at_c4 v_bad_c3 v_badPlace_c3) fun v_bad_c5 v_badPlace_c5 =>
              some (v_at_c4, v_bad_c5, v_badPlace_c5, v_base_c3, v_coded_c3, v_ended_c3, v_open_c3, v_waits_c3, v_codes_c3, v_wait_c3)
      else
        some (v_at_c3, v_bad_c3, v_badPlace_c3, v_base_c3, v_coded_c3, v_ended_c3, v_open_c3, v_waits_c3, v_codes_c3, v_wait_c3)
    else
      bd5 (iM_number N 0 7 v_at_c2 v_bad v_badPlace v_end v_ended_c2 v_tape) fun rc6 v_at_c6 v_bad_c6 v_badPlace_c6 v_ended_c6 =>
      gd (jr (100 + rc6)) <|
      bd2 (iM_code (100 + rc6) v_coded v_codes) fun v_coded_c7 v_codes_c7 =>
      some (v_at_c6, v_bad_c6, v_badPlace_c6, v_base, v_coded_c7, v_ended_c6, v_open, v_waits, v_codes_c7, v_wait)
  else
    bd2 (iM_code 17 v_coded v_codes) fun v_coded_c8 v_codes_c8 =>
    some (v_at_c1, v_bad, v_badPlace, v_base, v_coded_c8, v_ended_c1, v_open, v_waits, v_codes_c8, v_wait)
