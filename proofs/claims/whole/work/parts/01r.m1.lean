set_option maxHeartbeats 4000000
set_option maxRecDepth 100000
abbrev R_pM_isIn : Type := Int32
def pM_isIn (a0 : Int64) (a2 : Int64) (a4 : Int64) : Option R_pM_isIn :=
  if (lg_cmp a0 a2) < 0 then
    some 0
  else
    if 0 < (lg_cmp a0 a4) then
      some 0
    else
      some 1
abbrev R_pM_value : Type := Int64
def pM_value_b5_F (N : Nat) (a1 : Int32) (v_ratio : (Nat → Int32)) (self : Int64 → Int32 → Option R_pM_value) (x2 : Int64) (x4 : Int32) : Option R_pM_value :=
  if a1 ≤ x4 then
    some x2
  else
    gd (ib x4 12) <|
    self (x2 * (i2l (v_ratio (ix x4)))) (x4 + 1)
def pM_value_b5 (N : Nat) (a1 : Int32) (v_ratio : (Nat → Int32)) : Nat → Int64 → Int32 → Option R_pM_value := zlp2 (pM_value_b5_F N a1 v_ratio)
def pM_value (N : Nat) (a1 : Int32) (v_ratio : (Nat → Int32)) : Option R_pM_value :=
  pM_value_b5 N a1 v_ratio N 1 0
abbrev R_pM_plains : Type := (Nat → Int32)
def pM_plains_b7_F (N : Nat) (a1 : Int32) (v_ratio : (Nat → Int32)) (self : Int64 → Int32 → (Nat → Int32) → Option R_pM_plains) (x2 : Int64) (x4 : Int32) (v_plain : (Nat → Int32)) : Option R_pM_plains :=
  if x4 < 0 then
    some v_plain
  else
    bd1 (pM_value N x4 v_ratio) fun rc1 =>
    gd (!(rc1 == 0)) <|
    gd (ib x4 13) <|
    bd1 (pM_value N x4 v_ratio) fun rc4 =>
    gd (!(rc4 == 0)) <|
    self (x2 - x2 / rc4 * rc4) (x4 + (-1)) (upd v_plain (ix x4) (l2i (x2 / rc1)))
def pM_plains_b7 (N : Nat) (a1 : Int32) (v_ratio : (Nat → Int32)) : Nat → Int64 → Int32 → (Nat → Int32) → Option R_pM_plains := zlp3 (pM_plains_b7_F N a1 v_ratio)
def pM_plains (N : Nat) (a1 : Int32) (v_plain : (Nat → Int32)) (v_ratio : (Nat → Int32)) : Option R_pM_plains :=
  pM_plains_b7 N a1 v_ratio N (i2l a1) 12 v_plain
abbrev R_pM_put : Type := Int32 × (Nat → Int32)
def pM_put (a1 : Int32) (a2 : Int32) (v_lie : (Nat → Int32)) : Option R_pM_put :=
  bd1 (pM_isIn (i2l a1) 0 12) fun rc1 =>
  if rc1 = 0 then
    some (0, v_lie)
  else
    bd1 (pM_isIn (i2l a2) 0 99) fun rc2 =>
    if rc2 = 0 then
      some (0, v_lie)
    else
      gd (ib a1 13) <|
      some (1, (upd v_lie (ix a1) a2))
abbrev R_pM_lies : Type := Int32
def pM_lies (a1 : Int32) (v_lie : (Nat → Int32)) : Option R_pM_lies :=
  bd1 (pM_isIn (i2l a1) 0 12) fun rc1 =>
  if rc1 = 0 then
    some (-1)
  else
    gd (ib a1 13) <|
    some (v_lie (ix a1))
abbrev R_pM_worth : Type := Int64
def pM_worth_b4_F (N : Nat) (v_lie : (Nat → Int32)) (v_ratio : (Nat → Int32)) (self : Int64 → Int32 → Option R_pM_worth) (x1 : Int64) (x3 : Int32) : Option R_pM_worth :=
  if 13 ≤ x3 then
    some x1
  else
    gd (ib x3 13) <|
    bd1 (pM_value N x3 v_ratio) fun rc2 =>
    self (x1 + ((i2l (v_lie (ix x3))) * rc2)) (x3 + 1)
def pM_worth_b4 (N : Nat) (v_lie : (Nat → Int32)) (v_ratio : (Nat → Int32)) : Nat → Int64 → Int32 → Option R_pM_worth := zlp2 (pM_worth_b4_F N v_lie v_ratio)
def pM_worth (N : Nat) (v_lie : (Nat → Int32)) (v_ratio : (Nat → Int32)) : Option R_pM_worth :=
  pM_worth_b4 N v_lie v_ratio N 0 0
abbrev R_pM_plain : Type := Int32 × (Nat → Int32)
def pM_plain (N : Nat) (a1 : Int32) (a2 : Int32) (v_plain : (Nat → Int32)) (v_ratio : (Nat → Int32)) : Option R_pM_plain :=
  bd1 (pM_isIn (i2l a1) 0 1000000000) fun rc1 =>
  if rc1 = 0 then
    some ((-1), v_plain)
  else
    bd1 (pM_isIn (i2l a2) 0 12) fun rc2 =>
    if rc2 = 0 then
      some ((-1), v_plain)
    else
      bd1 (pM_plains N a1 v_plain v_ratio) fun v_plain_c3 =>
      gd (ib a2 13) <|
      some ((v_plain_c3 (ix a2)), v_plain_c3)
abbrev R_pM_works : Type := (Nat → Int32)
def pM_works_b2_F (N : Nat) (v_lie : (Nat → Int32)) (self : Int32 → (Nat → Int32) → Option R_pM_works) (x1 : Int32) (v_work : (Nat → Int32)) : Option R_pM_works :=
  if 13 ≤ x1 then
    some v_work
  else
    gd (ib x1 13) <|
    self (x1 + 1) (upd v_work (ix x1) (v_lie (ix x1)))
def pM_works_b2 (N : Nat) (v_lie : (Nat → Int32)) : Nat → Int32 → (Nat → Int32) → Option R_pM_works := zlp2 (pM_works_b2_F N v_lie)
def pM_works (N : Nat) (v_lie : (Nat → Int32)) (v_work : (Nat → Int32)) : Option R_pM_works :=
  pM_works_b2 N v_lie N 0 v_work
abbrev R_pM_stays : Type := (Nat → Int32)
def pM_stays_b2_F (N : Nat) (v_work : (Nat → Int32)) (self : Int32 → (Nat → Int32) → Option R_pM_stays) (x1 : Int32) (v_lie : (Nat → Int32)) : Option R_pM_stays :=
  if 13 ≤ x1 then
    some v_lie
  else
    gd (ib x1 13) <|
    self (x1 + 1) (upd v_lie (ix x1) (v_work (ix x1)))
def pM_stays_b2 (N : Nat) (v_work : (Nat → Int32)) : Nat → Int32 → (Nat → Int32) → Option R_pM_stays := zlp2 (pM_stays_b2_F N v_work)
def pM_stays (N : Nat) (v_lie : (Nat → Int32)) (v_work : (Nat → Int32)) : Option R_pM_stays :=
  pM_stays_b2 N v_work N 0 v_lie
abbrev R_pM_lay : Type := Int32 × (Nat → Int32) × (Nat → Int32) × (Nat → Int32)
def pM_lay_b25_F (N : Nat) (a1 : Int32) (v_ratio : (Nat → Int32)) (v_lie : (Nat → Int32)) (v_plain : (Nat → Int32)) (k65 : (Nat → Int32) → Option R_pM_lay) (self : Int32 → (Nat → Int32) → Option R_pM_lay) (x2 : Int32) (v_work : (Nat → Int32)) : Option R_pM_lay :=
  if 13 ≤ x2 then
    k65 v_work
  else
    gd (ib x2 13) <|
    if ((upd v_work (ix x2) ((v_work (ix x2)) + (v_plain (ix x2)))) (ix x2)) ≤ 99 then
      self (x2 + 1) (upd v_work (ix x2) ((v_work (ix x2)) + (v_plain (ix x2))))
    else
      some ((-1), v_lie, v_plain, (upd v_work (ix x2) ((v_work (ix x2)) + (v_plain (ix x2)))))
def pM_lay_b25 (N : Nat) (a1 : Int32) (v_ratio : (Nat → Int32)) (v_lie : (Nat → Int32)) (v_plain : (Nat → Int32)) (k65 : (Nat → Int32) → Option R_pM_lay) : Nat → Int32 → (Nat → Int32) → Option R_pM_lay := zlp2 (pM_lay_b25_F N a1 v_ratio v_lie v_plain k65)
def pM_lay_b75_F (N : Nat) (a1 : Int32) (v_ratio : (Nat → Int32)) (x3 : Int32) (v_lie : (Nat → Int32)) (v_plain : (Nat → Int32)) (k138 : Int32 → (Nat → Int32) → Option R_pM_lay) (self : Int32 → (Nat → Int32) → Option R_pM_lay) (x2 : Int32) (v_work : (Nat → Int32)) : Option R_pM_lay :=
  gd (ib x3 13) <|
  gd (ib x3 12) <|
  if (v_work (ix x3)) < (v_ratio (ix x3)) then
    k138 x2 v_work
  else
    gd (ib (x3 + 1) 13) <|
    if ((upd (upd v_work (ix x3) ((v_work (ix x3)) - (v_ratio (ix x3)))) (ix (x3 + 1)) (((upd v_work (ix x3) ((v_work (ix x3)) - (v_ratio (ix x3)))) (ix (x3 + 1))) + 1)) (ix (x3 + 1))) ≤ 99 then
      self (x2 + 1) (upd (upd v_work (ix x3) ((v_work (ix x3)) - (v_ratio (ix x3)))) (ix (x3 + 1)) (((upd v_work (ix x3) ((v_work (ix x3)) - (v_ratio (ix x3)))) (ix (x3 + 1))) + 1))
    else
      some ((-1), v_lie, v_plain, (upd (upd v_work (ix x3) ((v_work (ix x3)) - (v_ratio (ix x3)))) (ix (x3 + 1)) (((upd v_work (ix x3) ((v_work (ix x3)) - (v_ratio (ix x3)))) (ix (x3 + 1))) + 1)))
def pM_lay_b75 (N : Nat) (a1 : Int32) (v_ratio : (Nat → Int32)) (x3 : Int32) (v_lie : (Nat → Int32)) (v_plain : (Nat → Int32)) (k138 : Int32 → (Nat → Int32) → Option R_pM_lay) : Nat → Int32 → (Nat → Int32) → Option R_pM_lay := zlp2 (pM_lay_b75_F N a1 v_ratio x3 v_lie v_plain k138)
def pM_lay_b138 (N : Nat) (a1 : Int32) (v_ratio : (Nat → Int32)) (self : Int32 → Int32 → (Nat → Int32) → Option R_pM_lay) (k144 : Int32 → (Nat → Int32) → Option R_pM_lay) (x2 : Int32) (x3 : Int32) (v_lie : (Nat → Int32)) (v_plain : (Nat → Int32)) (v_work : (Nat → Int32)) : Option R_pM_lay :=
  self x2 (x3 + 1) v_work
def pM_lay_b69_F (N : Nat) (a1 : Int32) (v_ratio : (Nat → Int32)) (v_lie : (Nat → Int32)) (v_plain : (Nat → Int32)) (k144 : Int32 → (Nat → Int32) → Option R_pM_lay) (self : Int32 → Int32 → (Nat → Int32) → Option R_pM_lay) (x2 : Int32) (x3 : Int32) (v_work : (Nat → Int32)) : Option R_pM_lay :=
  if 12 ≤ x3 then
    k144 x2 v_work
  else
    pM_lay_b75 N a1 v_ratio x3 v_lie v_plain (fun x2_k2 => pM_lay_b138 N a1 v_ratio self k144 x2_k2 x3 v_lie v_plain) N x2 v_work
def pM_lay_b69 (N : Nat) (a1 : Int32) (v_ratio : (Nat → Int32)) (v_lie : (Nat → Int32)) (v_plain : (Nat → Int32)) (k144 : Int32 → (Nat → Int32) → Option R_pM_lay) : Nat → Int32 → Int32 → (Nat → Int32) → Option R_pM_lay := zlp3 (pM_lay_b69_F N a1 v_ratio v_lie v_plain k144)
def pM_lay_b144 (N : Nat) (a1 : Int32) (v_ratio : (Nat → Int32)) (x2 : Int32) (v_lie : (Nat → Int32)) (v_plain : (Nat → Int32)) (v_work : (Nat → Int32)) : Option R_pM_lay :=
  bd1 (pM_stays N v_lie v_work) fun v_lie_c5 =>
  some (x2, v_lie_c5, v_plain, v_work)
def pM_lay_b65 (N : Nat) (a1 : Int32) (v_ratio : (Nat → Int32)) (v_lie : (Nat → Int32)) (v_plain : (Nat → Int32)) (v_work : (Nat → Int32)) : Option R_pM_lay :=
  pM_lay_b69 N a1 v_ratio v_lie v_plain (fun x2_k4 => pM_lay_b144 N a1 v_ratio x2_k4 v_lie v_plain) N 0 0 v_work
def pM_lay (N : Nat) (a1 : Int32) (v_lie : (Nat → Int32)) (v_plain : (Nat → Int32)) (v_ratio : (Nat → Int32)) (v_work : (Nat → Int32)) : Option R_pM_lay :=
  bd1 (pM_isIn (i2l a1) 0 1000000000) fun rc1 =>
  if rc1 = 0 then
    some ((-1), v_lie, v_plain, v_work)
  else
    bd1 (pM_plains N a1 v_plain v_ratio) fun v_plain_c2 =>
    bd1 (pM_works N v_lie v_work) fun v_work_c3 =>
    pM_lay_b25 N a1 v_ratio v_lie v_plain_c2 (pM_lay_b65 N a1 v_ratio v_lie v_plain_c2) N 0 v_work_c3
abbrev R_pM_above : Type := Int32
def pM_above_b4_F (N : Nat) (a1 : Int32) (v_work : (Nat → Int32)) (k25 : Int32 → Option R_pM_above) (self : Int32 → Option R_pM_above) (x2 : Int32) : Option R_pM_above :=
  if 13 ≤ x2 then
    k25 x2
  else
    gd (ib x2 13) <|
    if (v_work (ix x2)) = 0 then
      self (x2 + 1)
    else
      k25 x2
def pM_above_b4 (N : Nat) (a1 : Int32) (v_work : (Nat → Int32)) (k25 : Int32 → Option R_pM_above) : Nat → Int32 → Option R_pM_above := zlp1 (pM_above_b4_F N a1 v_work k25)
def pM_above_b25 (N : Nat) (a1 : Int32) (v_work : (Nat → Int32)) (x2 : Int32) : Option R_pM_above :=
  if 13 ≤ x2 then
    some (-1)
  else
    some x2
def pM_above (N : Nat) (a1 : Int32) (v_work : (Nat → Int32)) : Option R_pM_above :=
  pM_above_b4 N a1 v_work (pM_above_b25 N a1 v_work) N (a1 + 1)
abbrev R_pM_draw : Type := Int32 × (Nat → Int32) × (Nat → Int32) × (Nat → Int32)
def pM_draw_b77_F (N : Nat) (a1 : Int32) (v_ratio : (Nat → Int32)) (x3 : Int32) (v_lie : (Nat → Int32)) (v_plain : (Nat → Int32)) (k124 : Int32 → (Nat → Int32) → Option R_pM_draw) (self : Int32 → Int32 → (Nat → Int32) → Option R_pM_draw) (x2 : Int32) (x5 : Int32) (v_work : (Nat → Int32)) : Option R_pM_draw :=
  if x5 ≤ x3 then
    k124 x2 v_work
  else
    gd (ib x5 13) <|
    gd (ib (x5 - 1) 13) <|
    gd (ib (x5 - 1) 12) <|
    self (x2 + 1) (x5 + (-1)) (upd (upd v_work (ix x5) ((v_work (ix x5)) - 1)) (ix (x5 - 1)) (((upd v_work (ix x5) ((v_work (ix x5)) - 1)) (ix (x5 - 1))) + (v_ratio (ix (x5 - 1)))))
def pM_draw_b77 (N : Nat) (a1 : Int32) (v_ratio : (Nat → Int32)) (x3 : Int32) (v_lie : (Nat → Int32)) (v_plain : (Nat → Int32)) (k124 : Int32 → (Nat → Int32) → Option R_pM_draw) : Nat → Int32 → Int32 → (Nat → Int32) → Option R_pM_draw := zlp3 (pM_draw_b77_F N a1 v_ratio x3 v_lie v_plain k124)
def pM_draw_b124 (N : Nat) (a1 : Int32) (v_ratio : (Nat → Int32)) (self : Int32 → (Nat → Int32) → Option R_pM_draw) (k127 : Int32 → (Nat → Int32) → Option R_pM_draw) (x2 : Int32) (x3 : Int32) (v_lie : (Nat → Int32)) (v_plain : (Nat → Int32)) (v_work : (Nat → Int32)) : Option R_pM_draw :=
  self x2 v_work
def pM_draw_b43_F (N : Nat) (a1 : Int32) (v_ratio : (Nat → Int32)) (x3 : Int32) (v_lie : (Nat → Int32)) (v_plain : (Nat → Int32)) (k127 : Int32 → (Nat → Int32) → Option R_pM_draw) (self : Int32 → (Nat → Int32) → Option R_pM_draw) (x2 : Int32) (v_work : (Nat → Int32)) : Option R_pM_draw :=
  gd (ib x3 13) <|
  if (v_plain (ix x3)) ≤ (v_work (ix x3)) then
    k127 x2 v_work
  else
    bd1 (pM_above N x3 v_work) fun rc7 =>
    if rc7 = (-1) then
      some ((-1), v_lie, v_plain, v_work)
    else
      pM_draw_b77 N a1 v_ratio x3 v_lie v_plain (fun x2_k1 => pM_draw_b124 N a1 v_ratio self k127 x2_k1 x3 v_lie v_plain) N x2 rc7 v_work
def pM_draw_b43 (N : Nat) (a1 : Int32) (v_ratio : (Nat → Int32)) (x3 : Int32) (v_lie : (Nat → Int32)) (v_plain : (Nat → Int32)) (k127 : Int32 → (Nat → Int32) → Option R_pM_draw) : Nat → Int32 → (Nat → Int32) → Option R_pM_draw := zlp2 (pM_draw_b43_F N a1 v_ratio x3 v_lie v_plain k127)
def pM_draw_b127 (N : Nat) (a1 : Int32) (v_ratio : (Nat → Int32)) (self : Int32 → Int32 → (Nat → Int32) → Option R_pM_draw) (k148 : Int32 → (Nat → Int32) → Option R_pM_draw) (x2 : Int32) (x3 : Int32) (v_lie : (Nat → Int32)) (v_plain : (Nat → Int32)) (v_work : (Nat → Int32)) : Option R_pM_draw :=
  gd (ib x3 13) <|
  self x2 (x3 + 1) (upd v_work (ix x3) ((v_work (ix x3)) - (v_plain (ix x3))))
def pM_draw_b37_F (N : Nat) (a1 : Int32) (v_ratio : (Nat → Int32)) (v_lie : (Nat → Int32)) (v_plain : (Nat → Int32)) (k148 : Int32 → (Nat → Int32) → Option R_pM_draw) (self : Int32 → Int32 → (Nat → Int32) → Option R_pM_draw) (x2 : Int32) (x3 : Int32) (v_work : (Nat → Int32)) : Option R_pM_draw :=
  if 13 ≤ x3 then
    k148 x2 v_work
  else
    pM_draw_b43 N a1 v_ratio x3 v_lie v_plain (fun x2_k3 => pM_draw_b127 N a1 v_ratio self k148 x2_k3 x3 v_lie v_plain) N x2 v_work
def pM_draw_b37 (N : Nat) (a1 : Int32) (v_ratio : (Nat → Int32)) (v_lie : (Nat → Int32)) (v_plain : (Nat → Int32)) (k148 : Int32 → (Nat → Int32) → Option R_pM_draw) : Nat → Int32 → Int32 → (Nat → Int32) → Option R_pM_draw := zlp3 (pM_draw_b37_F N a1 v_ratio v_lie v_plain k148)
def pM_draw_b148 (N : Nat) (a1 : Int32) (v_ratio : (Nat → Int32)) (x2 : Int32) (v_lie : (Nat → Int32)) (v_plain : (Nat → Int32)) (v_work : (Nat → Int32)) : Option R_pM_draw :=
  bd1 (pM_stays N v_lie v_work) fun v_lie_c5 =>
  some (x2, v_lie_c5, v_plain, v_work)
def pM_draw (N : Nat) (a1 : Int32) (v_lie : (Nat → Int32)) (v_plain : (Nat → Int32)) (v_ratio : (Nat → Int32)) (v_work : (Nat → Int32)) : Option R_pM_draw :=
  bd1 (pM_isIn (i2l a1) 0 1000000000) fun rc1 =>
  if rc1 = 0 then
    some ((-1), v_lie, v_plain, v_work)
  else
    bd1 (pM_worth N v_lie v_ratio) fun rc2 =>
    if (lg_cmp (i2l a1) rc2) ≤ 0 then
      bd1 (pM_plains N a1 v_plain v_ratio) fun v_plain_c3 =>
      bd1 (pM_works N v_lie v_work) fun v_work_c4 =>
      pM_draw_b37 N a1 v_ratio v_lie v_plain_c3 (fun x2_k5 => pM_draw_b148 N a1 v_ratio x2_k5 v_lie v_plain_c3) N 0 0 v_work_c4
    else
      some ((-1), v_lie, v_plain, v_work)
abbrev R_pM_size : Type := Int32
def pM_size (a0 : Int32) : Option R_pM_size :=
  if 0 ≤ a0 then
    some a0
  else
    some (-a0)
abbrev R_pM_steps : Type := Int32 × (Nat → Int32) × (Nat → Int32) × (Nat → Int32)
def pM_steps_b46 (N : Nat) (a1 : Int32) (v_lie : (Nat → Int32)) (v_ratio : (Nat → Int32)) (self : Int32 → (Nat → Int32) → Option R_pM_steps) (k53 : (Nat → Int32) → Option R_pM_steps) (x2 : Int32) (s1 : Int32) (s2 : Int32) (v_fewest : (Nat → Int32)) (v_next : (Nat → Int32)) (v_plain : (Nat → Int32)) : Option R_pM_steps :=
  gd (ib s1 601) <|
  self (x2 + 1) (upd v_fewest (ix s1) s2)
def pM_steps_b21_F (N : Nat) (a1 : Int32) (v_lie : (Nat → Int32)) (v_ratio : (Nat → Int32)) (v_next : (Nat → Int32)) (v_plain : (Nat → Int32)) (k53 : (Nat → Int32) → Option R_pM_steps) (self : Int32 → (Nat → Int32) → Option R_pM_steps) (x2 : Int32) (v_fewest : (Nat → Int32)) : Option R_pM_steps :=
  if 600 < x2 then
    k53 v_fewest
  else
    if x2 = 300 then
      pM_steps_b46 N a1 v_lie v_ratio self k53 x2 x2 0 v_fewest v_next v_plain
    else
      pM_steps_b46 N a1 v_lie v_ratio self k53 x2 x2 100000000 v_fewest v_next v_plain
def pM_steps_b21 (N : Nat) (a1 : Int32) (v_lie : (Nat → Int32)) (v_ratio : (Nat → Int32)) (v_next : (Nat → Int32)) (v_plain : (Nat → Int32)) (k53 : (Nat → Int32) → Option R_pM_steps) : Nat → Int32 → (Nat → Int32) → Option R_pM_steps := zlp2 (pM_steps_b21_F N a1 v_lie v_ratio v_next v_plain k53)
def pM_steps_b63_F (N : Nat) (a1 : Int32) (v_lie : (Nat → Int32)) (v_ratio : (Nat → Int32)) (x2 : Int32) (v_fewest : (Nat → Int32)) (v_plain : (Nat → Int32)) (k84 : (Nat → Int32) → Option R_pM_steps) (self : Int32 → (Nat → Int32) → Option R_pM_steps) (x3 : Int32) (v_next : (Nat → Int32)) : Option R_pM_steps :=
  if 600 < x3 then
    k84 v_next
  else
    gd (ib x3 601) <|
    self (x3 + 1) (upd v_next (ix x3) 100000000)
def pM_steps_b63 (N : Nat) (a1 : Int32) (v_lie : (Nat → Int32)) (v_ratio : (Nat → Int32)) (x2 : Int32) (v_fewest : (Nat → Int32)) (v_plain : (Nat → Int32)) (k84 : (Nat → Int32) → Option R_pM_steps) : Nat → Int32 → (Nat → Int32) → Option R_pM_steps := zlp2 (pM_steps_b63_F N a1 v_lie v_ratio x2 v_fewest v_plain k84)
def pM_steps_b206 (N : Nat) (a1 : Int32) (v_lie : (Nat → Int32)) (v_ratio : (Nat → Int32)) (self : Int32 → (Nat → Int32) → Option R_pM_steps) (k212 : (Nat → Int32) → Option R_pM_steps) (x2 : Int32) (x3 : Int32) (v_fewest : (Nat → Int32)) (v_next : (Nat → Int32)) (v_plain : (Nat → Int32)) : Option R_pM_steps :=
  self (x3 + 1) v_next
def pM_steps_b133_F (N : Nat) (a1 : Int32) (v_lie : (Nat → Int32)) (v_ratio : (Nat → Int32)) (x2 : Int32) (x3 : Int32) (x4 : Int32) (v_fewest : (Nat → Int32)) (v_plain : (Nat → Int32)) (k206 : (Nat → Int32) → Option R_pM_steps) (self : Int32 → (Nat → Int32) → Option R_pM_steps) (x5 : Int32) (v_next : (Nat → Int32)) : Option R_pM_steps :=
  if 300 < x5 then
    k206 v_next
  else
    gd (ib x3 601) <|
    bd1 (pM_size x5) fun rc10 =>
    gd (ib x2 12) <|
    bd1 (pM_size (x4 - ((v_ratio (ix x2)) * x5))) fun rc12 =>
    gd (ib (x5 + 300) 601) <|
    if (v_next (ix (x5 + 300))) ≤ (((v_fewest (ix x3)) + rc10) + rc12) then
      self (x5 + 1) v_next
    else
      self (x5 + 1) (upd v_next (ix (x5 + 300)) (((v_fewest (ix x3)) + rc10) + rc12))
def pM_steps_b133 (N : Nat) (a1 : Int32) (v_lie : (Nat → Int32)) (v_ratio : (Nat → Int32)) (x2 : Int32) (x3 : Int32) (x4 : Int32) (v_fewest : (Nat → Int32)) (v_plain : (Nat → Int32)) (k206 : (Nat → Int32) → Option R_pM_steps) : Nat → Int32 → (Nat → Int32) → Option R_pM_steps := zlp2 (pM_steps_b133_F N a1 v_lie v_ratio x2 x3 x4 v_fewest v_plain k206)
def pM_steps_b86_F (N : Nat) (a1 : Int32) (v_lie : (Nat → Int32)) (v_ratio : (Nat → Int32)) (x2 : Int32) (v_fewest : (Nat → Int32)) (v_plain : (Nat → Int32)) (k212 : (Nat → Int32) → Option R_pM_steps) (self : Int32 → (Nat → Int32) → Option R_pM_steps) (x3 : Int32) (v_next : (Nat → Int32)) : Option R_pM_steps :=
  if 600 < x3 then
    k212 v_next
  else
    gd (ib x3 601) <|
    if (v_fewest (ix x3)) = 100000000 then
      pM_steps_b206 N a1 v_lie v_ratio self k212 x2 x3 v_fewest v_next v_plain
    else
      gd (ib x2 13) <|
      pM_steps_b133 N a1 v_lie v_ratio x2 x3 ((((v_lie (ix x2)) + x3) - 300) - (v_plain (ix x2))) v_fewest v_plain (fun v_next_k3 => pM_steps_b206 N a1 v_lie v_ratio self k212 x2 x3 v_fewest v_next_k3 v_plain) N (-300) v_next
def pM_steps_b86 (N : Nat) (a1 : Int32) (v_lie : (Nat → Int32)) (v_ratio : (Nat → Int32)) (x2 : Int32) (v_fewest : (Nat → Int32)) (v_plain : (Nat → Int32)) (k212 : (Nat → Int32) → Option R_pM_steps) : Nat → Int32 → (Nat → Int32) → Option R_pM_steps := zlp2 (pM_steps_b86_F N a1 v_lie v_ratio x2 v_fewest v_plain k212)
def pM_steps_b214_F (N : Nat) (a1 : Int32) (v_lie : (Nat → Int32)) (v_ratio : (Nat → Int32)) (x2 : Int32) (v_next : (Nat → Int32)) (v_plain : (Nat → Int32)) (k239 : (Nat → Int32) → Option R_pM_steps) (self : Int32 → (Nat → Int32) → Option R_pM_steps) (x3 : Int32) (v_fewest : (Nat → Int32)) : Option R_pM_steps :=
  if 600 < x3 then
    k239 v_fewest
  else
    gd (ib x3 601) <|
    self (x3 + 1) (upd v_fewest (ix x3) (v_next (ix x3)))
def pM_steps_b214 (N : Nat) (a1 : Int32) (v_lie : (Nat → Int32)) (v_ratio : (Nat → Int32)) (x2 : Int32) (v_next : (Nat → Int32)) (v_plain : (Nat → Int32)) (k239 : (Nat → Int32) → Option R_pM_steps) : Nat → Int32 → (Nat → Int32) → Option R_pM_steps := zlp2 (pM_steps_b214_F N a1 v_lie v_ratio x2 v_next v_plain k239)
def pM_steps_b239 (N : Nat) (a1 : Int32) (v_lie : (Nat → Int32)) (v_ratio : (Nat → Int32)) (self : Int32 → (Nat → Int32) → (Nat → Int32) → Option R_pM_steps) (k245 : (Nat → Int32) → (Nat → Int32) → Option R_pM_steps) (x2 : Int32) (v_fewest : (Nat → Int32)) (v_next : (Nat → Int32)) (v_plain : (Nat → Int32)) : Option R_pM_steps :=
  self (x2 + 1) v_fewest v_next
def pM_steps_b212 (N : Nat) (a1 : Int32) (v_lie : (Nat → Int32)) (v_ratio : (Nat → Int32)) (self : Int32 → (Nat → Int32) → (Nat → Int32) → Option R_pM_steps) (k245 : (Nat → Int32) → (Nat → Int32) → Option R_pM_steps) (x2 : Int32) (v_fewest : (Nat → Int32)) (v_next : (Nat → Int32)) (v_plain : (Nat → Int32)) : Option R_pM_steps :=
  pM_steps_b214 N a1 v_lie v_ratio x2 v_next v_plain (fun v_fewest_k5 => pM_steps_b239 N a1 v_lie v_ratio self k245 x2 v_fewest_k5 v_next v_plain) N 0 v_fewest
def pM_steps_b84 (N : Nat) (a1 : Int32) (v_lie : (Nat → Int32)) (v_ratio : (Nat → Int32)) (self : Int32 → (Nat → Int32) → (Nat → Int32) → Option R_pM_steps) (k245 : (Nat → Int32) → (Nat → Int32) → Option R_pM_steps) (x2 : Int32) (v_fewest : (Nat → Int32)) (v_next : (Nat → Int32)) (v_plain : (Nat → Int32)) : Option R_pM_steps :=
  pM_steps_b86 N a1 v_lie v_ratio x2 v_fewest v_plain (fun v_next_k4 => pM_steps_b212 N a1 v_lie v_ratio self k245 x2 v_fewest v_next_k4 v_plain) N 0 v_next
def pM_steps_b55_F (N : Nat) (a1 : Int32) (v_lie : (Nat → Int32)) (v_ratio : (Nat → Int32)) (v_plain : (Nat → Int32)) (k245 : (Nat → Int32) → (Nat → Int32) → Option R_pM_steps) (self : Int32 → (Nat → Int32) → (Nat → Int32) → Option R_pM_steps) (x2 : Int32) (v_fewest : (Nat → Int32)) (v_next : (Nat → Int32)) : Option R_pM_steps :=
  if 12 ≤ x2 then
    k245 v_fewest v_next
  else
    pM_steps_b63 N a1 v_lie v_ratio x2 v_fewest v_plain (fun v_next_k2 => pM_steps_b84 N a1 v_lie v_ratio self k245 x2 v_fewest v_next_k2 v_plain) N 0 v_next
def pM_steps_b55 (N : Nat) (a1 : Int32) (v_lie : (Nat → Int32)) (v_ratio : (Nat → Int32)) (v_plain : (Nat → Int32)) (k245 : (Nat → Int32) → (Nat → Int32) → Option R_pM_steps) : Nat → Int32 → (Nat → Int32) → (Nat → Int32) → Option R_pM_steps := zlp3 (pM_steps_b55_F N a1 v_lie v_ratio v_plain k245)
def pM_steps_b250_F (N : Nat) (a1 : Int32) (v_lie : (Nat → Int32)) (v_ratio : (Nat → Int32)) (v_fewest : (Nat → Int32)) (v_next : (Nat → Int32)) (v_plain : (Nat → Int32)) (self : Int32 → Int32 → Option R_pM_steps) (x2 : Int32) (x3 : Int32) : Option R_pM_steps :=
  if 600 < x3 then
    some (x2, v_fewest, v_next, v_plain)
  else
    gd (ib x3 601) <|
    bd1 (pM_size ((((v_lie (ix 12)) + x3) - 300) - (v_plain (ix 12)))) fun rc6 =>
    if x2 ≤ ((v_fewest (ix x3)) + rc6) then
      self x2 (x3 + 1)
    else
      self ((v_fewest (ix x3)) + rc6) (x3 + 1)
def pM_steps_b250 (N : Nat) (a1 : Int32) (v_lie : (Nat → Int32)) (v_ratio : (Nat → Int32)) (v_fewest : (Nat → Int32)) (v_next : (Nat → Int32)) (v_plain : (Nat → Int32)) : Nat → Int32 → Int32 → Option R_pM_steps := zlp2 (pM_steps_b250_F N a1 v_lie v_ratio v_fewest v_next v_plain)
def pM_steps_b245 (N : Nat) (a1 : Int32) (v_lie : (Nat → Int32)) (v_ratio : (Nat → Int32)) (v_fewest : (Nat → Int32)) (v_next : (Nat → Int32)) (v_plain : (Nat → Int32)) : Option R_pM_steps :=
  pM_steps_b250 N a1 v_lie v_ratio v_fewest v_next v_plain N 100000000 0
def pM_steps_b53 (N : Nat) (a1 : Int32) (v_lie : (Nat → Int32)) (v_ratio : (Nat → Int32)) (v_fewest : (Nat → Int32)) (v_next : (Nat → Int32)) (v_plain : (Nat → Int32)) : Option R_pM_steps :=
  pM_steps_b55 N a1 v_lie v_ratio v_plain (fun v_fewest_k6 v_next_k7 => pM_steps_b245 N a1 v_lie v_ratio v_fewest_k6 v_next_k7 v_plain) N 0 v_fewest v_next
def pM_steps (N : Nat) (a1 : Int32) (v_fewest : (Nat → Int32)) (v_lie : (Nat → Int32)) (v_next : (Nat → Int32)) (v_plain : (Nat → Int32)) (v_ratio : (Nat → Int32)) : Option R_pM_steps :=
  bd1 (pM_isIn (i2l a1) 0 1000000000) fun rc1 =>
  if rc1 = 0 then
    some ((-1), v_fewest, v_next, v_plain)
  else
    bd1 (pM_plains N a1 v_plain v_ratio) fun v_plain_c2 =>
    pM_steps_b21 N a1 v_lie v_ratio v_next v_plain_c2 (fun v_fewest_k1 => pM_steps_b53 N a1 v_lie v_ratio v_fewest_k1 v_next v_plain_c2) N 0 v_fewest
abbrev R_pM_half : Type := Int32
def pM_half (a0 : Int32) (a1 : Int32) : Option R_pM_half :=
  bd1 (pM_isIn (i2l a1) 0 9) fun rc1 =>
  if rc1 = 0 then
    some (-1)
  else
    if a0 = 0 then
      some a1
    else
      some (10 + a1)
abbrev R_pM_cut : Type := Int32 × (Nat → Int32) × (Nat → Int32) × (Nat → Int32)
def pM_cut_b88 (a1 : Int32) (a2 : Int32) (a3 : Int32) (a4 : Int32) (x5 : Int32) (v_cutAt : (Nat → Int32)) (v_cutWorth : (Nat → Int32)) (v_cuts : (Nat → Int32)) : Option R_pM_cut :=
  gd (ib x5 20) <|
  gd (ib ((12 * x5) + (v_cuts (ix x5))) 240) <|
  some (((upd v_cuts (ix x5) ((v_cuts (ix x5)) + 1)) (ix x5)), (upd v_cutAt (ix ((12 * x5) + (v_cuts (ix x5)))) a3), (upd v_cutWorth (ix ((12 * x5) + (v_cuts (ix x5)))) a4), (upd v_cuts (ix x5) ((v_cuts (ix x5)) + 1)))
def pM_cut (a1 : Int32) (a2 : Int32) (a3 : Int32) (a4 : Int32) (v_cutAt : (Nat → Int32)) (v_cutWorth : (Nat → Int32)) (v_cuts : (Nat → Int32)) : Option R_pM_cut :=
  bd1 (pM_half a1 a2) fun rc1 =>
  if rc1 = (-1) then
    some ((-1), v_cutAt, v_cutWorth, v_cuts)
  else
    bd1 (pM_isIn (i2l a3) 0 240) fun rc2 =>
    if rc2 = 0 then
      some ((-1), v_cutAt, v_cutWorth, v_cuts)
    else
      bd1 (pM_isIn (i2l a4) 0 5) fun rc3 =>
      if rc3 = 0 then
        some ((-1), v_cutAt, v_cutWorth, v_cuts)
      else
        gd (ib rc1 20) <|
        if (v_cuts (ix rc1)) = 12 then
          some ((-1), v_cutAt, v_cutWorth, v_cuts)
        else
          if (v_cuts (ix rc1)) ≤ 0 then
            pM_cut_b88 a1 a2 a3 a4 rc1 v_cutAt v_cutWorth v_cuts
          else
            gd (ib (((12 * rc1) + (v_cuts (ix rc1))) - 1) 240) <|
            if (v_cutAt (ix (((12 * rc1) + (v_cuts (ix rc1))) - 1))) < a3 then
              pM_cut_b88 a1 a2 a3 a4 rc1 v_cutAt v_cutWorth v_cuts
            else
              some ((-1), v_cutAt, v_cutWorth, v_cuts)
abbrev R_pM_isThere : Type := Int32
def pM_isThere (a1 : Int32) (v_cuts : (Nat → Int32)) : Option R_pM_isThere :=
  if a1 = (-1) then
    some 0
  else
    gd (ib a1 20) <|
    if (v_cuts (ix a1)) ≤ 0 then
      some 0
    else
      some 1
abbrev R_pM_burn : Type := Int32 × (Nat → Int32)
def pM_burn (a1 : Int32) (a2 : Int32) (v_cuts : (Nat → Int32)) : Option R_pM_burn :=
  bd1 (pM_half a1 a2) fun rc1 =>
  bd1 (pM_isThere rc1 v_cuts) fun rc2 =>
  if rc2 = 0 then
    some (0, v_cuts)
  else
    gd (ib rc1 20) <|
    some (1, (upd v_cuts (ix rc1) 0))
abbrev R_pM_sumOf : Type := Int32
def pM_sumOf_b4_F (N : Nat) (a1 : Int32) (v_cutWorth : (Nat → Int32)) (v_cuts : (Nat → Int32)) (v_pence : (Nat → Int32)) (self : Int32 → Int32 → Option R_pM_sumOf) (x2 : Int32) (x3 : Int32) : Option R_pM_sumOf :=
  gd (ib a1 20) <|
  if (v_cuts (ix a1)) ≤ x3 then
    some x2
  else
    gd (ib ((12 * a1) + x3) 240) <|
    gd (ib (v_cutWorth (ix ((12 * a1) + x3))) 6) <|
    self (x2 + (v_pence (ix (v_cutWorth (ix ((12 * a1) + x3)))))) (x3 + 1)
def pM_sumOf_b4 (N : Nat) (a1 : Int32) (v_cutWorth : (Nat → Int32)) (v_cuts : (Nat → Int32)) (v_pence : (Nat → Int32)) : Nat → Int32 → Int32 → Option R_pM_sumOf := zlp2 (pM_sumOf_b4_F N a1 v_cutWorth v_cuts v_pence)
def pM_sumOf (N : Nat) (a1 : Int32) (v_cutWorth : (Nat → Int32)) (v_cuts : (Nat → Int32)) (v_pence : (Nat → Int32)) : Option R_pM_sumOf :=
  pM_sumOf_b4 N a1 v_cutWorth v_cuts v_pence N 0 0
abbrev R_pM_sum : Type := Int32
def pM_sum (N : Nat) (a1 : Int32) (a2 : Int32) (v_cutWorth : (Nat → Int32)) (v_cuts : (Nat → Int32)) (v_pence : (Nat → Int32)) : Option R_pM_sum :=
  bd1 (pM_half a1 a2) fun rc1 =>
  bd1 (pM_isThere rc1 v_cuts) fun rc2 =>
  if rc2 = 0 then
    some (-1)
  else
    bd1 (pM_sumOf N rc1 v_cutWorth v_cuts v_pence) fun rc3 =>
    some rc3
abbrev R_pM_wear : Type := Int32 × Int32 × Int32 × Int32
def pM_wear (a1 : Int32) (a2 : Int32) (a3 : Int32) (v_grain : Int32) (v_limit : Int32) (v_lost : Int32) : Option R_pM_wear :=
  bd1 (pM_isIn (i2l a1) 0 20) fun rc1 =>
  if rc1 = 0 then
    some (0, v_grain, v_limit, v_lost)
  else
    bd1 (pM_isIn (i2l a2) 1 100) fun rc2 =>
    if rc2 = 0 then
      some (0, v_grain, v_limit, v_lost)
    else
      bd1 (pM_isIn (i2l a3) 0 500) fun rc3 =>
      if rc3 = 0 then
        some (0, v_grain, v_limit, v_lost)
      else
        some (1, a1, a3, a2)
abbrev R_pM_pairs : Type := Int32
def pM_pairs (a1 : Int32) (a2 : Int32) (v_grain : Int32) (v_cutAt : (Nat → Int32)) (v_cutWorth : (Nat → Int32)) : Option R_pM_pairs :=
  gd (ib a1 240) <|
  gd (ib a2 240) <|
  if (v_cutWorth (ix a1)) = (v_cutWorth (ix a2)) then
    bd1 (pM_size ((v_cutAt (ix a1)) - (v_cutAt (ix a2)))) fun rc3 =>
    if v_grain < rc3 then
      some 0
    else
      some 1
  else
    some 0
abbrev R_pM_fitOf : Type := Int32 × (Nat → Int32)
def pM_fitOf_b236 (N : Nat) (a1 : Int32) (a2 : Int32) (v_grain : Int32) (v_lost : Int32) (v_cutAt : (Nat → Int32)) (v_cutWorth : (Nat → Int32)) (v_cuts : (Nat → Int32)) (self : Int32 → (Nat → Int32) → Option R_pM_fitOf) (k256 : (Nat → Int32) → Option R_pM_fitOf) (x3 : Int32) (x4 : Int32) (x5 : Int32) (v_cost : (Nat → Int32)) : Option R_pM_fitOf :=
  gd (ib ((13 * x3) + x4) 169) <|
  self (x4 + 1) (upd v_cost (ix ((13 * x3) + x4)) x5)
def pM_fitOf_b142 (N : Nat) (a1 : Int32) (a2 : Int32) (v_grain : Int32) (v_lost : Int32) (v_cutAt : (Nat → Int32)) (v_cutWorth : (Nat → Int32)) (v_cuts : (Nat → Int32)) (self : Int32 → (Nat → Int32) → Option R_pM_fitOf) (k256 : (Nat → Int32) → Option R_pM_fitOf) (x3 : Int32) (x4 : Int32) (x5 : Int32) (v_cost : (Nat → Int32)) : Option R_pM_fitOf :=
  if x3 ≤ 0 then
    pM_fitOf_b236 N a1 a2 v_grain v_lost v_cutAt v_cutWorth v_cuts self k256 x3 x4 x5 v_cost
  else
    if x4 ≤ 0 then
      pM_fitOf_b236 N a1 a2 v_grain v_lost v_cutAt v_cutWorth v_cuts self k256 x3 x4 x5 v_cost
    else
      bd1 (pM_pairs (((12 * a1) + x3) - 1) (((12 * a2) + x4) - 1) v_grain v_cutAt v_cutWorth) fun rc7 =>
      if rc7 = 0 then
        pM_fitOf_b236 N a1 a2 v_grain v_lost v_cutAt v_cutWorth v_cuts self k256 x3 x4 x5 v_cost
      else
        gd (ib (((13 * (x3 - 1)) + x4) - 1) 169) <|
        gd (ib (((12 * a1) + x3) - 1) 240) <|
        gd (ib (((12 * a2) + x4) - 1) 240) <|
        bd1 (pM_size ((v_cutAt (ix (((12 * a1) + x3) - 1))) - (v_cutAt (ix (((12 * a2) + x4) - 1))))) fun rc11 =>
        if x5 ≤ ((v_cost (ix (((13 * (x3 - 1)) + x4) - 1))) + rc11) then
          pM_fitOf_b236 N a1 a2 v_grain v_lost v_cutAt v_cutWorth v_cuts self k256 x3 x4 x5 v_cost
        else
          pM_fitOf_b236 N a1 a2 v_grain v_lost v_cutAt v_cutWorth v_cuts self k256 x3 x4 ((v_cost (ix (((13 * (x3 - 1)) + x4) - 1))) + rc11) v_cost
def pM_fitOf_b92 (N : Nat) (a1 : Int32) (a2 : Int32) (v_grain : Int32) (v_lost : Int32) (v_cutAt : (Nat → Int32)) (v_cutWorth : (Nat → Int32)) (v_cuts : (Nat → Int32)) (self : Int32 → (Nat → Int32) → Option R_pM_fitOf) (k256 : (Nat → Int32) → Option R_pM_fitOf) (x3 : Int32) (x4 : Int32) (x5 : Int32) (v_cost : (Nat → Int32)) : Option R_pM_fitOf :=
  if x4 ≤ 0 then
    pM_fitOf_b142 N a1 a2 v_grain v_lost v_cutAt v_cutWorth v_cuts self k256 x3 x4 x5 v_cost
  else
    gd (ib (((13 * x3) + x4) - 1) 169) <|
    if x5 ≤ ((v_cost (ix (((13 * x3) + x4) - 1))) + v_lost) then
      pM_fitOf_b142 N a1 a2 v_grain v_lost v_cutAt v_cutWorth v_cuts self k256 x3 x4 x5 v_cost
    else
      pM_fitOf_b142 N a1 a2 v_grain v_lost v_cutAt v_cutWorth v_cuts self k256 x3 x4 ((v_cost (ix (((13 * x3) + x4) - 1))) + v_lost) v_cost
def pM_fitOf_b41 (N : Nat) (a1 : Int32) (a2 : Int32) (v_grain : Int32) (v_lost : Int32) (v_cutAt : (Nat → Int32)) (v_cutWorth : (Nat → Int32)) (v_cuts : (Nat → Int32)) (self : Int32 → (Nat → Int32) → Option R_pM_fitOf) (k256 : (Nat → Int32) → Option R_pM_fitOf) (x3 : Int32) (x4 : Int32) (s0 : Int32) (v_cost : (Nat → Int32)) : Option R_pM_fitOf :=
  if x3 ≤ 0 then
    pM_fitOf_b92 N a1 a2 v_grain v_lost v_cutAt v_cutWorth v_cuts self k256 x3 x4 s0 v_cost
  else
    gd (ib ((13 * (x3 - 1)) + x4) 169) <|
    if s0 ≤ ((v_cost (ix ((13 * (x3 - 1)) + x4))) + v_lost) then
      pM_fitOf_b92 N a1 a2 v_grain v_lost v_cutAt v_cutWorth v_cuts self k256 x3 x4 s0 v_cost
    else
      pM_fitOf_b92 N a1 a2 v_grain v_lost v_cutAt v_cutWorth v_cuts self k256 x3 x4 ((v_cost (ix ((13 * (x3 - 1)) + x4))) + v_lost) v_cost
def pM_fitOf_b39 (N : Nat) (a1 : Int32) (a2 : Int32) (v_grain : Int32) (v_lost : Int32) (v_cutAt : (Nat → Int32)) (v_cutWorth : (Nat → Int32)) (v_cuts : (Nat → Int32)) (self : Int32 → (Nat → Int32) → Option R_pM_fitOf) (k256 : (Nat → Int32) → Option R_pM_fitOf) (x3 : Int32) (x4 : Int32) (v_cost : (Nat → Int32)) : Option R_pM_fitOf :=
  pM_fitOf_b41 N a1 a2 v_grain v_lost v_cutAt v_cutWorth v_cuts self k256 x3 x4 100000000 v_cost
def pM_fitOf_b15_F (N : Nat) (a1 : Int32) (a2 : Int32) (v_grain : Int32) (v_lost : Int32) (v_cutAt : (Nat → Int32)) (v_cutWorth : (Nat → Int32)) (v_cuts : (Nat → Int32)) (x3 : Int32) (k256 : (Nat → Int32) → Option R_pM_fitOf) (self : Int32 → (Nat → Int32) → Option R_pM_fitOf) (x4 : Int32) (v_cost : (Nat → Int32)) : Option R_pM_fitOf :=
  gd (ib a2 20) <|
  if (v_cuts (ix a2)) < x4 then
    k256 v_cost
  else
    if x3 = 0 then
      if x4 = 0 then
        pM_fitOf_b41 N a1 a2 v_grain v_lost v_cutAt v_cutWorth v_cuts self k256 x3 x4 0 v_cost
      else
        pM_fitOf_b39 N a1 a2 v_grain v_lost v_cutAt v_cutWorth v_cuts self k256 x3 x4 v_cost
    else
      pM_fitOf_b39 N a1 a2 v_grain v_lost v_cutAt v_cutWorth v_cuts self k256 x3 x4 v_cost
def pM_fitOf_b15 (N : Nat) (a1 : Int32) (a2 : Int32) (v_grain : Int32) (v_lost : Int32) (v_cutAt : (Nat → Int32)) (v_cutWorth : (Nat → Int32)) (v_cuts : (Nat → Int32)) (x3 : Int32) (k256 : (Nat → Int32) → Option R_pM_fitOf) : Nat → Int32 → (Nat → Int32) → Option R_pM_fitOf := zlp2 (pM_fitOf_b15_F N a1 a2 v_grain v_lost v_cutAt v_cutWorth v_cuts x3 k256)
def pM_fitOf_b256 (N : Nat) (a1 : Int32) (a2 : Int32) (v_grain : Int32) (v_lost : Int32) (v_cutAt : (Nat → Int32)) (v_cutWorth : (Nat → Int32)) (v_cuts : (Nat → Int32)) (self : Int32 → (Nat → Int32) → Option R_pM_fitOf) (x3 : Int32) (v_cost : (Nat → Int32)) : Option R_pM_fitOf :=
  self (x3 + 1) v_cost
def pM_fitOf_b2_F (N : Nat) (a1 : Int32) (a2 : Int32) (v_grain : Int32) (v_lost : Int32) (v_cutAt : (Nat → Int32)) (v_cutWorth : (Nat → Int32)) (v_cuts : (Nat → Int32)) (self : Int32 → (Nat → Int32) → Option R_pM_fitOf) (x3 : Int32) (v_cost : (Nat → Int32)) : Option R_pM_fitOf :=
  gd (ib a1 20) <|
  if (v_cuts (ix a1)) < x3 then
    gd (ib a2 20) <|
    gd (ib ((13 * (v_cuts (ix a1))) + (v_cuts (ix a2))) 169) <|
    some ((v_cost (ix ((13 * (v_cuts (ix a1))) + (v_cuts (ix a2))))), v_cost)
  else
    pM_fitOf_b15 N a1 a2 v_grain v_lost v_cutAt v_cutWorth v_cuts x3 (pM_fitOf_b256 N a1 a2 v_grain v_lost v_cutAt v_cutWorth v_cuts self x3) N 0 v_cost
def pM_fitOf_b2 (N : Nat) (a1 : Int32) (a2 : Int32) (v_grain : Int32) (v_lost : Int32) (v_cutAt : (Nat → Int32)) (v_cutWorth : (Nat → Int32)) (v_cuts : (Nat → Int32)) : Nat → Int32 → (Nat → Int32) → Option R_pM_fitOf := zlp2 (pM_fitOf_b2_F N a1 a2 v_grain v_lost v_cutAt v_cutWorth v_cuts)
def pM_fitOf (N : Nat) (a1 : Int32) (a2 : Int32) (v_grain : Int32) (v_lost : Int32) (v_cost : (Nat → Int32)) (v_cutAt : (Nat → Int32)) (v_cutWorth : (Nat → Int32)) (v_cuts : (Nat → Int32)) : Option R_pM_fitOf :=
  pM_fitOf_b2 N a1 a2 v_grain v_lost v_cutAt v_cutWorth v_cuts N 0 v_cost
abbrev R_pM_fit : Type := Int32 × (Nat → Int32)
def pM_fit (N : Nat) (a1 : Int32) (a2 : Int32) (v_grain : Int32) (v_lost : Int32) (v_cost : (Nat → Int32)) (v_cutAt : (Nat → Int32)) (v_cutWorth : (Nat → Int32)) (v_cuts : (Nat → Int32)) : Option R_pM_fit :=
  bd1 (pM_half 0 a1) fun rc1 =>
  bd1 (pM_half 1 a2) fun rc2 =>
  bd1 (pM_isThere rc1 v_cuts) fun rc3 =>
  if rc3 = 0 then
    some ((-1), v_cost)
  else
    bd1 (pM_isThere rc2 v_cuts) fun rc4 =>
    if rc4 = 0 then
      some ((-1), v_cost)
    else
      bd2 (pM_fitOf N rc1 rc2 v_grain v_lost v_cost v_cutAt v_cutWorth v_cuts) fun rc5 v_cost_c5 =>
      some (rc5, v_cost_c5)
abbrev R_pM_canPair : Type := Int32
def pM_canPair (a1 : Int32) (a2 : Int32) (a3 : Int32) (v_limit : Int32) (v_fits : (Nat → Int32)) : Option R_pM_canPair :=
  gd (ib ((10 * a1) + a2) 100) <|
  if v_limit < (v_fits (ix ((10 * a1) + a2))) then
    some 0
  else
    if ((a3 >>> (a2 &&& 31)) &&& 1) = 0 then
      some 1
    else
      some 0
abbrev R_pM_paired : Type := Int32
def pM_paired (a1 : Int32) (a2 : Int32) (a3 : Int32) (v_best : (Nat → Int32)) (v_fits : (Nat → Int32)) : Option R_pM_paired :=
  gd (ib ((1024 * (a1 + 1)) + (a3 ||| ((1 : Int32) <<< (a2 &&& 31)))) 11264) <|
  gd (ib ((10 * a1) + a2) 100) <|
  some (((v_best (ix ((1024 * (a1 + 1)) + (a3 ||| ((1 : Int32) <<< (a2 &&& 31)))))) + 100000) - (v_fits (ix ((10 * a1) + a2))))
abbrev R_pM_matches : Type := (Nat → Int32) × (Nat → Int32) × (Nat → Int32) × (Nat → Int32)
def pM_matches_b59 (N : Nat) (v_grain : Int32) (v_limit : Int32) (v_lost : Int32) (v_cutAt : (Nat → Int32)) (v_cutWorth : (Nat → Int32)) (v_cuts : (Nat → Int32)) (self : Int32 → (Nat → Int32) → (Nat → Int32) → Option R_pM_matches) (k66 : (Nat → Int32) → (Nat → Int32) → Option R_pM_matches) (x1 : Int32) (x2 : Int32) (s1 : Int32) (s2 : Int32) (v_best : (Nat → Int32)) (v_cost : (Nat → Int32)) (v_fits : (Nat → Int32)) (v_mates : (Nat → Int32)) : Option R_pM_matches :=
  gd (ib s1 100) <|
  self (x2 + 1) v_cost (upd v_fits (ix s1) s2)
def pM_matches_b57 (N : Nat) (v_grain : Int32) (v_limit : Int32) (v_lost : Int32) (v_cutAt : (Nat → Int32)) (v_cutWorth : (Nat → Int32)) (v_cuts : (Nat → Int32)) (self : Int32 → (Nat → Int32) → (Nat → Int32) → Option R_pM_matches) (k66 : (Nat → Int32) → (Nat → Int32) → Option R_pM_matches) (x1 : Int32) (x2 : Int32) (s1 : Int32) (v_best : (Nat → Int32)) (v_cost : (Nat → Int32)) (v_fits : (Nat → Int32)) (v_mates : (Nat → Int32)) : Option R_pM_matches :=
  pM_matches_b59 N v_grain v_limit v_lost v_cutAt v_cutWorth v_cuts self k66 x1 x2 s1 100000000 v_best v_cost v_fits v_mates
def pM_matches_b10_F (N : Nat) (v_grain : Int32) (v_limit : Int32) (v_lost : Int32) (v_cutAt : (Nat → Int32)) (v_cutWorth : (Nat → Int32)) (v_cuts : (Nat → Int32)) (x1 : Int32) (v_best : (Nat → Int32)) (v_mates : (Nat → Int32)) (k66 : (Nat → Int32) → (Nat → Int32) → Option R_pM_matches) (self : Int32 → (Nat → Int32) → (Nat → Int32) → Option R_pM_matches) (x2 : Int32) (v_cost : (Nat → Int32)) (v_fits : (Nat → Int32)) : Option R_pM_matches :=
  if 10 ≤ x2 then
    k66 v_cost v_fits
  else
    bd1 (pM_isThere x1 v_cuts) fun rc1 =>
    if rc1 = 0 then
      pM_matches_b57 N v_grain v_limit v_lost v_cutAt v_cutWorth v_cuts self k66 x1 x2 ((10 * x1) + x2) v_best v_cost v_fits v_mates
    else
      bd1 (pM_isThere (10 + x2) v_cuts) fun rc2 =>
      if rc2 = 0 then
        pM_matches_b57 N v_grain v_limit v_lost v_cutAt v_cutWorth v_cuts self k66 x1 x2 ((10 * x1) + x2) v_best v_cost v_fits v_mates
      else
        bd2 (pM_fitOf N x1 (10 + x2) v_grain v_lost v_cost v_cutAt v_cutWorth v_cuts) fun rc3 v_cost_c3 =>
        pM_matches_b59 N v_grain v_limit v_lost v_cutAt v_cutWorth v_cuts self k66 x1 x2 ((10 * x1) + x2) rc3 v_best v_cost_c3 v_fits v_mates
def pM_matches_b10 (N : Nat) (v_grain : Int32) (v_limit : Int32) (v_lost : Int32) (v_cutAt : (Nat → Int32)) (v_cutWorth : (Nat → Int32)) (v_cuts : (Nat → Int32)) (x1 : Int32) (v_best : (Nat → Int32)) (v_mates : (Nat → Int32)) (k66 : (Nat → Int32) → (Nat → Int32) → Option R_pM_matches) : Nat → Int32 → (Nat → Int32) → (Nat → Int32) → Option R_pM_matches := zlp3 (pM_matches_b10_F N v_grain v_limit v_lost v_cutAt v_cutWorth v_cuts x1 v_best v_mates k66)
def pM_matches_b66 (N : Nat) (v_grain : Int32) (v_limit : Int32) (v_lost : Int32) (v_cutAt : (Nat → Int32)) (v_cutWorth : (Nat → Int32)) (v_cuts : (Nat → Int32)) (self : Int32 → (Nat → Int32) → (Nat → Int32) → Option R_pM_matches) (k72 : (Nat → Int32) → (Nat → Int32) → Option R_pM_matches) (x1 : Int32) (v_best : (Nat → Int32)) (v_cost : (Nat → Int32)) (v_fits : (Nat → Int32)) (v_mates : (Nat → Int32)) : Option R_pM_matches :=
  self (x1 + 1) v_cost v_fits
def pM_matches_b2_F (N : Nat) (v_grain : Int32) (v_limit : Int32) (v_lost : Int32) (v_cutAt : (Nat → Int32)) (v_cutWorth : (Nat → Int32)) (v_cuts : (Nat → Int32)) (v_best : (Nat → Int32)) (v_mates : (Nat → Int32)) (k72 : (Nat → Int32) → (Nat → Int32) → Option R_pM_matches) (self : Int32 → (Nat → Int32) → (Nat → Int32) → Option R_pM_matches) (x1 : Int32) (v_cost : (Nat → Int32)) (v_fits : (Nat → Int32)) : Option R_pM_matches :=
  if 10 ≤ x1 then
    k72 v_cost v_fits
  else
    pM_matches_b10 N v_grain v_limit v_lost v_cutAt v_cutWorth v_cuts x1 v_best v_mates (fun v_cost_k1 v_fits_k2 => pM_matches_b66 N v_grain v_limit v_lost v_cutAt v_cutWorth v_cuts self k72 x1 v_best v_cost_k1 v_fits_k2 v_mates) N 0 v_cost v_fits
def pM_matches_b2 (N : Nat) (v_grain : Int32) (v_limit : Int32) (v_lost : Int32) (v_cutAt : (Nat → Int32)) (v_cutWorth : (Nat → Int32)) (v_cuts : (Nat → Int32)) (v_best : (Nat → Int32)) (v_mates : (Nat → Int32)) (k72 : (Nat → Int32) → (Nat → Int32) → Option R_pM_matches) : Nat → Int32 → (Nat → Int32) → (Nat → Int32) → Option R_pM_matches := zlp3 (pM_matches_b2_F N v_grain v_limit v_lost v_cutAt v_cutWorth v_cuts v_best v_mates k72)
def pM_matches_b74_F (N : Nat) (v_grain : Int32) (v_limit : Int32) (v_lost : Int32) (v_cutAt : (Nat → Int32)) (v_cutWorth : (Nat → Int32)) (v_cuts : (Nat → Int32)) (v_cost : (Nat → Int32)) (v_fits : (Nat → Int32)) (v_mates : (Nat → Int32)) (k98 : (Nat → Int32) → Option R_pM_matches) (self : Int32 → (Nat → Int32) → Option R_pM_matches) (x1 : Int32) (v_best : (Nat → Int32)) : Option R_pM_matches :=
  if 1024 ≤ x1 then
    k98 v_best
  else
    gd (ib (10240 + x1) 11264) <|
    self (x1 + 1) (upd v_best (ix (10240 + x1)) 0)
def pM_matches_b74 (N : Nat) (v_grain : Int32) (v_limit : Int32) (v_lost : Int32) (v_cutAt : (Nat → Int32)) (v_cutWorth : (Nat → Int32)) (v_cuts : (Nat → Int32)) (v_cost : (Nat → Int32)) (v_fits : (Nat → Int32)) (v_mates : (Nat → Int32)) (k98 : (Nat → Int32) → Option R_pM_matches) : Nat → Int32 → (Nat → Int32) → Option R_pM_matches := zlp2 (pM_matches_b74_F N v_grain v_limit v_lost v_cutAt v_cutWorth v_cuts v_cost v_fits v_mates k98)
def pM_matches_b132_F (N : Nat) (v_grain : Int32) (v_limit : Int32) (v_lost : Int32) (v_cutAt : (Nat → Int32)) (v_cutWorth : (Nat → Int32)) (v_cuts : (Nat → Int32)) (x1 : Int32) (x2 : Int32) (v_best : (Nat → Int32)) (v_cost : (Nat → Int32)) (v_fits : (Nat → Int32)) (v_mates : (Nat → Int32)) (k177 : Int32 → Option R_pM_matches) (self : Int32 → Int32 → Option R_pM_matches) (x3 : Int32) (x4 : Int32) : Option R_pM_matches :=
  if 10 ≤ x4 then
    k177 x3
  else
    bd1 (pM_canPair x1 x4 x2 v_limit v_fits) fun rc8 =>
    if rc8 = 0 then
      self x3 (x4 + 1)
    else
      bd1 (pM_paired x1 x4 x2 v_best v_fits) fun rc9 =>
      if rc9 ≤ x3 then
        self x3 (x4 + 1)
      else
        bd1 (pM_paired x1 x4 x2 v_best v_fits) fun rc10 =>
        self rc10 (x4 + 1)
def pM_matches_b132 (N : Nat) (v_grain : Int32) (v_limit : Int32) (v_lost : Int32) (v_cutAt : (Nat → Int32)) (v_cutWorth : (Nat → Int32)) (v_cuts : (Nat → Int32)) (x1 : Int32) (x2 : Int32) (v_best : (Nat → Int32)) (v_cost : (Nat → Int32)) (v_fits : (Nat → Int32)) (v_mates : (Nat → Int32)) (k177 : Int32 → Option R_pM_matches) : Nat → Int32 → Int32 → Option R_pM_matches := zlp2 (pM_matches_b132_F N v_grain v_limit v_lost v_cutAt v_cutWorth v_cuts x1 x2 v_best v_cost v_fits v_mates k177)
def pM_matches_b177 (N : Nat) (v_grain : Int32) (v_limit : Int32) (v_lost : Int32) (v_cutAt : (Nat → Int32)) (v_cutWorth : (Nat → Int32)) (v_cuts : (Nat → Int32)) (self : Int32 → (Nat → Int32) → Option R_pM_matches) (k196 : (Nat → Int32) → Option R_pM_matches) (x1 : Int32) (x2 : Int32) (x3 : Int32) (v_best : (Nat → Int32)) (v_cost : (Nat → Int32)) (v_fits : (Nat → Int32)) (v_mates : (Nat → Int32)) : Option R_pM_matches :=
  gd (ib ((1024 * x1) + x2) 11264) <|
  self (x2 + 1) (upd v_best (ix ((1024 * x1) + x2)) x3)
def pM_matches_b107_F (N : Nat) (v_grain : Int32) (v_limit : Int32) (v_lost : Int32) (v_cutAt : (Nat → Int32)) (v_cutWorth : (Nat → Int32)) (v_cuts : (Nat → Int32)) (x1 : Int32) (v_cost : (Nat → Int32)) (v_fits : (Nat → Int32)) (v_mates : (Nat → Int32)) (k196 : (Nat → Int32) → Option R_pM_matches) (self : Int32 → (Nat → Int32) → Option R_pM_matches) (x2 : Int32) (v_best : (Nat → Int32)) : Option R_pM_matches :=
  if 1024 ≤ x2 then
    k196 v_best
  else
    gd (ib ((1024 * (x1 + 1)) + x2) 11264) <|
    pM_matches_b132 N v_grain v_limit v_lost v_cutAt v_cutWorth v_cuts x1 x2 v_best v_cost v_fits v_mates (fun x3_k6 => pM_matches_b177 N v_grain v_limit v_lost v_cutAt v_cutWorth v_cuts self k196 x1 x2 x3_k6 v_best v_cost v_fits v_mates) N (v_best (ix ((1024 * (x1 + 1)) + x2))) 0
def pM_matches_b107 (N : Nat) (v_grain : Int32) (v_limit : Int32) (v_lost : Int32) (v_cutAt : (Nat → Int32)) (v_cutWorth : (Nat → Int32)) (v_cuts : (Nat → Int32)) (x1 : Int32) (v_cost : (Nat → Int32)) (v_fits : (Nat → Int32)) (v_mates : (Nat → Int32)) (k196 : (Nat → Int32) → Option R_pM_matches) : Nat → Int32 → (Nat → Int32) → Option R_pM_matches := zlp2 (pM_matches_b107_F N v_grain v_limit v_lost v_cutAt v_cutWorth v_cuts x1 v_cost v_fits v_mates k196)
def pM_matches_b196 (N : Nat) (v_grain : Int32) (v_limit : Int32) (v_lost : Int32) (v_cutAt : (Nat → Int32)) (v_cutWorth : (Nat → Int32)) (v_cuts : (Nat → Int32)) (self : Int32 → (Nat → Int32) → Option R_pM_matches) (k202 : (Nat → Int32) → Option R_pM_matches) (x1 : Int32) (v_best : (Nat → Int32)) (v_cost : (Nat → Int32)) (v_fits : (Nat → Int32)) (v_mates : (Nat → Int32)) : Option R_pM_matches :=
  self (x1 + (-1)) v_best
def pM_matches_b101_F (N : Nat) (v_grain : Int32) (v_limit : Int32) (v_lost : Int32) (v_cutAt : (Nat → Int32)) (v_cutWorth : (Nat → Int32)) (v_cuts : (Nat → Int32)) (v_cost : (Nat → Int32)) (v_fits : (Nat → Int32)) (v_mates : (Nat → Int32)) (k202 : (Nat → Int32) → Option R_pM_matches) (self : Int32 → (Nat → Int32) → Option R_pM_matches) (x1 : Int32) (v_best : (Nat → Int32)) : Option R_pM_matches :=
  if x1 < 0 then
    k202 v_best
  else
    pM_matches_b107 N v_grain v_limit v_lost v_cutAt v_cutWorth v_cuts x1 v_cost v_fits v_mates (fun v_best_k7 => pM_matches_b196 N v_grain v_limit v_lost v_cutAt v_cutWorth v_cuts self k202 x1 v_best_k7 v_cost v_fits v_mates) N 0 v_best
def pM_matches_b101 (N : Nat) (v_grain : Int32) (v_limit : Int32) (v_lost : Int32) (v_cutAt : (Nat → Int32)) (v_cutWorth : (Nat → Int32)) (v_cuts : (Nat → Int32)) (v_cost : (Nat → Int32)) (v_fits : (Nat → Int32)) (v_mates : (Nat → Int32)) (k202 : (Nat → Int32) → Option R_pM_matches) : Nat → Int32 → (Nat → Int32) → Option R_pM_matches := zlp2 (pM_matches_b101_F N v_grain v_limit v_lost v_cutAt v_cutWorth v_cuts v_cost v_fits v_mates k202)
def pM_matches_b222_F (N : Nat) (v_grain : Int32) (v_limit : Int32) (v_lost : Int32) (v_cutAt : (Nat → Int32)) (v_cutWorth : (Nat → Int32)) (v_cuts : (Nat → Int32)) (x1 : Int32) (x2 : Int32) (v_best : (Nat → Int32)) (v_cost : (Nat → Int32)) (v_fits : (Nat → Int32)) (k271 : (Nat → Int32) → Option R_pM_matches) (self : Int32 → (Nat → Int32) → Option R_pM_matches) (x3 : Int32) (v_mates : (Nat → Int32)) : Option R_pM_matches :=
  if x3 < 0 then
    k271 v_mates
  else
    bd1 (pM_canPair x2 x3 x1 v_limit v_fits) fun rc11 =>
    if rc11 = 0 then
      self (x3 + (-1)) v_mates
    else
      bd1 (pM_paired x2 x3 x1 v_best v_fits) fun rc12 =>
      gd (ib ((1024 * x2) + x1) 11264) <|
      if rc12 = (v_best (ix ((1024 * x2) + x1))) then
        gd (ib x2 10) <|
        self (x3 + (-1)) (upd v_mates (ix x2) x3)
      else
        self (x3 + (-1)) v_mates
def pM_matches_b222 (N : Nat) (v_grain : Int32) (v_limit : Int32) (v_lost : Int32) (v_cutAt : (Nat → Int32)) (v_cutWorth : (Nat → Int32)) (v_cuts : (Nat → Int32)) (x1 : Int32) (x2 : Int32) (v_best : (Nat → Int32)) (v_cost : (Nat → Int32)) (v_fits : (Nat → Int32)) (k271 : (Nat → Int32) → Option R_pM_matches) : Nat → Int32 → (Nat → Int32) → Option R_pM_matches := zlp2 (pM_matches_b222_F N v_grain v_limit v_lost v_cutAt v_cutWorth v_cuts x1 x2 v_best v_cost v_fits k271)
def pM_matches_b271 (N : Nat) (v_grain : Int32) (v_limit : Int32) (v_lost : Int32) (v_cutAt : (Nat → Int32)) (v_cutWorth : (Nat → Int32)) (v_cuts : (Nat → Int32)) (self : Int32 → Int32 → (Nat → Int32) → Option R_pM_matches) (x1 : Int32) (x2 : Int32) (v_best : (Nat → Int32)) (v_cost : (Nat → Int32)) (v_fits : (Nat → Int32)) (v_mates : (Nat → Int32)) : Option R_pM_matches :=
  gd (ib x2 10) <|
  if (v_mates (ix x2)) = (-1) then
    self x1 (x2 + 1) v_mates
  else
    self (x1 ||| ((1 : Int32) <<< ((v_mates (ix x2)) &&& 31))) (x2 + 1) v_mates
def pM_matches_b206_F (N : Nat) (v_grain : Int32) (v_limit : Int32) (v_lost : Int32) (v_cutAt : (Nat → Int32)) (v_cutWorth : (Nat → Int32)) (v_cuts : (Nat → Int32)) (v_best : (Nat → Int32)) (v_cost : (Nat → Int32)) (v_fits : (Nat → Int32)) (self : Int32 → Int32 → (Nat → Int32) → Option R_pM_matches) (x1 : Int32) (x2 : Int32) (v_mates : (Nat → Int32)) : Option R_pM_matches :=
  if 10 ≤ x2 then
    some (v_best, v_cost, v_fits, v_mates)
  else
    gd (ib x2 10) <|
    pM_matches_b222 N v_grain v_limit v_lost v_cutAt v_cutWorth v_cuts x1 x2 v_best v_cost v_fits (pM_matches_b271 N v_grain v_limit v_lost v_cutAt v_cutWorth v_cuts self x1 x2 v_best v_cost v_fits) N 9 (upd v_mates (ix x2) (-1))
def pM_matches_b206 (N : Nat) (v_grain : Int32) (v_limit : Int32) (v_lost : Int32) (v_cutAt : (Nat → Int32)) (v_cutWorth : (Nat → Int32)) (v_cuts : (Nat → Int32)) (v_best : (Nat → Int32)) (v_cost : (Nat → Int32)) (v_fits : (Nat → Int32)) : Nat → Int32 → Int32 → (Nat → Int32) → Option R_pM_matches := zlp3 (pM_matches_b206_F N v_grain v_limit v_lost v_cutAt v_cutWorth v_cuts v_best v_cost v_fits)
def pM_matches_b202 (N : Nat) (v_grain : Int32) (v_limit : Int32) (v_lost : Int32) (v_cutAt : (Nat → Int32)) (v_cutWorth : (Nat → Int32)) (v_cuts : (Nat → Int32)) (v_best : (Nat → Int32)) (v_cost : (Nat → Int32)) (v_fits : (Nat → Int32)) (v_mates : (Nat → Int32)) : Option R_pM_matches :=
  pM_matches_b206 N v_grain v_limit v_lost v_cutAt v_cutWorth v_cuts v_best v_cost v_fits N 0 0 v_mates
def pM_matches_b98 (N : Nat) (v_grain : Int32) (v_limit : Int32) (v_lost : Int32) (v_cutAt : (Nat → Int32)) (v_cutWorth : (Nat → Int32)) (v_cuts : (Nat → Int32)) (v_best : (Nat → Int32)) (v_cost : (Nat → Int32)) (v_fits : (Nat → Int32)) (v_mates : (Nat → Int32)) : Option R_pM_matches :=
  pM_matches_b101 N v_grain v_limit v_lost v_cutAt v_cutWorth v_cuts v_cost v_fits v_mates (fun v_best_k8 => pM_matches_b202 N v_grain v_limit v_lost v_cutAt v_cutWorth v_cuts v_best_k8 v_cost v_fits v_mates) N 9 v_best
def pM_matches_b72 (N : Nat) (v_grain : Int32) (v_limit : Int32) (v_lost : Int32) (v_cutAt : (Nat → Int32)) (v_cutWorth : (Nat → Int32)) (v_cuts : (Nat → Int32)) (v_best : (Nat → Int32)) (v_cost : (Nat → Int32)) (v_fits : (Nat → Int32)) (v_mates : (Nat → Int32)) : Option R_pM_matches :=
  pM_matches_b74 N v_grain v_limit v_lost v_cutAt v_cutWorth v_cuts v_cost v_fits v_mates (fun v_best_k5 => pM_matches_b98 N v_grain v_limit v_lost v_cutAt v_cutWorth v_cuts v_best_k5 v_cost v_fits v_mates) N 0 v_best
def pM_matches (N : Nat) (v_grain : Int32) (v_limit : Int32) (v_lost : Int32) (v_best : (Nat → Int32)) (v_cost : (Nat → Int32)) (v_cutAt : (Nat → Int32)) (v_cutWorth : (Nat → Int32)) (v_cuts : (Nat → Int32)) (v_fits : (Nat → Int32)) (v_mates : (Nat → Int32)) : Option R_pM_matches :=
  pM_matches_b2 N v_grain v_limit v_lost v_cutAt v_cutWorth v_cuts v_best v_mates (fun v_cost_k3 v_fits_k4 => pM_matches_b72 N v_grain v_limit v_lost v_cutAt v_cutWorth v_cuts v_best v_cost_k3 v_fits_k4 v_mates) N 0 v_cost v_fits
abbrev R_pM_mate : Type := Int32 × (Nat → Int32) × (Nat → Int32) × (Nat → Int32) × (Nat → Int32)
def pM_mate (N : Nat) (a1 : Int32) (v_grain : Int32) (v_limit : Int32) (v_lost : Int32) (v_best : (Nat → Int32)) (v_cost : (Nat → Int32)) (v_cutAt : (Nat → Int32)) (v_cutWorth : (Nat → Int32)) (v_cuts : (Nat → Int32)) (v_fits : (Nat → Int32)) (v_mates : (Nat → Int32)) : Option R_pM_mate :=
  bd1 (pM_isIn (i2l a1) 0 9) fun rc1 =>
  if rc1 = 0 then
    some ((-1), v_best, v_cost, v_fits, v_mates)
  else
    bd4 (pM_matches N v_grain v_limit v_lost v_best v_cost v_cutAt v_cutWorth v_cuts v_fits v_mates) fun v_best_c2 v_cost_c2 v_fits_c2 v_mates_c2 =>
    gd (ib a1 10) <|
    some ((v_mates_c2 (ix a1)), v_best_c2, v_cost_c2, v_fits_c2, v_mates_c2)
abbrev R_pM_matched : Type := Int32 × (Nat → Int32) × (Nat → Int32) × (Nat → Int32) × (Nat → Int32)
def pM_matched_b22_F (N : Nat) (a1 : Int32) (v_grain : Int32) (v_limit : Int32) (v_lost : Int32) (v_cutAt : (Nat → Int32)) (v_cutWorth : (Nat → Int32)) (v_cuts : (Nat → Int32)) (v_best : (Nat → Int32)) (v_cost : (Nat → Int32)) (v_fits : (Nat → Int32)) (v_mates : (Nat → Int32)) (k73 : Int32 → Int32 → Option R_pM_matched) (self : Int32 → Int32 → Int32 → Option R_pM_matched) (x2 : Int32) (x3 : Int32) (x4 : Int32) : Option R_pM_matched :=
  if 10 ≤ x4 then
    k73 x2 x3
  else
    gd (ib x4 10) <|
    if (v_mates (ix x4)) = (-1) then
      self x2 x3 (x4 + 1)
    else
      gd (ib ((10 * x4) + (v_mates (ix x4))) 100) <|
      self (x2 + 1) (x3 + (v_fits (ix ((10 * x4) + (v_mates (ix x4)))))) (x4 + 1)
def pM_matched_b22 (N : Nat) (a1 : Int32) (v_grain : Int32) (v_limit : Int32) (v_lost : Int32) (v_cutAt : (Nat → Int32)) (v_cutWorth : (Nat → Int32)) (v_cuts : (Nat → Int32)) (v_best : (Nat → Int32)) (v_cost : (Nat → Int32)) (v_fits : (Nat → Int32)) (v_mates : (Nat → Int32)) (k73 : Int32 → Int32 → Option R_pM_matched) : Nat → Int32 → Int32 → Int32 → Option R_pM_matched := zlp3 (pM_matched_b22_F N a1 v_grain v_limit v_lost v_cutAt v_cutWorth v_cuts v_best v_cost v_fits v_mates k73)
def pM_matched_b73 (N : Nat) (a1 : Int32) (v_grain : Int32) (v_limit : Int32) (v_lost : Int32) (v_cutAt : (Nat → Int32)) (v_cutWorth : (Nat → Int32)) (v_cuts : (Nat → Int32)) (x2 : Int32) (x3 : Int32) (v_best : (Nat → Int32)) (v_cost : (Nat → Int32)) (v_fits : (Nat → Int32)) (v_mates : (Nat → Int32)) : Option R_pM_matched :=
  if a1 = 0 then
    some (x2, v_best, v_cost, v_fits, v_mates)
  else
    some (x3, v_best, v_cost, v_fits, v_mates)
def pM_matched_b11 (N : Nat) (a1 : Int32) (v_grain : Int32) (v_limit : Int32) (v_lost : Int32) (v_cutAt : (Nat → Int32)) (v_cutWorth : (Nat → Int32)) (v_cuts : (Nat → Int32)) (v_best : (Nat → Int32)) (v_cost : (Nat → Int32)) (v_fits : (Nat → Int32)) (v_mates : (Nat → Int32)) : Option R_pM_matched :=
  bd4 (pM_matches N v_grain v_limit v_lost v_best v_cost v_cutAt v_cutWorth v_cuts v_fits v_mates) fun v_best_c1 v_cost_c1 v_fits_c1 v_mates_c1 =>
  pM_matched_b22 N a1 v_grain v_limit v_lost v_cutAt v_cutWorth v_cuts v_best_c1 v_cost_c1 v_fits_c1 v_mates_c1 (fun x2_k1 x3_k2 => pM_matched_b73 N a1 v_grain v_limit v_lost v_cutAt v_cutWorth v_cuts x2_k1 x3_k2 v_best_c1 v_cost_c1 v_fits_c1 v_mates_c1) N 0 0 0
def pM_matched (N : Nat) (a1 : Int32) (v_grain : Int32) (v_limit : Int32) (v_lost : Int32) (v_best : (Nat → Int32)) (v_cost : (Nat → Int32)) (v_cutAt : (Nat → Int32)) (v_cutWorth : (Nat → Int32)) (v_cuts : (Nat → Int32)) (v_fits : (Nat → Int32)) (v_mates : (Nat → Int32)) : Option R_pM_matched :=
  if a1 = 0 then
    pM_matched_b11 N a1 v_grain v_limit v_lost v_cutAt v_cutWorth v_cuts v_best v_cost v_fits v_mates
  else
    if a1 = 1 then
      pM_matched_b11 N a1 v_grain v_limit v_lost v_cutAt v_cutWorth v_cuts v_best v_cost v_fits v_mates
    else
      some ((-1), v_best, v_cost, v_fits, v_mates)
abbrev R_pM_feed : Type := Int32 × Int32 × (Nat → Int32)
def pM_feed_b71 (N : Nat) (a1 : Int32) (a2 : Int32) (a3 : Int32) (a4 : Int32) (a5 : Int32) (self : Int32 → Int32 → (Nat → Int32) → Option R_pM_feed) (x6 : Int32) (s0 : Int32) (v_taped : Int32) (v_tape : (Nat → Int32)) : Option R_pM_feed :=
  gd (ib v_taped 600) <|
  self (x6 + 1) (v_taped + 1) (upd v_tape (ix v_taped) ((s0 >>> ((8 * (3 - (x6 - x6 / 4 * 4))) &&& 31)) &&& 255))
def pM_feed_b18_F (N : Nat) (a1 : Int32) (a2 : Int32) (a3 : Int32) (a4 : Int32) (a5 : Int32) (self : Int32 → Int32 → (Nat → Int32) → Option R_pM_feed) (x6 : Int32) (v_taped : Int32) (v_tape : (Nat → Int32)) : Option R_pM_feed :=
  if 20 ≤ x6 then
    some (v_taped, v_taped, v_tape)
  else
    if 4 ≤ x6 then
      if 8 ≤ x6 then
        if 12 ≤ x6 then
          if 16 ≤ x6 then
            pM_feed_b71 N a1 a2 a3 a4 a5 self x6 a5 v_taped v_tape
          else
            pM_feed_b71 N a1 a2 a3 a4 a5 self x6 a4 v_taped v_tape
        else
          pM_feed_b71 N a1 a2 a3 a4 a5 self x6 a3 v_taped v_tape
      else
        pM_feed_b71 N a1 a2 a3 a4 a5 self x6 a2 v_taped v_tape
    else
      pM_feed_b71 N a1 a2 a3 a4 a5 self x6 a1 v_taped v_tape
def pM_feed_b18 (N : Nat) (a1 : Int32) (a2 : Int32) (a3 : Int32) (a4 : Int32) (a5 : Int32) : Nat → Int32 → Int32 → (Nat → Int32) → Option R_pM_feed := zlp3 (pM_feed_b18_F N a1 a2 a3 a4 a5)
def pM_feed (N : Nat) (a1 : Int32) (a2 : Int32) (a3 : Int32) (a4 : Int32) (a5 : Int32) (v_taped : Int32) (v_tape : (Nat → Int32)) : Option R_pM_feed :=
  if (v_taped + 20) ≤ 600 then
    pM_feed_b18 N a1 a2 a3 a4 a5 N 0 v_taped v_tape
  else
    some ((-1), v_taped, v_tape)
abbrev R_pM_end : Type := Int32 × Int32
def pM_end (a1 : Int32) (v_taped : Int32) : Option R_pM_end :=
  if a1 < 0 then
    some (0, v_taped)
  else
    if a1 ≤ v_taped then
      some (1, a1)
    else
      some (0, v_taped)
abbrev R_pM_fail : Type := Int32 × Int32
def pM_fail (a1 : Int32) (a2 : Int32) (v_bad : Int32) (v_badPlace : Int32) : Option R_pM_fail :=
  if v_bad = 0 then
    some (a1, a2)
  else
    some (v_bad, v_badPlace)
abbrev R_pM_isLetter : Type := Int32
def pM_isLetter (a0 : Int32) : Option R_pM_isLetter :=
  if a0 < 97 then
    some 0
  else
    if 122 < a0 then
      some 0
    else
      some 1
abbrev R_pM_isDigit : Type := Int32
def pM_isDigit (a0 : Int32) : Option R_pM_isDigit :=
  if a0 < 48 then
    some 0
  else
    if 57 < a0 then
      some 0
    else
      some 1
abbrev R_pM_look : Type := Int32 × Int32
def pM_look_b39 (N : Nat) (v_end : Int32) (v_tape : (Nat → Int32)) (self : Int32 → Option R_pM_look) (k52 : Int32 → Option R_pM_look) (v_at : Int32) : Option R_pM_look :=
  self (v_at + 1)
def pM_look_b0_F (N : Nat) (v_end : Int32) (v_tape : (Nat → Int32)) (k52 : Int32 → Option R_pM_look) (self : Int32 → Option R_pM_look) (v_at : Int32) : Option R_pM_look :=
  if v_end ≤ v_at then
    k52 v_at
  else
    gd (ib v_at 600) <|
    if (v_tape (ix v_at)) = 10 then
      pM_look_b39 N v_end v_tape self k52 v_at
    else
      if (v_tape (ix v_at)) = 32 then
        pM_look_b39 N v_end v_tape self k52 v_at
      else
        k52 v_at
def pM_look_b0 (N : Nat) (v_end : Int32) (v_tape : (Nat → Int32)) (k52 : Int32 → Option R_pM_look) : Nat → Int32 → Option R_pM_look := zlp1 (pM_look_b0_F N v_end v_tape k52)
def pM_look_b52 (N : Nat) (v_end : Int32) (v_tape : (Nat → Int32)) (v_at : Int32) : Option R_pM_look :=
  if v_end ≤ v_at then
    some ((-1), v_at)
  else
    gd (ib v_at 600) <|
    some ((v_tape (ix v_at)), v_at)
def pM_look (N : Nat) (v_at : Int32) (v_end : Int32) (v_tape : (Nat → Int32)) : Option R_pM_look :=
  pM_look_b0 N v_end v_tape (pM_look_b52 N v_end v_tape) N v_at
abbrev R_pM_isHere : Type := Int32 × Int32
def pM_isHere_b35_F (N : Nat) (n_a1 : Nat) (v_a1 : (Nat → Int32)) (v_bad : Int32) (v_end : Int32) (v_ended : Int32) (v_tape : (Nat → Int32)) (v_at : Int32) (k61 : Int32 → Option R_pM_isHere) (self : Int32 → Option R_pM_isHere) (x2 : Int32) : Option R_pM_isHere :=
  if v_end ≤ x2 then
    k61 x2
  else
    gd (ib x2 600) <|
    bd1 (pM_isLetter (v_tape (ix x2))) fun rc4 =>
    if rc4 = 0 then
      k61 x2
    else
      self (x2 + 1)
def pM_isHere_b35 (N : Nat) (n_a1 : Nat) (v_a1 : (Nat → Int32)) (v_bad : Int32) (v_end : Int32) (v_ended : Int32) (v_tape : (Nat → Int32)) (v_at : Int32) (k61 : Int32 → Option R_pM_isHere) : Nat → Int32 → Option R_pM_isHere := zlp1 (pM_isHere_b35_F N n_a1 v_a1 v_bad v_end v_ended v_tape v_at k61)
def pM_isHere_b76_F (N : Nat) (n_a1 : Nat) (v_a1 : (Nat → Int32)) (v_bad : Int32) (v_end : Int32) (v_ended : Int32) (v_tape : (Nat → Int32)) (v_at : Int32) (self : Int32 → Option R_pM_isHere) (x3 : Int32) : Option R_pM_isHere :=
  if (Int32.ofNat n_a1) ≤ x3 then
    some (1, v_at)
  else
    gd (ib (v_at + x3) 600) <|
    gd (ib x3 n_a1) <|
    if (v_tape (ix (v_at + x3))) = (v_a1 (ix x3)) then
      self (x3 + 1)
    else
      some (0, v_at)
def pM_isHere_b76 (N : Nat) (n_a1 : Nat) (v_a1 : (Nat → Int32)) (v_bad : Int32) (v_end : Int32) (v_ended : Int32) (v_tape : (Nat → Int32)) (v_at : Int32) : Nat → Int32 → Option R_pM_isHere := zlp1 (pM_isHere_b76_F N n_a1 v_a1 v_bad v_end v_ended v_tape v_at)
def pM_isHere_b61 (N : Nat) (n_a1 : Nat) (v_a1 : (Nat → Int32)) (v_bad : Int32) (v_end : Int32) (v_ended : Int32) (v_tape : (Nat → Int32)) (x2 : Int32) (v_at : Int32) : Option R_pM_isHere :=
  if (x2 - v_at) = (Int32.ofNat n_a1) then
    pM_isHere_b76 N n_a1 v_a1 v_bad v_end v_ended v_tape v_at N 0
  else
    some (0, v_at)
def pM_isHere (N : Nat) (n_a1 : Nat) (v_a1 : (Nat → Int32)) (v_at : Int32) (v_bad : Int32) (v_end : Int32) (v_ended : Int32) (v_tape : (Nat → Int32)) : Option R_pM_isHere :=
  if v_bad = 0 then
    bd2 (pM_look N v_at v_end v_tape) fun rc1 v_at_c1 =>
    bd1 (pM_isLetter rc1) fun rc2 =>
    if rc2 = 0 then
      some (0, v_at_c1)
    else
      if v_at_c1 = v_ended then
        some (0, v_at_c1)
      else
        pM_isHere_b35 N n_a1 v_a1 v_bad v_end v_ended v_tape v_at_c1 (fun x2_k1 => pM_isHere_b61 N n_a1 v_a1 v_bad v_end v_ended v_tape x2_k1 v_at_c1) N v_at_c1
  else
    some (0, v_at)
abbrev R_pM_takes : Type := Int32 × Int32 × Int32
def pM_takes (N : Nat) (n_a1 : Nat) (v_a1 : (Nat → Int32)) (v_at : Int32) (v_bad : Int32) (v_end : Int32) (v_ended : Int32) (v_tape : (Nat → Int32)) : Option R_pM_takes :=
  bd2 (pM_isHere N n_a1 v_a1 v_at v_bad v_end v_ended v_tape) fun rc1 v_at_c1 =>
  if rc1 = 0 then
    some (0, v_at_c1, v_ended)
  else
    some (1, (v_at_c1 + (Int32.ofNat n_a1)), (v_at_c1 + (Int32.ofNat n_a1)))
abbrev R_pM_asks : Type := Int32 × Int32 × Int32 × Int32
def pM_asks (N : Nat) (n_a1 : Nat) (v_a1 : (Nat → Int32)) (v_at : Int32) (v_bad : Int32) (v_badPlace : Int32) (v_end : Int32) (v_ended : Int32) (v_tape : (Nat → Int32)) : Option R_pM_asks :=
  if v_bad = 0 then
    bd3 (pM_takes N n_a1 v_a1 v_at v_bad v_end v_ended v_tape) fun rc1 v_at_c1 v_ended_c1 =>
    if rc1 = 0 then
      bd2 (pM_fail 1 v_at_c1 v_bad v_badPlace) fun v_bad_c2 v_badPlace_c2 =>
      some (v_at_c1, v_bad_c2, v_badPlace_c2, v_ended_c1)
    else
      some (v_at_c1, v_bad, v_badPlace, v_ended_c1)
  else
    some (v_at, v_bad, v_badPlace, v_ended)
abbrev R_pM_takesSign : Type := Int32 × Int32
def pM_takesSign (N : Nat) (a1 : Int32) (v_at : Int32) (v_bad : Int32) (v_end : Int32) (v_tape : (Nat → Int32)) : Option R_pM_takesSign :=
  if v_bad = 0 then
    bd2 (pM_look N v_at v_end v_tape) fun rc1 v_at_c1 =>
    if rc1 = a1 then
      some (1, (v_at_c1 + 1))
    else
      some (0, v_at_c1)
  else
    some (0, v_at)
abbrev R_pM_asksSign : Type := Int32 × Int32 × Int32
def pM_asksSign (N : Nat) (a1 : Int32) (v_at : Int32) (v_bad : Int32) (v_badPlace : Int32) (v_end : Int32) (v_tape : (Nat → Int32)) : Option R_pM_asksSign :=
  if v_bad = 0 then
    bd2 (pM_takesSign N a1 v_at v_bad v_end v_tape) fun rc1 v_at_c1 =>
    if rc1 = 0 then
      bd2 (pM_fail 1 v_at_c1 v_bad v_badPlace) fun v_bad_c2 v_badPlace_c2 =>
      some (v_at_c1, v_bad_c2, v_badPlace_c2)
    else
      some (v_at_c1, v_bad, v_badPlace)
  else
    some (v_at, v_bad, v_badPlace)
abbrev R_pM_number : Type := Int32 × Int32 × Int32 × Int32 × Int32
def pM_number_b30 (N : Nat) (a1 : Int32) (a2 : Int32) (v_end : Int32) (v_tape : (Nat → Int32)) (v_at : Int32) (v_bad : Int32) (v_badPlace : Int32) (v_ended : Int32) : Option R_pM_number :=
  bd2 (pM_fail 1 v_at v_bad v_badPlace) fun v_bad_c3 v_badPlace_c3 =>
  some (0, v_at, v_bad_c3, v_badPlace_c3, v_ended)
def pM_number_b49_F (N : Nat) (a1 : Int32) (a2 : Int32) (v_end : Int32) (v_tape : (Nat → Int32)) (x3 : Int32) (v_bad : Int32) (v_badPlace : Int32) (v_ended : Int32) (k85 : Int32 → Option R_pM_number) (k129 : Int32 → Int32 → Option R_pM_number) (self : Int32 → Int32 → Option R_pM_number) (x4 : Int32) (v_at : Int32) : Option R_pM_number :=
  if v_end ≤ v_at then
    k129 x4 v_at
  else
    gd (ib v_at 600) <|
    bd1 (pM_isDigit (v_tape (ix v_at))) fun rc5 =>
    if rc5 = 0 then
      k129 x4 v_at
    else
      if (v_at - x3) = 5 then
        k85 v_at
      else
        self (((10 * x4) + (v_tape (ix v_at))) - 48) (v_at + 1)
def pM_number_b49 (N : Nat) (a1 : Int32) (a2 : Int32) (v_end : Int32) (v_tape : (Nat → Int32)) (x3 : Int32) (v_bad : Int32) (v_badPlace : Int32) (v_ended : Int32) (k85 : Int32 → Option R_pM_number) (k129 : Int32 → Int32 → Option R_pM_number) : Nat → Int32 → Int32 → Option R_pM_number := zlp2 (pM_number_b49_F N a1 a2 v_end v_tape x3 v_bad v_badPlace v_ended k85 k129)
def pM_number_b85 (N : Nat) (a1 : Int32) (a2 : Int32) (v_end : Int32) (v_tape : (Nat → Int32)) (v_at : Int32) (v_bad : Int32) (v_badPlace : Int32) (v_ended : Int32) : Option R_pM_number :=
  bd2 (pM_fail 1 v_at v_bad v_badPlace) fun v_bad_c8 v_badPlace_c8 =>
  some (0, v_at, v_bad_c8, v_badPlace_c8, v_ended)
def pM_number_b129 (N : Nat) (a1 : Int32) (a2 : Int32) (v_end : Int32) (v_tape : (Nat → Int32)) (x3 : Int32) (x4 : Int32) (v_at : Int32) (v_bad : Int32) (v_badPlace : Int32) (v_ended : Int32) : Option R_pM_number :=
  bd1 (pM_isIn (i2l x4) (i2l a1) (i2l a2)) fun rc6 =>
  if rc6 = 0 then
    bd2 (pM_fail 2 x3 v_bad v_badPlace) fun v_bad_c7 v_badPlace_c7 =>
    some (x4, v_at, v_bad_c7, v_badPlace_c7, v_at)
  else
    some (x4, v_at, v_bad, v_badPlace, v_at)
def pM_number (N : Nat) (a1 : Int32) (a2 : Int32) (v_at : Int32) (v_bad : Int32) (v_badPlace : Int32) (v_end : Int32) (v_ended : Int32) (v_tape : (Nat → Int32)) : Option R_pM_number :=
  if v_bad = 0 then
    bd2 (pM_look N v_at v_end v_tape) fun rc1 v_at_c1 =>
    bd1 (pM_isDigit rc1) fun rc2 =>
    if rc2 = 0 then
      pM_number_b30 N a1 a2 v_end v_tape v_at_c1 v_bad v_badPlace v_ended
    else
      if v_at_c1 = v_ended then
        pM_number_b30 N a1 a2 v_end v_tape v_at_c1 v_bad v_badPlace v_ended
      else
        pM_number_b49 N a1 a2 v_end v_tape v_at_c1 v_bad v_badPlace v_ended (fun v_at_k1 => pM_number_b85 N a1 a2 v_end v_tape v_at_k1 v_bad v_badPlace v_ended) (fun x4_k2 v_at_k3 => pM_number_b129 N a1 a2 v_end v_tape v_at_c1 x4_k2 v_at_k3 v_bad v_badPlace v_ended) N 0 v_at_c1
  else
    some (0, v_at, v_bad, v_badPlace, v_ended)
abbrev R_pM_code : Type := Int32 × (Nat → Int32)
def pM_code (a1 : Int32) (v_coded : Int32) (v_codes : (Nat → Int32)) : Option R_pM_code :=
  gd (ib (0 + v_coded) 128640) <|
  some ((v_coded + 1), (upd v_codes (ix (0 + v_coded)) a1))
abbrev R_pM_opens : Type := Int32 × Int32 × Int32 × Int32 × (Nat → Int32)
def pM_opens (a1 : Int32) (a2 : Int32) (v_bad : Int32) (v_badPlace : Int32) (v_open : Int32) (v_waits : Int32) (v_wait : (Nat → Int32)) : Option R_pM_opens :=
  if v_open = 6 then
    bd2 (pM_fail 3 a2 v_bad v_badPlace) fun v_bad_c2 v_badPlace_c2 =>
    some (v_bad_c2, v_badPlace_c2, v_open, v_waits, v_wait)
  else
    gd (ib v_waits 700) <|
    some (v_bad, v_badPlace, (v_open + 1), (v_waits + 1), (upd v_wait (ix v_waits) a1))
abbrev R_pM_isOn : Type := Int32
def pM_isOn (a1 : Int32) (v_waits : Int32) (v_wait : (Nat → Int32)) : Option R_pM_isOn :=
  if v_waits ≤ 0 then
    some 0
  else
    gd (ib (v_waits - 1) 700) <|
    if (v_wait (ix (v_waits - 1))) = a1 then
      some 1
    else
      some 0
abbrev R_pM_drops : Type := Int32 × Int32 × (Nat → Int32)
def pM_drops (v_coded : Int32) (v_waits : Int32) (v_codes : (Nat → Int32)) (v_wait : (Nat → Int32)) : Option R_pM_drops :=
  gd (ib (v_waits - 1) 700) <|
  bd2 (pM_code (v_wait (ix (v_waits - 1))) v_coded v_codes) fun v_coded_c2 v_codes_c2 =>
  some (v_coded_c2, (v_waits - 1), v_codes_c2)
abbrev R_pM_isMark : Type := Int32
def pM_isMark (a1 : Int32) : Option R_pM_isMark :=
  if a1 < 20 then
    some 0
  else
    if 24 < a1 then
      some 0
    else
      some 1
abbrev R_pM_mark : Type := Int32
def pM_mark_b7_F (N : Nat) (v_base : Int32) (v_waits : Int32) (v_wait : (Nat → Int32)) (k34 : Int32 → Option R_pM_mark) (self : Int32 → Option R_pM_mark) (x1 : Int32) : Option R_pM_mark :=
  if x1 < v_base then
    k34 x1
  else
    gd (ib x1 700) <|
    bd1 (pM_isMark (v_wait (ix x1))) fun rc2 =>
    if rc2 = 0 then
      self (x1 + (-1))
    else
      k34 x1
def pM_mark_b7 (N : Nat) (v_base : Int32) (v_waits : Int32) (v_wait : (Nat → Int32)) (k34 : Int32 → Option R_pM_mark) : Nat → Int32 → Option R_pM_mark := zlp1 (pM_mark_b7_F N v_base v_waits v_wait k34)
def pM_mark_b34 (N : Nat) (v_base : Int32) (v_waits : Int32) (v_wait : (Nat → Int32)) (x1 : Int32) : Option R_pM_mark :=
  if x1 < v_base then
    some (-1)
  else
    gd (ib x1 700) <|
    some (v_wait (ix x1))
def pM_mark (N : Nat) (v_base : Int32) (v_waits : Int32) (v_wait : (Nat → Int32)) : Option R_pM_mark :=
  pM_mark_b7 N v_base v_waits v_wait (pM_mark_b34 N v_base v_waits v_wait) N (v_waits - 1)
abbrev R_pM_dropsToMark : Type := Int32 × Int32 × (Nat → Int32)
def pM_dropsToMark_b0_F (N : Nat) (v_base : Int32) (v_wait : (Nat → Int32)) (self : Int32 → Int32 → (Nat → Int32) → Option R_pM_dropsToMark) (v_coded : Int32) (v_waits : Int32) (v_codes : (Nat → Int32)) : Option R_pM_dropsToMark :=
  if v_waits ≤ v_base then
    some (v_coded, v_waits, v_codes)
  else
    gd (ib (v_waits - 1) 700) <|
    bd1 (pM_isMark (v_wait (ix (v_waits - 1)))) fun rc2 =>
    if rc2 = 0 then
      bd3 (pM_drops v_coded v_waits v_codes v_wait) fun v_coded_c3 v_waits_c3 v_codes_c3 =>
      self v_coded_c3 v_waits_c3 v_codes_c3
    else
      some (v_coded, v_waits, v_codes)
def pM_dropsToMark_b0 (N : Nat) (v_base : Int32) (v_wait : (Nat → Int32)) : Nat → Int32 → Int32 → (Nat → Int32) → Option R_pM_dropsToMark := zlp3 (pM_dropsToMark_b0_F N v_base v_wait)
def pM_dropsToMark (N : Nat) (v_base : Int32) (v_coded : Int32) (v_waits : Int32) (v_codes : (Nat → Int32)) (v_wait : (Nat → Int32)) : Option R_pM_dropsToMark :=
  pM_dropsToMark_b0 N v_base v_wait N v_coded v_waits v_codes
abbrev R_pM_numberPart : Type := Int32 × Int32 × Int32 × Int32 × Int32 × (Nat → Int32)
def pM_numberPart_b66 (N : Nat) (v_end : Int32) (v_penceWord : (Nat → Int32)) (v_poundsWord : (Nat → Int32)) (v_shillingsWord : (Nat → Int32)) (v_tape : (Nat → Int32)) (x1 : Int32) (s0 : Int32) (v_at : Int32) (v_bad : Int32) (v_badPlace : Int32) (v_coded : Int32) (v_ended : Int32) (v_codes : (Nat → Int32)) : Option R_pM_numberPart :=
  bd2 (pM_code (1000 + (x1 * s0)) v_coded v_codes) fun v_coded_c5 v_codes_c5 =>
  some (v_at, v_bad, v_badPlace, v_coded_c5, v_ended, v_codes_c5)
def pM_numberPart (N : Nat) (v_at : Int32) (v_bad : Int32) (v_badPlace : Int32) (v_coded : Int32) (v_end : Int32) (v_ended : Int32) (v_codes : (Nat → Int32)) (v_penceWord : (Nat → Int32)) (v_poundsWord : (Nat → Int32)) (v_shillingsWord : (Nat → Int32)) (v_tape : (Nat → Int32)) : Option R_pM_numberPart :=
  bd5 (pM_number N 0 99999 v_at v_bad v_badPlace v_end v_ended v_tape) fun rc1 v_at_c1 v_bad_c1 v_badPlace_c1 v_ended_c1 =>
  if v_bad_c1 = 0 then
    bd3 (pM_takes N 5 v_penceWord v_at_c1 v_bad_c1 v_end v_ended_c1 v_tape) fun rc2 v_at_c2 v_ended_c2 =>
    if rc2 = 0 then
      bd3 (pM_takes N 9 v_shillingsWord v_at_c2 v_bad_c1 v_end v_ended_c2 v_tape) fun rc3 v_at_c3 v_ended_c3 =>
      if rc3 = 0 then
        bd3 (pM_takes N 6 v_poundsWord v_at_c3 v_bad_c1 v_end v_ended_c3 v_tape) fun rc4 v_at_c4 v_ended_c4 =>
        if rc4 = 0 then
          pM_numberPart_b66 N v_end v_penceWord v_poundsWord v_shillingsWord v_tape rc1 1 v_at_c4 v_bad_c1 v_badPlace_c1 v_coded v_ended_c4 v_codes
        else
          pM_numberPart_b66 N v_end v_penceWord v_poundsWord v_shillingsWord v_tape rc1 240 v_at_c4 v_bad_c1 v_badPlace_c1 v_coded v_ended_c4 v_codes
      else
        pM_numberPart_b66 N v_end v_penceWord v_poundsWord v_shillingsWord v_tape rc1 12 v_at_c3 v_bad_c1 v_badPlace_c1 v_coded v_ended_c3 v_codes
    else
      pM_numberPart_b66 N v_end v_penceWord v_poundsWord v_shillingsWord v_tape rc1 1 v_at_c2 v_bad_c1 v_badPlace_c1 v_coded v_ended_c2 v_codes
  else
    some (v_at_c1, v_bad_c1, v_badPlace_c1, v_coded, v_ended_c1, v_codes)
abbrev R_pM_part : Type := Int32 × Int32 × Int32 × Int32 × Int32 × Int32 × Int32 × (Nat → Int32) × (Nat → Int32)
def pM_part_b132 (N : Nat) (v_end : Int32) (v_debtWord : (Nat → Int32)) (v_maxWord : (Nat → Int32)) (v_minWord : (Nat → Int32)) (v_paidWord : (Nat → Int32)) (v_penceWord : (Nat → Int32)) (v_poundsWord : (Nat → Int32)) (v_shillingsWord : (Nat → Int32)) (v_tape : (Nat → Int32)) (v_termWord : (Nat → Int32)) (v_yearWord : (Nat → Int32)) (self : Int32 → Int32 → Int32 → Int32 → Int32 → Int32 → Int32 → (Nat → Int32) → Option R_pM_part) (k146 : Int32 → Int32 → Int32 → Int32 → Int32 → Int32 → (Nat → Int32) → Option R_pM_part) (x1 : Int32) (v_at : Int32) (v_bad : Int32) (v_badPlace : Int32) (v_coded : Int32) (v_ended : Int32) (v_open : Int32) (v_waits : Int32) (v_codes : (Nat → Int32)) (v_wait : (Nat → Int32)) : Option R_pM_part :=
  bd3 (pM_asksSign N 40 v_at v_bad v_badPlace v_end v_tape) fun v_at_c17 v_bad_c17 v_badPlace_c17 =>
  self x1 v_at_c17 v_bad_c17 v_badPlace_c17 v_ended v_open v_waits v_wait
def pM_part_b127 (N : Nat) (v_end : Int32) (v_debtWord : (Nat → Int32)) (v_maxWord : (Nat → Int32)) (v_minWord : (Nat → Int32)) (v_paidWord : (Nat → Int32)) (v_penceWord : (Nat → Int32)) (v_poundsWord : (Nat → Int32)) (v_shillingsWord : (Nat → Int32)) (v_tape : (Nat → Int32)) (v_termWord : (Nat → Int32)) (v_yearWord : (Nat → Int32)) (self : Int32 → Int32 → Int32 → Int32 → Int32 → Int32 → Int32 → (Nat → Int32) → Option R_pM_part) (k146 : Int32 → Int32 → Int32 → Int32 → Int32 → Int32 → (Nat → Int32) → Option R_pM_part) (x1 : Int32) (x4 : Int32) (s1 : Int32) (v_at : Int32) (v_bad : Int32) (v_badPlace : Int32) (v_coded : Int32) (v_ended : Int32) (v_open : Int32) (v_waits : Int32) (v_codes : (Nat → Int32)) (v_wait : (Nat → Int32)) : Option R_pM_part :=
  bd5 (pM_opens s1 x4 v_bad v_badPlace v_open v_waits v_wait) fun v_bad_c18 v_badPlace_c18 v_open_c18 v_waits_c18 v_wait_c18 =>
  pM_part_b132 N v_end v_debtWord v_maxWord v_minWord v_paidWord v_penceWord v_poundsWord v_shillingsWord v_tape v_termWord v_yearWord self k146 x1 v_at v_bad_c18 v_badPlace_c18 v_coded v_ended v_open_c18 v_waits_c18 v_codes v_wait_c18
def pM_part_b107 (N : Nat) (v_end : Int32) (v_debtWord : (Nat → Int32)) (v_maxWord : (Nat → Int32)) (v_minWord : (Nat → Int32)) (v_paidWord : (Nat → Int32)) (v_penceWord : (Nat → Int32)) (v_poundsWord : (Nat → Int32)) (v_shillingsWord : (Nat → Int32)) (v_tape : (Nat → Int32)) (v_termWord : (Nat → Int32)) (v_yearWord : (Nat → Int32)) (self : Int32 → Int32 → Int32 → Int32 → Int32 → Int32 → Int32 → (Nat → Int32) → Option R_pM_part) (k146 : Int32 → Int32 → Int32 → Int32 → Int32 → Int32 → (Nat → Int32) → Option R_pM_part) (x1 : Int32) (x3 : Int32) (s0 : Int32) (v_at : Int32) (v_bad : Int32) (v_badPlace : Int32) (v_coded : Int32) (v_ended : Int32) (v_open : Int32) (v_waits : Int32) (v_codes : (Nat → Int32)) (v_wait : (Nat → Int32)) : Option R_pM_part :=
  if s0 = (-1) then
    pM_part_b132 N v_end v_debtWord v_maxWord v_minWord v_paidWord v_penceWord v_poundsWord v_shillingsWord v_tape v_termWord v_yearWord self k146 x1 v_at v_bad v_badPlace v_coded v_ended v_open v_waits v_codes v_wait
  else
    if x3 = 0 then
      pM_part_b127 N v_end v_debtWord v_maxWord v_minWord v_paidWord v_penceWord v_poundsWord v_shillingsWord v_tape v_termWord v_yearWord self k146 x1 s0 22 v_at v_bad v_badPlace v_coded v_ended v_open v_waits v_codes v_wait
    else
      pM_part_b127 N v_end v_debtWord v_maxWord v_minWord v_paidWord v_penceWord v_poundsWord v_shillingsWord v_tape v_termWord v_yearWord self k146 x1 s0 21 v_at v_bad v_badPlace v_coded v_ended v_open v_waits v_codes v_wait
def pM_part_b90 (N : Nat) (v_end : Int32) (v_debtWord : (Nat → Int32)) (v_maxWord : (Nat → Int32)) (v_minWord : (Nat → Int32)) (v_paidWord : (Nat → Int32)) (v_penceWord : (Nat → Int32)) (v_poundsWord : (Nat → Int32)) (v_shillingsWord : (Nat → Int32)) (v_tape : (Nat → Int32)) (v_termWord : (Nat → Int32)) (v_yearWord : (Nat → Int32)) (self : Int32 → Int32 → Int32 → Int32 → Int32 → Int32 → Int32 → (Nat → Int32) → Option R_pM_part) (k146 : Int32 → Int32 → Int32 → Int32 → Int32 → Int32 → (Nat → Int32) → Option R_pM_part) (x1 : Int32) (x3 : Int32) (v_at : Int32) (v_bad : Int32) (v_badPlace : Int32) (v_coded : Int32) (v_ended : Int32) (v_open : Int32) (v_waits : Int32) (v_codes : (Nat → Int32)) (v_wait : (Nat → Int32)) : Option R_pM_part :=
  bd2 (pM_look N v_at v_end v_tape) fun rc16 v_at_c16 =>
  if rc16 = 40 then
    pM_part_b107 N v_end v_debtWord v_maxWord v_minWord v_paidWord v_penceWord v_poundsWord v_shillingsWord v_tape v_termWord v_yearWord self k146 x1 x3 v_at_c16 v_at_c16 v_bad v_badPlace v_coded v_ended v_open v_waits v_codes v_wait
  else
    pM_part_b107 N v_end v_debtWord v_maxWord v_minWord v_paidWord v_penceWord v_poundsWord v_shillingsWord v_tape v_termWord v_yearWord self k146 x1 x3 (-1) v_at_c16 v_bad v_badPlace v_coded v_ended v_open v_waits v_codes v_wait
def pM_part_b69 (N : Nat) (v_end : Int32) (v_debtWord : (Nat → Int32)) (v_maxWord : (Nat → Int32)) (v_minWord : (Nat → Int32)) (v_paidWord : (Nat → Int32)) (v_penceWord : (Nat → Int32)) (v_poundsWord : (Nat → Int32)) (v_shillingsWord : (Nat → Int32)) (v_tape : (Nat → Int32)) (v_termWord : (Nat → Int32)) (v_yearWord : (Nat → Int32)) (self : Int32 → Int32 → Int32 → Int32 → Int32 → Int32 → Int32 → (Nat → Int32) → Option R_pM_part) (k146 : Int32 → Int32 → Int32 → Int32 → Int32 → Int32 → (Nat → Int32) → Option R_pM_part) (x1 : Int32) (v_at : Int32) (v_bad : Int32) (v_badPlace : Int32) (v_coded : Int32) (v_ended : Int32) (v_open : Int32) (v_waits : Int32) (v_codes : (Nat → Int32)) (v_wait : (Nat → Int32)) : Option R_pM_part :=
  bd3 (pM_takes N 3 v_minWord v_at v_bad v_end v_ended v_tape) fun rc14 v_at_c14 v_ended_c14 =>
  if rc14 = 0 then
    bd4 (pM_asks N 3 v_maxWord v_at_c14 v_bad v_badPlace v_end v_ended_c14 v_tape) fun v_at_c15 v_bad_c15 v_badPlace_c15 v_ended_c15 =>
    pM_part_b90 N v_end v_debtWord v_maxWord v_minWord v_paidWord v_penceWord v_poundsWord v_shillingsWord v_tape v_termWord v_yearWord self k146 x1 rc14 v_at_c15 v_bad_c15 v_badPlace_c15 v_coded v_ended_c15 v_open v_waits v_codes v_wait
  else
    pM_part_b90 N v_end v_debtWord v_maxWord v_minWord v_paidWord v_penceWord v_poundsWord v_shillingsWord v_tape v_termWord v_yearWord self k146 x1 rc14 v_at_c14 v_bad v_badPlace v_coded v_ended_c14 v_open v_waits v_codes v_wait
def pM_part_b2_F (N : Nat) (v_end : Int32) (v_debtWord : (Nat → Int32)) (v_maxWord : (Nat → Int32)) (v_minWord : (Nat → Int32)) (v_paidWord : (Nat → Int32)) (v_penceWord : (Nat → Int32)) (v_poundsWord : (Nat → Int32)) (v_shillingsWord : (Nat → Int32)) (v_tape : (Nat → Int32)) (v_termWord : (Nat → Int32)) (v_yearWord : (Nat → Int32)) (v_coded : Int32) (v_codes : (Nat → Int32)) (k146 : Int32 → Int32 → Int32 → Int32 → Int32 → Int32 → (Nat → Int32) → Option R_pM_part) (self : Int32 → Int32 → Int32 → Int32 → Int32 → Int32 → Int32 → (Nat → Int32) → Option R_pM_part) (x1 : Int32) (v_at : Int32) (v_bad : Int32) (v_badPlace : Int32) (v_ended : Int32) (v_open : Int32) (v_waits : Int32) (v_wait : (Nat → Int32)) : Option R_pM_part :=
  if x1 = 0 then
    k146 v_at v_bad v_badPlace v_ended v_open v_waits v_wait
  else
    if v_bad = 0 then
      bd2 (pM_look N v_at v_end v_tape) fun rc1 v_at_c1 =>
      if rc1 = 40 then
        bd5 (pM_opens 20 v_at_c1 v_bad v_badPlace v_open v_waits v_wait) fun v_bad_c4 v_badPlace_c4 v_open_c4 v_waits_c4 v_wait_c4 =>
        self x1 (v_at_c1 + 1) v_bad_c4 v_badPlace_c4 v_ended v_open_c4 v_waits_c4 v_wait_c4
      else
        bd2 (pM_isHere N 3 v_minWord v_at_c1 v_bad v_end v_ended v_tape) fun rc2 v_at_c2 =>
        if rc2 = 0 then
          bd2 (pM_isHere N 3 v_maxWord v_at_c2 v_bad v_end v_ended v_tape) fun rc3 v_at_c3 =>
          if rc3 = 0 then
            self 0 v_at_c3 v_bad v_badPlace v_ended v_open v_waits v_wait
          else
            pM_part_b69 N v_end v_debtWord v_maxWord v_minWord v_paidWord v_penceWord v_poundsWord v_shillingsWord v_tape v_termWord v_yearWord self k146 x1 v_at_c3 v_bad v_badPlace v_coded v_ended v_open v_waits v_codes v_wait
        else
          pM_part_b69 N v_end v_debtWord v_maxWord v_minWord v_paidWord v_penceWord v_poundsWord v_shillingsWord v_tape v_termWord v_yearWord self k146 x1 v_at_c2 v_bad v_badPlace v_coded v_ended v_open v_waits v_codes v_wait
    else
      k146 v_at v_bad v_badPlace v_ended v_open v_waits v_wait
def pM_part_b2 (N : Nat) (v_end : Int32) (v_debtWord : (Nat → Int32)) (v_maxWord : (Nat → Int32)) (v_minWord : (Nat → Int32)) (v_paidWord : (Nat → Int32)) (v_penceWord : (Nat → Int32)) (v_poundsWord : (Nat → Int32)) (v_shillingsWord : (Nat → Int32)) (v_tape : (Nat → Int32)) (v_termWord : (Nat → Int32)) (v_yearWord : (Nat → Int32)) (v_coded : Int32) (v_codes : (Nat → Int32)) (k146 : Int32 → Int32 → Int32 → Int32 → Int32 → Int32 → (Nat → Int32) → Option R_pM_part) : Nat → Int32 → Int32 → Int32 → Int32 → Int32 → Int32 → Int32 → (Nat → Int32) → Option R_pM_part := zlp8 (pM_part_b2_F N v_end v_debtWord v_maxWord v_minWord v_paidWord v_penceWord v_poundsWord v_shillingsWord v_tape v_termWord v_yearWord v_coded v_codes k146)
def pM_part_b146 (N : Nat) (v_end : Int32) (v_debtWord : (Nat → Int32)) (v_maxWord : (Nat → Int32)) (v_minWord : (Nat → Int32)) (v_paidWord : (Nat → Int32)) (v_penceWord : (Nat → Int32)) (v_poundsWord : (Nat → Int32)) (v_shillingsWord : (Nat → Int32)) (v_tape : (Nat → Int32)) (v_termWord : (Nat → Int32)) (v_yearWord : (Nat → Int32)) (v_at : Int32) (v_bad : Int32) (v_badPlace : Int32) (v_coded : Int32) (v_ended : Int32) (v_open : Int32) (v_waits : Int32) (v_codes : (Nat → Int32)) (v_wait : (Nat → Int32)) : Option R_pM_part :=
  if v_bad = 0 then
    bd3 (pM_takes N 4 v_termWord v_at v_bad v_end v_ended v_tape) fun rc5 v_at_c5 v_ended_c5 =>
    if rc5 = 0 then
      bd3 (pM_takes N 4 v_yearWord v_at_c5 v_bad v_end v_ended_c5 v_tape) fun rc6 v_at_c6 v_ended_c6 =>
      if rc6 = 0 then
        bd3 (pM_takes N 4 v_debtWord v_at_c6 v_bad v_end v_ended_c6 v_tape) fun rc7 v_at_c7 v_ended_c7 =>
        if rc7 = 0 then
          bd3 (pM_takes N 4 v_paidWord v_at_c7 v_bad v_end v_ended_c7 v_tape) fun rc8 v_at_c8 v_ended_c8 =>
          if rc8 = 0 then
            bd6 (pM_numberPart N v_at_c8 v_bad v_badPlace v_coded v_end v_ended_c8 v_codes v_penceWord v_poundsWord v_shillingsWord v_tape) fun v_at_c9 v_bad_c9 v_badPlace_c9 v_coded_c9 v_ended_c9 v_codes_c9 =>
            some (v_at_c9, v_bad_c9, v_badPlace_c9, v_coded_c9, v_ended_c9, v_open, v_waits, v_codes_c9, v_wait)
          else
            bd2 (pM_code 10 v_coded v_codes) fun v_coded_c10 v_codes_c10 =>
            some (v_at_c8, v_bad, v_badPlace, v_coded_c10, v_ended_c8, v_open, v_waits, v_codes_c10, v_wait)
        else
          bd2 (pM_code 9 v_coded v_codes) fun v_coded_c11 v_codes_c11 =>
          some (v_at_c7, v_bad, v_badPlace, v_coded_c11, v_ended_c7, v_open, v_waits, v_codes_c11, v_wait)
      else
        bd2 (pM_code 8 v_coded v_codes) fun v_coded_c12 v_codes_c12 =>
        some (v_at_c6, v_bad, v_badPlace, v_coded_c12, v_ended_c6, v_open, v_waits, v_codes_c12, v_wait)
    else
      bd2 (pM_code 7 v_coded v_codes) fun v_coded_c13 v_codes_c13 =>
      some (v_at_c5, v_bad, v_badPlace, v_coded_c13, v_ended_c5, v_open, v_waits, v_codes_c13, v_wait)
  else
    some (v_at, v_bad, v_badPlace, v_coded, v_ended, v_open, v_waits, v_codes, v_wait)
def pM_part (N : Nat) (v_at : Int32) (v_bad : Int32) (v_badPlace : Int32) (v_coded : Int32) (v_end : Int32) (v_ended : Int32) (v_open : Int32) (v_waits : Int32) (v_codes : (Nat → Int32)) (v_debtWord : (Nat → Int32)) (v_maxWord : (Nat → Int32)) (v_minWord : (Nat → Int32)) (v_paidWord : (Nat → Int32)) (v_penceWord : (Nat → Int32)) (v_poundsWord : (Nat → Int32)) (v_shillingsWord : (Nat → Int32)) (v_tape : (Nat → Int32)) (v_termWord : (Nat → Int32)) (v_wait : (Nat → Int32)) (v_yearWord : (Nat → Int32)) : Option R_pM_part :=
  pM_part_b2 N v_end v_debtWord v_maxWord v_minWord v_paidWord v_penceWord v_poundsWord v_shillingsWord v_tape v_termWord v_yearWord v_coded v_codes (fun v_at_k1 v_bad_k2 v_badPlace_k3 v_ended_k4 v_open_k5 v_waits_k6 => pM_part_b146 N v_end v_debtWord v_maxWord v_minWord v_paidWord v_penceWord v_poundsWord v_shillingsWord v_tape v_termWord v_yearWord v_at_k1 v_bad_k2 v_badPlace_k3 v_coded v_ended_k4 v_open_k5 v_waits_k6 v_codes) N 1 v_at v_bad v_badPlace v_ended v_open v_waits v_wait
abbrev R_pM_goesOn : Type := Int32 × Int32 × Int32 × Int32 × Int32 × Int32 × Int32 × (Nat → Int32) × (Nat → Int32)
def pM_goesOn_b112 (N : Nat) (v_base : Int32) (v_end : Int32) (v_tape : (Nat → Int32)) (self : Int32 → Int32 → Int32 → Int32 → (Nat → Int32) → Option R_pM_goesOn) (k118 : Int32 → Int32 → Int32 → Int32 → (Nat → Int32) → Option R_pM_goesOn) (s1 : Int32) (v_at : Int32) (v_bad : Int32) (v_badPlace : Int32) (v_coded : Int32) (v_open : Int32) (v_waits : Int32) (v_codes : (Nat → Int32)) (v_wait : (Nat → Int32)) : Option R_pM_goesOn :=
  bd2 (pM_code s1 v_coded v_codes) fun v_coded_c20 v_codes_c20 =>
  self v_at v_coded_c20 v_open v_waits v_codes_c20
def pM_goesOn_b43 (N : Nat) (v_base : Int32) (v_end : Int32) (v_tape : (Nat → Int32)) (self : Int32 → Int32 → Int32 → Int32 → (Nat → Int32) → Option R_pM_goesOn) (k118 : Int32 → Int32 → Int32 → Int32 → (Nat → Int32) → Option R_pM_goesOn) (v_at : Int32) (v_bad : Int32) (v_badPlace : Int32) (v_coded : Int32) (v_open : Int32) (v_waits : Int32) (v_codes : (Nat → Int32)) (v_wait : (Nat → Int32)) : Option R_pM_goesOn :=
  bd3 (pM_dropsToMark N v_base v_coded v_waits v_codes v_wait) fun v_coded_c13 v_waits_c13 v_codes_c13 =>
  gd (ib (v_waits_c13 - 1) 700) <|
  if (v_wait (ix (v_waits_c13 - 1))) = 20 then
    self (v_at + 1) v_coded_c13 (v_open - 1) (v_waits_c13 - 1) v_codes_c13
  else
    if (v_wait (ix (v_waits_c13 - 1))) = 23 then
      pM_goesOn_b112 N v_base v_end v_tape self k118 5 (v_at + 1) v_bad v_badPlace v_coded_c13 (v_open - 1) (v_waits_c13 - 1) v_codes_c13 v_wait
    else
      pM_goesOn_b112 N v_base v_end v_tape self k118 6 (v_at + 1) v_bad v_badPlace v_coded_c13 (v_open - 1) (v_waits_c13 - 1) v_codes_c13 v_wait
def pM_goesOn_b0_F (N : Nat) (v_base : Int32) (v_end : Int32) (v_tape : (Nat → Int32)) (v_bad : Int32) (v_badPlace : Int32) (v_wait : (Nat → Int32)) (k118 : Int32 → Int32 → Int32 → Int32 → (Nat → Int32) → Option R_pM_goesOn) (self : Int32 → Int32 → Int32 → Int32 → (Nat → Int32) → Option R_pM_goesOn) (v_at : Int32) (v_coded : Int32) (v_open : Int32) (v_waits : Int32) (v_codes : (Nat → Int32)) : Option R_pM_goesOn :=
  if v_bad = 0 then
    bd2 (pM_look N v_at v_end v_tape) fun rc1 v_at_c1 =>
    if rc1 = 41 then
      bd1 (pM_mark N v_base v_waits v_wait) fun rc2 =>
      if rc2 = 20 then
        pM_goesOn_b43 N v_base v_end v_tape self k118 v_at_c1 v_bad v_badPlace v_coded v_open v_waits v_codes v_wait
      else
        bd1 (pM_mark N v_base v_waits v_wait) fun rc3 =>
        if rc3 = 23 then
          pM_goesOn_b43 N v_base v_end v_tape self k118 v_at_c1 v_bad v_badPlace v_coded v_open v_waits v_codes v_wait
        else
          bd1 (pM_mark N v_base v_waits v_wait) fun rc4 =>
          if rc4 = 24 then
            pM_goesOn_b43 N v_base v_end v_tape self k118 v_at_c1 v_bad v_badPlace v_coded v_open v_waits v_codes v_wait
          else
            k118 v_at_c1 v_coded v_open v_waits v_codes
    else
      k118 v_at_c1 v_coded v_open v_waits v_codes
  else
    k118 v_at v_coded v_open v_waits v_codes
def pM_goesOn_b0 (N : Nat) (v_base : Int32) (v_end : Int32) (v_tape : (Nat → Int32)) (v_bad : Int32) (v_badPlace : Int32) (v_wait : (Nat → Int32)) (k118 : Int32 → Int32 → Int32 → Int32 → (Nat → Int32) → Option R_pM_goesOn) : Nat → Int32 → Int32 → Int32 → Int32 → (Nat → Int32) → Option R_pM_goesOn := zlp5 (pM_goesOn_b0_F N v_base v_end v_tape v_bad v_badPlace v_wait k118)
def pM_goesOn_b322 (N : Nat) (v_base : Int32) (v_end : Int32) (v_tape : (Nat → Int32)) (v_at : Int32) (v_bad : Int32) (v_badPlace : Int32) (v_coded : Int32) (v_open : Int32) (v_waits : Int32) (v_codes : (Nat → Int32)) (v_wait : (Nat → Int32)) : Option R_pM_goesOn :=
  bd3 (pM_asksSign N 44 v_at v_bad v_badPlace v_end v_tape) fun v_at_c17 v_bad_c17 v_badPlace_c17 =>
  if v_bad_c17 = 0 then
    bd3 (pM_dropsToMark N v_base v_coded v_waits v_codes v_wait) fun v_coded_c18 v_waits_c18 v_codes_c18 =>
    gd (ib (v_waits_c18 - 1) 700) <|
    some (1, v_at_c17, v_bad_c17, v_badPlace_c17, v_coded_c18, v_open, v_waits_c18, v_codes_c18, (upd v_wait (ix (v_waits_c18 - 1)) ((v_wait (ix (v_waits_c18 - 1))) + 2)))
  else
    some (0, v_at_c17, v_bad_c17, v_badPlace_c17, v_coded, v_open, v_waits, v_codes, v_wait)
def pM_goesOn_b275 (N : Nat) (v_base : Int32) (v_end : Int32) (v_tape : (Nat → Int32)) (self : Int32 → Int32 → (Nat → Int32) → Option R_pM_goesOn) (x1 : Int32) (v_at : Int32) (v_bad : Int32) (v_badPlace : Int32) (v_coded : Int32) (v_open : Int32) (v_waits : Int32) (v_codes : (Nat → Int32)) (v_wait : (Nat → Int32)) : Option R_pM_goesOn :=
  bd3 (pM_drops v_coded v_waits v_codes v_wait) fun v_coded_c30 v_waits_c30 v_codes_c30 =>
  self v_coded_c30 v_waits_c30 v_codes_c30
def pM_goesOn_b243_F (N : Nat) (v_base : Int32) (v_end : Int32) (v_tape : (Nat → Int32)) (x1 : Int32) (v_at : Int32) (v_bad : Int32) (v_badPlace : Int32) (v_open : Int32) (v_wait : (Nat → Int32)) (self : Int32 → Int32 → (Nat → Int32) → Option R_pM_goesOn) (v_coded : Int32) (v_waits : Int32) (v_codes : (Nat → Int32)) : Option R_pM_goesOn :=
  bd1 (pM_isOn 3 v_waits v_wait) fun rc24 =>
  if rc24 = 0 then
    bd1 (pM_isOn 4 v_waits v_wait) fun rc25 =>
    if rc25 = 0 then
      bd1 (pM_isOn 1 v_waits v_wait) fun rc26 =>
      if rc26 = 0 then
        bd1 (pM_isOn 2 v_waits v_wait) fun rc27 =>
        if rc27 = 0 then
          gd (ib v_waits 700) <|
          some (1, v_at, v_bad, v_badPlace, v_coded, v_open, (v_waits + 1), v_codes, (upd v_wait (ix v_waits) x1))
        else
          pM_goesOn_b275 N v_base v_end v_tape self x1 v_at v_bad v_badPlace v_coded v_open v_waits v_codes v_wait
      else
        pM_goesOn_b275 N v_base v_end v_tape self x1 v_at v_bad v_badPlace v_coded v_open v_waits v_codes v_wait
    else
      pM_goesOn_b275 N v_base v_end v_tape self x1 v_at v_bad v_badPlace v_coded v_open v_waits v_codes v_wait
  else
    pM_goesOn_b275 N v_base v_end v_tape self x1 v_at v_bad v_badPlace v_coded v_open v_waits v_codes v_wait
def pM_goesOn_b243 (N : Nat) (v_base : Int32) (v_end : Int32) (v_tape : (Nat → Int32)) (x1 : Int32) (v_at : Int32) (v_bad : Int32) (v_badPlace : Int32) (v_open : Int32) (v_wait : (Nat → Int32)) : Nat → Int32 → Int32 → (Nat → Int32) → Option R_pM_goesOn := zlp3 (pM_goesOn_b243_F N v_base v_end v_tape x1 v_at v_bad v_badPlace v_open v_wait)
def pM_goesOn_b221 (N : Nat) (v_base : Int32) (v_end : Int32) (v_tape : (Nat → Int32)) (v_at : Int32) (v_bad : Int32) (v_badPlace : Int32) (v_coded : Int32) (v_open : Int32) (v_waits : Int32) (v_codes : (Nat → Int32)) (v_wait : (Nat → Int32)) : Option R_pM_goesOn :=
  gd (ib (v_at - 1) 600) <|
  if (v_tape (ix (v_at - 1))) = 43 then
    pM_goesOn_b243 N v_base v_end v_tape 1 v_at v_bad v_badPlace v_open v_wait N v_coded v_waits v_codes
  else
    pM_goesOn_b243 N v_base v_end v_tape 2 v_at v_bad v_badPlace v_open v_wait N v_coded v_waits v_codes
def pM_goesOn_b174 (N : Nat) (v_base : Int32) (v_end : Int32) (v_tape : (Nat → Int32)) (self : Int32 → Int32 → (Nat → Int32) → Option R_pM_goesOn) (x1 : Int32) (v_at : Int32) (v_bad : Int32) (v_badPlace : Int32) (v_coded : Int32) (v_open : Int32) (v_waits : Int32) (v_codes : (Nat → Int32)) (v_wait : (Nat → Int32)) : Option R_pM_goesOn :=
  bd3 (pM_drops v_coded v_waits v_codes v_wait) fun v_coded_c29 v_waits_c29 v_codes_c29 =>
  self v_coded_c29 v_waits_c29 v_codes_c29
def pM_goesOn_b158_F (N : Nat) (v_base : Int32) (v_end : Int32) (v_tape : (Nat → Int32)) (x1 : Int32) (v_at : Int32) (v_bad : Int32) (v_badPlace : Int32) (v_open : Int32) (v_wait : (Nat → Int32)) (self : Int32 → Int32 → (Nat → Int32) → Option R_pM_goesOn) (v_coded : Int32) (v_waits : Int32) (v_codes : (Nat → Int32)) : Option R_pM_goesOn :=
  bd1 (pM_isOn 3 v_waits v_wait) fun rc21 =>
  if rc21 = 0 then
    bd1 (pM_isOn 4 v_waits v_wait) fun rc22 =>
    if rc22 = 0 then
      gd (ib v_waits 700) <|
      some (1, v_at, v_bad, v_badPlace, v_coded, v_open, (v_waits + 1), v_codes, (upd v_wait (ix v_waits) x1))
    else
      pM_goesOn_b174 N v_base v_end v_tape self x1 v_at v_bad v_badPlace v_coded v_open v_waits v_codes v_wait
  else
    pM_goesOn_b174 N v_base v_end v_tape self x1 v_at v_bad v_badPlace v_coded v_open v_waits v_codes v_wait
def pM_goesOn_b158 (N : Nat) (v_base : Int32) (v_end : Int32) (v_tape : (Nat → Int32)) (x1 : Int32) (v_at : Int32) (v_bad : Int32) (v_badPlace : Int32) (v_open : Int32) (v_wait : (Nat → Int32)) : Nat → Int32 → Int32 → (Nat → Int32) → Option R_pM_goesOn := zlp3 (pM_goesOn_b158_F N v_base v_end v_tape x1 v_at v_bad v_badPlace v_open v_wait)
def pM_goesOn_b136 (N : Nat) (v_base : Int32) (v_end : Int32) (v_tape : (Nat → Int32)) (v_at : Int32) (v_bad : Int32) (v_badPlace : Int32) (v_coded : Int32) (v_open : Int32) (v_waits : Int32) (v_codes : (Nat → Int32)) (v_wait : (Nat → Int32)) : Option R_pM_goesOn :=
  gd (ib (v_at - 1) 600) <|
  if (v_tape (ix (v_at - 1))) = 42 then
    pM_goesOn_b158 N v_base v_end v_tape 3 v_at v_bad v_badPlace v_open v_wait N v_coded v_waits v_codes
  else
    pM_goesOn_b158 N v_base v_end v_tape 4 v_at v_bad v_badPlace v_open v_wait N v_coded v_waits v_codes
def pM_goesOn_b118 (N : Nat) (v_base : Int32) (v_end : Int32) (v_tape : (Nat → Int32)) (v_at : Int32) (v_bad : Int32) (v_badPlace : Int32) (v_coded : Int32) (v_open : Int32) (v_waits : Int32) (v_codes : (Nat → Int32)) (v_wait : (Nat → Int32)) : Option R_pM_goesOn :=
  bd2 (pM_takesSign N 42 v_at v_bad v_end v_tape) fun rc5 v_at_c5 =>
  if rc5 = 0 then
    bd2 (pM_takesSign N 47 v_at_c5 v_bad v_end v_tape) fun rc6 v_at_c6 =>
    if rc6 = 0 then
      bd2 (pM_takesSign N 43 v_at_c6 v_bad v_end v_tape) fun rc7 v_at_c7 =>
      if rc7 = 0 then
        bd2 (pM_takesSign N 45 v_at_c7 v_bad v_end v_tape) fun rc8 v_at_c8 =>
        if rc8 = 0 then
          bd1 (pM_mark N v_base v_waits v_wait) fun rc9 =>
          if rc9 = 21 then
            pM_goesOn_b322 N v_base v_end v_tape v_at_c8 v_bad v_badPlace v_coded v_open v_waits v_codes v_wait
          else
            bd1 (pM_mark N v_base v_waits v_wait) fun rc10 =>
            if rc10 = 22 then
              pM_goesOn_b322 N v_base v_end v_tape v_at_c8 v_bad v_badPlace v_coded v_open v_waits v_codes v_wait
            else
              bd1 (pM_mark N v_base v_waits v_wait) fun rc11 =>
              if rc11 = (-1) then
                some (0, v_at_c8, v_bad, v_badPlace, v_coded, v_open, v_waits, v_codes, v_wait)
              else
                if v_bad = 0 then
                  bd2 (pM_fail 1 v_at_c8 v_bad v_badPlace) fun v_bad_c12 v_badPlace_c12 =>
                  some (0, v_at_c8, v_bad_c12, v_badPlace_c12, v_coded, v_open, v_waits, v_codes, v_wait)
                else
                  some (0, v_at_c8, v_bad, v_badPlace, v_coded, v_open, v_waits, v_codes, v_wait)
        else
          pM_goesOn_b221 N v_base v_end v_tape v_at_c8 v_bad v_badPlace v_coded v_open v_waits v_codes v_wait
      else
        pM_goesOn_b221 N v_base v_end v_tape v_at_c7 v_bad v_badPlace v_coded v_open v_waits v_codes v_wait
    else
      pM_goesOn_b136 N v_base v_end v_tape v_at_c6 v_bad v_badPlace v_coded v_open v_waits v_codes v_wait
  else
    pM_goesOn_b136 N v_base v_end v_tape v_at_c5 v_bad v_badPlace v_coded v_open v_waits v_codes v_wait
def pM_goesOn (N : Nat) (v_at : Int32) (v_bad : Int32) (v_badPlace : Int32) (v_base : Int32) (v_coded : Int32) (v_end : Int32) (v_open : Int32) (v_waits : Int32) (v_codes : (Nat → Int32)) (v_tape : (Nat → Int32)) (v_wait : (Nat → Int32)) : Option R_pM_goesOn :=
  pM_goesOn_b0 N v_base v_end v_tape v_bad v_badPlace v_wait (fun v_at_k1 v_coded_k2 v_open_k3 v_waits_k4 v_codes_k5 => pM_goesOn_b118 N v_base v_end v_tape v_at_k1 v_bad v_badPlace v_coded_k2 v_open_k3 v_waits_k4 v_codes_k5 v_wait) N v_at v_coded v_open v_waits v_codes
abbrev R_pM_sums : Type := Int32 × Int32 × Int32 × Int32 × Int32 × Int32 × Int32 × Int32 × (Nat → Int32) × (Nat → Int32)
def pM_sums_b15_F (N : Nat) (v_end : Int32) (v_debtWord : (Nat → Int32)) (v_maxWord : (Nat → Int32)) (v_minWord : (Nat → Int32)) (v_paidWord : (Nat → Int32)) (v_penceWord : (Nat → Int32)) (v_poundsWord : (Nat → Int32)) (v_shillingsWord : (Nat → Int32)) (v_tape : (Nat → Int32)) (v_termWord : (Nat → Int32)) (v_yearWord : (Nat → Int32)) (x1 : Int32) (v_base : Int32) (k53 : Int32 → Int32 → Int32 → Int32 → Int32 → Int32 → Int32 → (Nat → Int32) → (Nat → Int32) → Option R_pM_sums) (self : Int32 → Int32 → Int32 → Int32 → Int32 → Int32 → Int32 → Int32 → (Nat → Int32) → (Nat → Int32) → Option R_pM_sums) (x2 : Int32) (v_at : Int32) (v_bad : Int32) (v_badPlace : Int32) (v_coded : Int32) (v_ended : Int32) (v_open : Int32) (v_waits : Int32) (v_codes : (Nat → Int32)) (v_wait : (Nat → Int32)) : Option R_pM_sums :=
  if x2 = 0 then
    k53 v_at v_bad v_badPlace v_coded v_ended v_open v_waits v_codes v_wait
  else
    if v_bad = 0 then
      bd9 (pM_part N v_at v_bad v_badPlace v_coded v_end v_ended v_open v_waits v_codes v_debtWord v_maxWord v_minWord v_paidWord v_penceWord v_poundsWord v_shillingsWord v_tape v_termWord v_wait v_yearWord) fun v_at_c1 v_bad_c1 v_badPlace_c1 v_coded_c1 v_ended_c1 v_open_c1 v_waits_c1 v_codes_c1 v_wait_c1 =>
      if v_bad_c1 = 0 then
        bd9 (pM_goesOn N v_at_c1 v_bad_c1 v_badPlace_c1 v_base v_coded_c1 v_end v_open_c1 v_waits_c1 v_codes_c1 v_tape v_wait_c1) fun rc2 v_at_c2 v_bad_c2 v_badPlace_c2 v_coded_c2 v_open_c2 v_waits_c2 v_codes_c2 v_wait_c2 =>
        if rc2 = 0 then
          self 0 v_at_c2 v_bad_c2 v_badPlace_c2 v_coded_c2 v_ended_c1 v_open_c2 v_waits_c2 v_codes_c2 v_wait_c2
        else
          self 1 v_at_c2 v_bad_c2 v_badPlace_c2 v_coded_c2 v_ended_c1 v_open_c2 v_waits_c2 v_codes_c2 v_wait_c2
      else
        self 0 v_at_c1 v_bad_c1 v_badPlace_c1 v_coded_c1 v_ended_c1 v_open_c1 v_waits_c1 v_codes_c1 v_wait_c1
    else
      k53 v_at v_bad v_badPlace v_coded v_ended v_open v_waits v_codes v_wait
def pM_sums_b15 (N : Nat) (v_end : Int32) (v_debtWord : (Nat → Int32)) (v_maxWord : (Nat → Int32)) (v_minWord : (Nat → Int32)) (v_paidWord : (Nat → Int32)) (v_penceWord : (Nat → Int32)) (v_poundsWord : (Nat → Int32)) (v_shillingsWord : (Nat → Int32)) (v_tape : (Nat → Int32)) (v_termWord : (Nat → Int32)) (v_yearWord : (Nat → Int32)) (x1 : Int32) (v_base : Int32) (k53 : Int32 → Int32 → Int32 → Int32 → Int32 → Int32 → Int32 → (Nat → Int32) → (Nat → Int32) → Option R_pM_sums) : Nat → Int32 → Int32 → Int32 → Int32 → Int32 → Int32 → Int32 → Int32 → (Nat → Int32) → (Nat → Int32) → Option R_pM_sums := zlp10 (pM_sums_b15_F N v_end v_debtWord v_maxWord v_minWord v_paidWord v_penceWord v_poundsWord v_shillingsWord v_tape v_termWord v_yearWord x1 v_base k53)
def pM_sums_b53_F (N : Nat) (v_end : Int32) (v_debtWord : (Nat → Int32)) (v_maxWord : (Nat → Int32)) (v_minWord : (Nat → Int32)) (v_paidWord : (Nat → Int32)) (v_penceWord : (Nat → Int32)) (v_poundsWord : (Nat → Int32)) (v_shillingsWord : (Nat → Int32)) (v_tape : (Nat → Int32)) (v_termWord : (Nat → Int32)) (v_yearWord : (Nat → Int32)) (x1 : Int32) (v_at : Int32) (v_bad : Int32) (v_badPlace : Int32) (v_base : Int32) (v_ended : Int32) (v_open : Int32) (v_wait : (Nat → Int32)) (k78 : Int32 → Int32 → (Nat → Int32) → Option R_pM_sums) (self : Int32 → Int32 → (Nat → Int32) → Option R_pM_sums) (v_coded : Int32) (v_waits : Int32) (v_codes : (Nat → Int32)) : Option R_pM_sums :=
  if v_bad = 0 then
    if v_waits ≤ v_base then
      k78 v_coded v_waits v_codes
    else
      bd3 (pM_drops v_coded v_waits v_codes v_wait) fun v_coded_c3 v_waits_c3 v_codes_c3 =>
      self v_coded_c3 v_waits_c3 v_codes_c3
  else
    k78 v_coded v_waits v_codes
def pM_sums_b53 (N : Nat) (v_end : Int32) (v_debtWord : (Nat → Int32)) (v_maxWord : (Nat → Int32)) (v_minWord : (Nat → Int32)) (v_paidWord : (Nat → Int32)) (v_penceWord : (Nat → Int32)) (v_poundsWord : (Nat → Int32)) (v_shillingsWord : (Nat → Int32)) (v_tape : (Nat → Int32)) (v_termWord : (Nat → Int32)) (v_yearWord : (Nat → Int32)) (x1 : Int32) (v_at : Int32) (v_bad : Int32) (v_badPlace : Int32) (v_base : Int32) (v_ended : Int32) (v_open : Int32) (v_wait : (Nat → Int32)) (k78 : Int32 → Int32 → (Nat → Int32) → Option R_pM_sums) : Nat → Int32 → Int32 → (Nat → Int32) → Option R_pM_sums := zlp3 (pM_sums_b53_F N v_end v_debtWord v_maxWord v_minWord v_paidWord v_penceWord v_poundsWord v_shillingsWord v_tape v_termWord v_yearWord x1 v_at v_bad v_badPlace v_base v_ended v_open v_wait k78)
def pM_sums_b78 (N : Nat) (v_end : Int32) (v_debtWord : (Nat → Int32)) (v_maxWord : (Nat → Int32)) (v_minWord : (Nat → Int32)) (v_paidWord : (Nat → Int32)) (v_penceWord : (Nat → Int32)) (v_poundsWord : (Nat → Int32)) (v_shillingsWord : (Nat → Int32)) (v_tape : (Nat → Int32)) (v_termWord : (Nat → Int32)) (v_yearWord : (Nat → Int32)) (x1 : Int32) (v_at : Int32) (v_bad : Int32) (v_badPlace : Int32) (v_base : Int32) (v_coded : Int32) (v_ended : Int32) (v_open : Int32) (v_waits : Int32) (v_codes : (Nat → Int32)) (v_wait : (Nat → Int32)) : Option R_pM_sums :=
  some (v_at, v_bad, v_badPlace, x1, v_coded, v_ended, v_open, v_waits, v_codes, v_wait)
def pM_sums (N : Nat) (v_at : Int32) (v_bad : Int32) (v_badPlace : Int32) (v_base : Int32) (v_coded : Int32) (v_end : Int32) (v_ended : Int32) (v_open : Int32) (v_waits : Int32) (v_codes : (Nat → Int32)) (v_debtWord : (Nat → Int32)) (v_maxWord : (Nat → Int32)) (v_minWord : (Nat → Int32)) (v_paidWord : (Nat → Int32)) (v_penceWord : (Nat → Int32)) (v_poundsWord : (Nat → Int32)) (v_shillingsWord : (Nat → Int32)) (v_tape : (Nat → Int32)) (v_termWord : (Nat → Int32)) (v_wait : (Nat → Int32)) (v_yearWord : (Nat → Int32)) : Option R_pM_sums :=
  pM_sums_b15 N v_end v_debtWord v_maxWord v_minWord v_paidWord v_penceWord v_poundsWord v_shillingsWord v_tape v_termWord v_yearWord v_base v_waits (fun v_at_k1 v_bad_k2 v_badPlace_k3 v_coded_k4 v_ended_k5 v_open_k6 v_waits_k7 v_codes_k8 v_wait_k9 => pM_sums_b53 N v_end v_debtWord v_maxWord v_minWord v_paidWord v_penceWord v_poundsWord v_shillingsWord v_tape v_termWord v_yearWord v_base v_at_k1 v_bad_k2 v_badPlace_k3 v_waits v_ended_k5 v_open_k6 v_wait_k9 (fun v_coded_k10 v_waits_k11 v_codes_k12 => pM_sums_b78 N v_end v_debtWord v_maxWord v_minWord v_paidWord v_penceWord v_poundsWord v_shillingsWord v_tape v_termWord v_yearWord v_base v_at_k1 v_bad_k2 v_badPlace_k3 v_waits v_coded_k10 v_ended_k5 v_open_k6 v_waits_k11 v_codes_k12 v_wait_k9) N v_coded_k4 v_waits_k7 v_codes_k8) N 1 v_at v_bad v_badPlace v_coded v_ended v_open v_waits v_codes v_wait
abbrev R_pM_fact : Type := Int32 × Int32 × Int32 × Int32 × Int32 × Int32 × Int32 × Int32 × (Nat → Int32) × (Nat → Int32)
def pM_fact_b128 (N : Nat) (v_end : Int32) (v_allWord : (Nat → Int32)) (v_debtWord : (Nat → Int32)) (v_maxWord : (Nat → Int32)) (v_minWord : (Nat → Int32)) (v_paidWord : (Nat → Int32)) (v_penceWord : (Nat → Int32)) (v_poundsWord : (Nat → Int32)) (v_shillingsWord : (Nat → Int32)) (v_shireWord : (Nat → Int32)) (v_tape : (Nat → Int32)) (v_termWord : (Nat → Int32)) (v_yearWord : (Nat → Int32)) (s1 : Int32) (v_at : Int32) (v_bad : Int32) (v_badPlace : Int32) (v_base : Int32) (v_coded : Int32) (v_ended : Int32) (v_open : Int32) (v_waits : Int32) (v_codes : (Nat → Int32)) (v_wait : (Nat → Int32)) : Option R_pM_fact :=
  bd2 (pM_code s1 v_coded v_codes) fun v_coded_c10 v_codes_c10 =>
  some (v_at, v_bad, v_badPlace, v_base, v_coded_c10, v_ended, v_open, v_waits, v_codes_c10, v_wait)
def pM_fact_b89 (N : Nat) (v_end : Int32) (v_allWord : (Nat → Int32)) (v_debtWord : (Nat → Int32)) (v_maxWord : (Nat → Int32)) (v_minWord : (Nat → Int32)) (v_paidWord : (Nat → Int32)) (v_penceWord : (Nat → Int32)) (v_poundsWord : (Nat → Int32)) (v_shillingsWord : (Nat → Int32)) (v_shireWord : (Nat → Int32)) (v_tape : (Nat → Int32)) (v_termWord : (Nat → Int32)) (v_yearWord : (Nat → Int32)) (x1 : Int32) (v_at : Int32) (v_bad : Int32) (v_badPlace : Int32) (v_base : Int32) (v_coded : Int32) (v_ended : Int32) (v_open : Int32) (v_waits : Int32) (v_codes : (Nat → Int32)) (v_wait : (Nat → Int32)) : Option R_pM_fact :=
  bd10 (pM_sums N (v_at + 1) v_bad v_badPlace v_base v_coded v_end v_ended v_open v_waits v_codes v_debtWord v_maxWord v_minWord v_paidWord v_penceWord v_poundsWord v_shillingsWord v_tape v_termWord v_wait v_yearWord) fun v_at_c9 v_bad_c9 v_badPlace_c9 v_base_c9 v_coded_c9 v_ended_c9 v_open_c9 v_waits_c9 v_codes_c9 v_wait_c9 =>
  if x1 = 60 then
    pM_fact_b128 N v_end v_allWord v_debtWord v_maxWord v_minWord v_paidWord v_penceWord v_poundsWord v_shillingsWord v_shireWord v_tape v_termWord v_yearWord 11 v_at_c9 v_bad_c9 v_badPlace_c9 v_base_c9 v_coded_c9 v_ended_c9 v_open_c9 v_waits_c9 v_codes_c9 v_wait_c9
  else
    if x1 = 62 then
      pM_fact_b128 N v_end v_allWord v_debtWord v_maxWord v_minWord v_paidWord v_penceWord v_poundsWord v_shillingsWord v_shireWord v_tape v_termWord v_yearWord 12 v_at_c9 v_bad_c9 v_badPlace_c9 v_base_c9 v_coded_c9 v_ended_c9 v_open_c9 v_waits_c9 v_codes_c9 v_wait_c9
    else
      pM_fact_b128 N v_end v_allWord v_debtWord v_maxWord v_minWord v_paidWord v_penceWord v_poundsWord v_shillingsWord v_shireWord v_tape v_termWord v_yearWord 13 v_at_c9 v_bad_c9 v_badPlace_c9 v_base_c9 v_coded_c9 v_ended_c9 v_open_c9 v_waits_c9 v_codes_c9 v_wait_c9
def pM_fact (N : Nat) (v_at : Int32) (v_bad : Int32) (v_badPlace : Int32) (v_base : Int32) (v_coded : Int32) (v_end : Int32) (v_ended : Int32) (v_open : Int32) (v_waits : Int32) (v_allWord : (Nat → Int32)) (v_codes : (Nat → Int32)) (v_debtWord : (Nat → Int32)) (v_maxWord : (Nat → Int32)) (v_minWord : (Nat → Int32)) (v_paidWord : (Nat → Int32)) (v_penceWord : (Nat → Int32)) (v_poundsWord : (Nat → Int32)) (v_shillingsWord : (Nat → Int32)) (v_shireWord : (Nat → Int32)) (v_tape : (Nat → Int32)) (v_termWord : (Nat → Int32)) (v_wait : (Nat → Int32)) (v_yearWord : (Nat → Int32)) : Option R_pM_fact :=
  bd3 (pM_takes N 3 v_allWord v_at v_bad v_end v_ended v_tape) fun rc1 v_at_c1 v_ended_c1 =>
  if rc1 = 0 then
    bd3 (pM_takes N 5 v_shireWord v_at_c1 v_bad v_end v_ended_c1 v_tape) fun rc2 v_at_c2 v_ended_c2 =>
    if rc2 = 0 then
      bd10 (pM_sums N v_at_c2 v_bad v_badPlace v_base v_coded v_end v_ended_c2 v_open v_waits v_codes v_debtWord v_maxWord v_minWord v_paidWord v_penceWord v_poundsWord v_shillingsWord v_tape v_termWord v_wait v_yearWord) fun v_at_c3 v_bad_c3 v_badPlace_c3 v_base_c3 v_coded_c3 v_ended_c3 v_open_c3 v_waits_c3 v_codes_c3 v_wait_c3 =>
      if v_bad_c3 = 0 then
        bd2 (pM_look N v_at_c3 v_end v_tape) fun rc4 v_at_c4 =>
        if rc4 = 60 then
          pM_fact_b89 N v_end v_allWord v_debtWord v_maxWord v_minWord v_paidWord v_penceWord v_poundsWord v_shillingsWord v_shireWord v_tape v_termWord v_yearWord rc4 v_at_c4 v_bad_c3 v_badPlace_c3 v_base_c3 v_coded_c3 v_ended_c3 v_open_c3 v_waits_c3 v_codes_c3 v_wait_c3
        else
          if rc4 = 62 then
            pM_fact_b89 N v_end v_allWord v_debtWord v_maxWord v_minWord v_paidWord v_penceWord v_poundsWord v_shillingsWord v_shireWord v_tape v_termWord v_yearWord rc4 v_at_c4 v_bad_c3 v_badPlace_c3 v_base_c3 v_coded_c3 v_ended_c3 v_open_c3 v_waits_c3 v_codes_c3 v_wait_c3
          else
            if rc4 = 61 then
              pM_fact_b89 N v_end v_allWord v_debtWord v_maxWord v_minWord v_paidWord v_penceWord v_poundsWord v_shillingsWord v_shireWord v_tape v_termWord v_yearWord rc4 v_at_c4 v_bad_c3 v_badPlace_c3 v_base_c3 v_coded_c3 v_ended_c3 v_open_c3 v_waits_c3 v_codes_c3 v_wait_c3
            else
              bd2 (pM_fail 1 v_at_c4 v_bad_c3 v_badPlace_c3) fun v_bad_c5 v_badPlace_c5 =>
              some (v_at_c4, v_bad_c5, v_badPlace_c5, v_base_c3, v_coded_c3, v_ended_c3, v_open_c3, v_waits_c3, v_codes_c3, v_wait_c3)
      else
        some (v_at_c3, v_bad_c3, v_badPlace_c3, v_base_c3, v_coded_c3, v_ended_c3, v_open_c3, v_waits_c3, v_codes_c3, v_wait_c3)
    else
      bd5 (pM_number N 0 7 v_at_c2 v_bad v_badPlace v_end v_ended_c2 v_tape) fun rc6 v_at_c6 v_bad_c6 v_badPlace_c6 v_ended_c6 =>
      bd2 (pM_code (100 + rc6) v_coded v_codes) fun v_coded_c7 v_codes_c7 =>
      some (v_at_c6, v_bad_c6, v_badPlace_c6, v_base, v_coded_c7, v_ended_c6, v_open, v_waits, v_codes_c7, v_wait)
  else
    bd2 (pM_code 17 v_coded v_codes) fun v_coded_c8 v_codes_c8 =>
    some (v_at_c1, v_bad, v_badPlace, v_base, v_coded_c8, v_ended_c1, v_open, v_waits, v_codes_c8, v_wait)
