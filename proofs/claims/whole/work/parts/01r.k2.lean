set_option maxHeartbeats 4000000
set_option maxRecDepth 100000
abbrev R_pReader_hasRoom : Type := Int32
def pReader_hasRoom (v_length : Int32) : Option R_pReader_hasRoom :=
  if 600 < (v_length + 20) then
    some 0
  else
    some 1
abbrev R_pReader_append : Type := Int32 × Int32 × (Nat → Int32)
def pReader_append_b3_F (N : Nat) (a1 : Int32) (k50 : Int32 → (Nat → Int32) → Option R_pReader_append) (self : Int32 → Int32 → (Nat → Int32) → Option R_pReader_append) (x2 : Int32) (v_length : Int32) (v_tape : (Nat → Int32)) : Option R_pReader_append :=
  if x2 < 0 then
    k50 v_length v_tape
  else
    if 600 ≤ v_length then
      k50 v_length v_tape
    else
      gd (ib v_length 600) <|
      self (x2 + (-8)) (v_length + 1) (upd v_tape (ix v_length) (nC (i2c ((iush a1 x2) &&& 255))))
def pReader_append_b3 (N : Nat) (a1 : Int32) (k50 : Int32 → (Nat → Int32) → Option R_pReader_append) : Nat → Int32 → Int32 → (Nat → Int32) → Option R_pReader_append := zlp3 (pReader_append_b3_F N a1 k50)
def pReader_append_b50 (N : Nat) (a1 : Int32) (v_length : Int32) (v_tape : (Nat → Int32)) : Option R_pReader_append :=
  some (v_length, v_length, v_tape)
def pReader_append (N : Nat) (a1 : Int32) (v_length : Int32) (v_tape : (Nat → Int32)) : Option R_pReader_append :=
  pReader_append_b3 N a1 (pReader_append_b50 N a1) N 24 v_length v_tape
abbrev R_pReader_shorten : Type := Int32 × Int32
def pReader_shorten (a1 : Int32) (v_length : Int32) : Option R_pReader_shorten :=
  if a1 < 0 then
    some (0, v_length)
  else
    if a1 ≤ v_length then
      some (1, a1)
    else
      some (0, v_length)
abbrev R_pReader_wipe : Type := Int32
def pReader_wipe (v_length : Int32) : Option R_pReader_wipe :=
  some 0
abbrev R_pReader_next : Type := Int32 × Int32 × Int32
def pReader_next_b66 (N : Nat) (v_length : Int32) (v_tape : (Nat → Int32)) (self : Int32 → Option R_pReader_next) (k79 : Int32 → Option R_pReader_next) (x1 : Int32) (x2 : Int32) (v_at : Int32) (v_kind : Int32) (v_stop : Int32) : Option R_pReader_next :=
  self (v_stop + 1)
def pReader_next_b27_F (N : Nat) (v_length : Int32) (v_tape : (Nat → Int32)) (x1 : Int32) (x2 : Int32) (v_at : Int32) (v_kind : Int32) (k79 : Int32 → Option R_pReader_next) (self : Int32 → Option R_pReader_next) (v_stop : Int32) : Option R_pReader_next :=
  if v_length ≤ v_stop then
    k79 v_stop
  else
    gd (ib v_stop 600) <|
    if (v_tape (ix v_stop)) = 32 then
      pReader_next_b66 N v_length v_tape self k79 x1 x2 v_at v_kind v_stop
    else
      if (v_tape (ix v_stop)) = 10 then
        pReader_next_b66 N v_length v_tape self k79 x1 x2 v_at v_kind v_stop
      else
        k79 v_stop
def pReader_next_b27 (N : Nat) (v_length : Int32) (v_tape : (Nat → Int32)) (x1 : Int32) (x2 : Int32) (v_at : Int32) (v_kind : Int32) (k79 : Int32 → Option R_pReader_next) : Nat → Int32 → Option R_pReader_next := zlp1 (pReader_next_b27_F N v_length v_tape x1 x2 v_at v_kind k79)
def pReader_next_b104_F (N : Nat) (v_length : Int32) (v_tape : (Nat → Int32)) (x1 : Int32) (x2 : Int32) (v_at : Int32) (v_kind : Int32) (k156 : Int32 → Option R_pReader_next) (self : Int32 → Option R_pReader_next) (v_stop : Int32) : Option R_pReader_next :=
  if v_length ≤ v_stop then
    k156 v_stop
  else
    gd (ib v_stop 600) <|
    if (v_tape (ix v_stop)) < 97 then
      k156 v_stop
    else
      if 122 < (v_tape (ix v_stop)) then
        k156 v_stop
      else
        self (v_stop + 1)
def pReader_next_b104 (N : Nat) (v_length : Int32) (v_tape : (Nat → Int32)) (x1 : Int32) (x2 : Int32) (v_at : Int32) (v_kind : Int32) (k156 : Int32 → Option R_pReader_next) : Nat → Int32 → Option R_pReader_next := zlp1 (pReader_next_b104_F N v_length v_tape x1 x2 v_at v_kind k156)
def pReader_next_b172_F (N : Nat) (v_length : Int32) (v_tape : (Nat → Int32)) (x1 : Int32) (x2 : Int32) (v_at : Int32) (v_kind : Int32) (k224 : Int32 → Option R_pReader_next) (self : Int32 → Option R_pReader_next) (v_stop : Int32) : Option R_pReader_next :=
  if v_length ≤ v_stop then
    k224 v_stop
  else
    gd (ib v_stop 600) <|
    if (v_tape (ix v_stop)) < 48 then
      k224 v_stop
    else
      if 57 < (v_tape (ix v_stop)) then
        k224 v_stop
      else
        self (v_stop + 1)
def pReader_next_b172 (N : Nat) (v_length : Int32) (v_tape : (Nat → Int32)) (x1 : Int32) (x2 : Int32) (v_at : Int32) (v_kind : Int32) (k224 : Int32 → Option R_pReader_next) : Nat → Int32 → Option R_pReader_next := zlp1 (pReader_next_b172_F N v_length v_tape x1 x2 v_at v_kind k224)
def pReader_next_b229 (N : Nat) (v_length : Int32) (v_tape : (Nat → Int32)) (x1 : Int32) (x2 : Int32) (v_at : Int32) (v_kind : Int32) (v_stop : Int32) : Option R_pReader_next :=
  if v_stop = v_at then
    some (v_at, 3, (v_stop + 1))
  else
    if x2 = 0 then
      some (v_at, v_kind, v_stop)
    else
      if v_at = x1 then
        some (v_at, 4, v_stop)
      else
        some (v_at, v_kind, v_stop)
def pReader_next_b224 (N : Nat) (v_length : Int32) (v_tape : (Nat → Int32)) (x1 : Int32) (x2 : Int32) (v_at : Int32) (v_kind : Int32) (v_stop : Int32) : Option R_pReader_next :=
  pReader_next_b229 N v_length v_tape x1 x2 v_at 2 v_stop
def pReader_next_b156 (N : Nat) (v_length : Int32) (v_tape : (Nat → Int32)) (x1 : Int32) (x2 : Int32) (v_at : Int32) (v_kind : Int32) (v_stop : Int32) : Option R_pReader_next :=
  if v_stop = v_at then
    pReader_next_b172 N v_length v_tape x1 x2 v_at 1 (pReader_next_b224 N v_length v_tape x1 x2 v_at 1) N v_stop
  else
    pReader_next_b229 N v_length v_tape x1 x2 v_at 1 v_stop
def pReader_next_b79 (N : Nat) (v_length : Int32) (v_tape : (Nat → Int32)) (x1 : Int32) (x2 : Int32) (v_at : Int32) (v_kind : Int32) (v_stop : Int32) : Option R_pReader_next :=
  if v_stop < v_length then
    pReader_next_b104 N v_length v_tape x1 x2 v_stop v_kind (pReader_next_b156 N v_length v_tape x1 x2 v_stop v_kind) N v_stop
  else
    some (v_stop, 0, v_stop)
def pReader_next (N : Nat) (v_at : Int32) (v_kind : Int32) (v_length : Int32) (v_stop : Int32) (v_tape : (Nat → Int32)) : Option R_pReader_next :=
  if v_kind = 1 then
    pReader_next_b27 N v_length v_tape v_stop 1 v_at v_kind (pReader_next_b79 N v_length v_tape v_stop 1 v_at v_kind) N v_stop
  else
    if v_kind = 2 then
      pReader_next_b27 N v_length v_tape v_stop 1 v_at v_kind (pReader_next_b79 N v_length v_tape v_stop 1 v_at v_kind) N v_stop
    else
      pReader_next_b27 N v_length v_tape v_stop 0 v_at v_kind (pReader_next_b79 N v_length v_tape v_stop 0 v_at v_kind) N v_stop
abbrev R_pReader_takeWord : Type := Int32 × Int32 × Int32 × Int32
def pReader_takeWord_b28_F (N : Nat) (a1 : Nat) (v_length : Int32) (v_tape : (Nat → Int32)) (v_at : Int32) (v_kind : Int32) (v_stop : Int32) (k63 : Option R_pReader_takeWord) (self : Int32 → Option R_pReader_takeWord) (x2 : Int32) : Option R_pReader_takeWord :=
  if (Int32.ofNat (kS_len a1)) ≤ x2 then
    k63
  else
    gd (ib (v_at + x2) 600) <|
    gd (ib x2 (kS_len a1)) <|
    if (v_tape (ix (v_at + x2))) = (kS_ch a1 (ix x2)) then
      self (x2 + 1)
    else
      some (0, v_at, v_kind, v_stop)
def pReader_takeWord_b28 (N : Nat) (a1 : Nat) (v_length : Int32) (v_tape : (Nat → Int32)) (v_at : Int32) (v_kind : Int32) (v_stop : Int32) (k63 : Option R_pReader_takeWord) : Nat → Int32 → Option R_pReader_takeWord := zlp1 (pReader_takeWord_b28_F N a1 v_length v_tape v_at v_kind v_stop k63)
def pReader_takeWord_b63 (N : Nat) (a1 : Nat) (v_length : Int32) (v_tape : (Nat → Int32)) (v_at : Int32) (v_kind : Int32) (v_stop : Int32) : Option R_pReader_takeWord :=
  bd3 (pReader_next N v_at v_kind v_length v_stop v_tape) fun v_at_c3 v_kind_c3 v_stop_c3 =>
  some (1, v_at_c3, v_kind_c3, v_stop_c3)
def pReader_takeWord (N : Nat) (a1 : Nat) (v_at : Int32) (v_kind : Int32) (v_length : Int32) (v_stop : Int32) (v_tape : (Nat → Int32)) : Option R_pReader_takeWord :=
  if v_kind = 1 then
    if (v_stop - v_at) = (Int32.ofNat (kS_len a1)) then
      pReader_takeWord_b28 N a1 v_length v_tape v_at v_kind v_stop (pReader_takeWord_b63 N a1 v_length v_tape v_at v_kind v_stop) N 0
    else
      some (0, v_at, v_kind, v_stop)
  else
    some (0, v_at, v_kind, v_stop)
abbrev R_pReader_fail : Type := Int32 × Int32 × Int32
def pReader_fail (a1 : Int32) (a2 : Int32) (v_fault : Int32) (v_faultAt : Int32) : Option R_pReader_fail :=
  some (0, a1, a2)
abbrev R_pReader_readNumber : Type := Int32 × Int32 × Int32 × Int32 × Int32 × Int32
def pReader_readNumber_b55_F (N : Nat) (a1 : Int32) (a2 : Int32) (v_length : Int32) (v_tape : (Nat → Int32)) (v_at : Int32) (v_fault : Int32) (v_faultAt : Int32) (v_kind : Int32) (v_stop : Int32) (k86 : Int32 → Option R_pReader_readNumber) (self : Int32 → Int32 → Option R_pReader_readNumber) (x3 : Int32) (x4 : Int32) : Option R_pReader_readNumber :=
  if v_stop ≤ x4 then
    k86 x3
  else
    gd (ib x4 600) <|
    self (((x3 * 10) + (v_tape (ix x4))) - 48) (x4 + 1)
def pReader_readNumber_b55 (N : Nat) (a1 : Int32) (a2 : Int32) (v_length : Int32) (v_tape : (Nat → Int32)) (v_at : Int32) (v_fault : Int32) (v_faultAt : Int32) (v_kind : Int32) (v_stop : Int32) (k86 : Int32 → Option R_pReader_readNumber) : Nat → Int32 → Int32 → Option R_pReader_readNumber := zlp2 (pReader_readNumber_b55_F N a1 a2 v_length v_tape v_at v_fault v_faultAt v_kind v_stop k86)
def pReader_readNumber_b96 (N : Nat) (a1 : Int32) (a2 : Int32) (v_length : Int32) (v_tape : (Nat → Int32)) (v_at : Int32) (v_fault : Int32) (v_faultAt : Int32) (v_kind : Int32) (v_stop : Int32) : Option R_pReader_readNumber :=
  bd3 (pReader_fail 2 v_at v_fault v_faultAt) fun rc5 v_fault_c5 v_faultAt_c5 =>
  some ((-1), v_at, v_fault_c5, v_faultAt_c5, v_kind, v_stop)
def pReader_readNumber_b86 (N : Nat) (a1 : Int32) (a2 : Int32) (v_length : Int32) (v_tape : (Nat → Int32)) (x3 : Int32) (v_at : Int32) (v_fault : Int32) (v_faultAt : Int32) (v_kind : Int32) (v_stop : Int32) : Option R_pReader_readNumber :=
  if x3 < a1 then
    pReader_readNumber_b96 N a1 a2 v_length v_tape v_at v_fault v_faultAt v_kind v_stop
  else
    if x3 ≤ a2 then
      bd3 (pReader_next N v_at v_kind v_length v_stop v_tape) fun v_at_c4 v_kind_c4 v_stop_c4 =>
      some (x3, v_at_c4, v_fault, v_faultAt, v_kind_c4, v_stop_c4)
    else
      pReader_readNumber_b96 N a1 a2 v_length v_tape v_at v_fault v_faultAt v_kind v_stop
def pReader_readNumber (N : Nat) (a1 : Int32) (a2 : Int32) (v_at : Int32) (v_fault : Int32) (v_faultAt : Int32) (v_kind : Int32) (v_length : Int32) (v_stop : Int32) (v_tape : (Nat → Int32)) : Option R_pReader_readNumber :=
  if v_kind = 2 then
    if (v_stop - v_at) ≤ 5 then
      pReader_readNumber_b55 N a1 a2 v_length v_tape v_at v_fault v_faultAt v_kind v_stop (fun x3_k1 => pReader_readNumber_b86 N a1 a2 v_length v_tape x3_k1 v_at v_fault v_faultAt v_kind v_stop) N 0 v_at
    else
      bd3 (pReader_fail 1 (v_at + 5) v_fault v_faultAt) fun rc1 v_fault_c1 v_faultAt_c1 =>
      some ((-1), v_at, v_fault_c1, v_faultAt_c1, v_kind, v_stop)
  else
    bd3 (pReader_fail 1 v_at v_fault v_faultAt) fun rc2 v_fault_c2 v_faultAt_c2 =>
    some ((-1), v_at, v_fault_c2, v_faultAt_c2, v_kind, v_stop)
abbrev R_pReader_takeUnit : Type := Int32 × Int32 × Int32 × Int32
def pReader_takeUnit (N : Nat) (v_at : Int32) (v_kind : Int32) (v_length : Int32) (v_stop : Int32) (v_tape : (Nat → Int32)) : Option R_pReader_takeUnit :=
  bd4 (pReader_takeWord N 1 v_at v_kind v_length v_stop v_tape) fun rc1 v_at_c1 v_kind_c1 v_stop_c1 =>
  if rc1 = 0 then
    bd4 (pReader_takeWord N 2 v_at_c1 v_kind_c1 v_length v_stop_c1 v_tape) fun rc2 v_at_c2 v_kind_c2 v_stop_c2 =>
    if rc2 = 0 then
      bd4 (pReader_takeWord N 3 v_at_c2 v_kind_c2 v_length v_stop_c2 v_tape) fun rc3 v_at_c3 v_kind_c3 v_stop_c3 =>
      some (1, v_at_c3, v_kind_c3, v_stop_c3)
    else
      some (12, v_at_c2, v_kind_c2, v_stop_c2)
  else
    some (240, v_at_c1, v_kind_c1, v_stop_c1)
abbrev R_pReader_emit : Type := Int32 × Int32 × Int32 × Int32 × (Nat → Int32)
def pReader_emit (a1 : Int32) (v_at : Int32) (v_fault : Int32) (v_faultAt : Int32) (v_size : Int32) (v_code : (Nat → Int32)) : Option R_pReader_emit :=
  if v_size < 600 then
    gd (ib v_size 600) <|
    some (1, v_fault, v_faultAt, (v_size + 1), (upd v_code (ix v_size) a1))
  else
    bd3 (pReader_fail 1 v_at v_fault v_faultAt) fun rc2 v_fault_c2 v_faultAt_c2 =>
    gd (isB rc2) (some (rc2, v_fault_c2, v_faultAt_c2, v_size, v_code))
abbrev R_pReader_takeMark : Type := Int32 × Int32 × Int32 × Int32
def pReader_takeMark (N : Nat) (a1 : Int32) (v_at : Int32) (v_kind : Int32) (v_length : Int32) (v_stop : Int32) (v_tape : (Nat → Int32)) : Option R_pReader_takeMark :=
  if v_kind = 3 then
    gd (ib v_at 600) <|
    if (v_tape (ix v_at)) = a1 then
      bd3 (pReader_next N v_at v_kind v_length v_stop v_tape) fun v_at_c2 v_kind_c2 v_stop_c2 =>
      some (1, v_at_c2, v_kind_c2, v_stop_c2)
    else
      some (0, v_at, v_kind, v_stop)
  else
    some (0, v_at, v_kind, v_stop)
abbrev R_pReader_opens : Type := Int32 × Int32 × Int32 × Int32
def pReader_opens (a1 : Int32) (v_fault : Int32) (v_faultAt : Int32) (v_open : Int32) : Option R_pReader_opens :=
  if v_open < 6 then
    some (1, v_fault, v_faultAt, (v_open + 1))
  else
    bd3 (pReader_fail 3 a1 v_fault v_faultAt) fun rc1 v_fault_c1 v_faultAt_c1 =>
    gd (isB rc1) (some (rc1, v_fault_c1, v_faultAt_c1, v_open))
abbrev R_pReader_needMark : Type := Int32 × Int32 × Int32 × Int32 × Int32 × Int32
def pReader_needMark (N : Nat) (a1 : Int32) (v_at : Int32) (v_fault : Int32) (v_faultAt : Int32) (v_kind : Int32) (v_length : Int32) (v_stop : Int32) (v_tape : (Nat → Int32)) : Option R_pReader_needMark :=
  bd4 (pReader_takeMark N a1 v_at v_kind v_length v_stop v_tape) fun rc1 v_at_c1 v_kind_c1 v_stop_c1 =>
  if rc1 = 0 then
    bd3 (pReader_fail 1 v_at_c1 v_fault v_faultAt) fun rc2 v_fault_c2 v_faultAt_c2 =>
    if rc2 = 0 then
      some (0, v_at_c1, v_fault_c2, v_faultAt_c2, v_kind_c1, v_stop_c1)
    else
      some (1, v_at_c1, v_fault_c2, v_faultAt_c2, v_kind_c1, v_stop_c1)
  else
    some (1, v_at_c1, v_fault, v_faultAt, v_kind_c1, v_stop_c1)
abbrev R_pReader_closes : Type := Int32 × Int32
def pReader_closes (v_open : Int32) : Option R_pReader_closes :=
  some (1, (v_open - 1))
abbrev R_pReader_readPart : Type := Int32 × Int32 × Int32 × Int32 × Int32 × Int32 × Int32 × Int32 × (Nat → Int32)
def pReader_readPart_b209 (N : Nat) (rec : Nat → Int32 → Int32 → Int32 → Int32 → Int32 → Int32 → Int32 → (Nat → Int32) → Option R_pReader_readPart) (v_length : Int32) (v_tape : (Nat → Int32)) (s0 : Int32) (v_at : Int32) (v_fault : Int32) (v_faultAt : Int32) (v_kind : Int32) (v_open : Int32) (v_size : Int32) (v_stop : Int32) (v_code : (Nat → Int32)) : Option R_pReader_readPart :=
  if s0 = 0 then
    bd3 (pReader_fail 1 v_at v_fault v_faultAt) fun rc20 v_fault_c20 v_faultAt_c20 =>
    gd (isB rc20) (some (rc20, v_at, v_fault_c20, v_faultAt_c20, v_kind, v_open, v_size, v_stop, v_code))
  else
    bd5 (pReader_emit s0 v_at v_fault v_faultAt v_size v_code) fun rc19 v_fault_c19 v_faultAt_c19 v_size_c19 v_code_c19 =>
    gd (isB rc19) (some (rc19, v_at, v_fault_c19, v_faultAt_c19, v_kind, v_open, v_size_c19, v_stop, v_code_c19))
def pReader_readPart_G (N : Nat) (rec : Nat → Int32 → Int32 → Int32 → Int32 → Int32 → Int32 → Int32 → (Nat → Int32) → Option R_pReader_readPart) (v_length : Int32) (v_tape : (Nat → Int32)) (v_at : Int32) (v_fault : Int32) (v_faultAt : Int32) (v_kind : Int32) (v_open : Int32) (v_size : Int32) (v_stop : Int32) (v_code : (Nat → Int32)) : Option R_pReader_readPart :=
  if v_kind = 2 then
    bd6 (pReader_readNumber N 0 99999 v_at v_fault v_faultAt v_kind v_length v_stop v_tape) fun rc16 v_at_c16 v_fault_c16 v_faultAt_c16 v_kind_c16 v_stop_c16 =>
    if rc16 = (-1) then
      some (0, v_at_c16, v_fault_c16, v_faultAt_c16, v_kind_c16, v_open, v_size, v_stop_c16, v_code)
    else
      bd4 (pReader_takeUnit N v_at_c16 v_kind_c16 v_length v_stop_c16 v_tape) fun rc17 v_at_c17 v_kind_c17 v_stop_c17 =>
      bd5 (pReader_emit (rc16 * rc17) v_at_c17 v_fault_c16 v_faultAt_c16 v_size v_code) fun rc18 v_fault_c18 v_faultAt_c18 v_size_c18 v_code_c18 =>
      if rc18 = 0 then
        some (0, v_at_c17, v_fault_c18, v_faultAt_c18, v_kind_c17, v_open, v_size_c18, v_stop_c17, v_code_c18)
      else
        some (1, v_at_c17, v_fault_c18, v_faultAt_c18, v_kind_c17, v_open, v_size_c18, v_stop_c17, v_code_c18)
  else
    bd4 (pReader_takeMark N 40 v_at v_kind v_length v_stop v_tape) fun rc1 v_at_c1 v_kind_c1 v_stop_c1 =>
    if rc1 = 0 then
      bd4 (pReader_takeWord N 4 v_at_c1 v_kind_c1 v_length v_stop_c1 v_tape) fun rc2 v_at_c2 v_kind_c2 v_stop_c2 =>
      if rc2 = 0 then
        bd4 (pReader_takeWord N 5 v_at_c2 v_kind_c2 v_length v_stop_c2 v_tape) fun rc3 v_at_c3 v_kind_c3 v_stop_c3 =>
        if rc3 = 0 then
          bd4 (pReader_takeWord N 6 v_at_c3 v_kind_c3 v_length v_stop_c3 v_tape) fun rc4 v_at_c4 v_kind_c4 v_stop_c4 =>
          if rc4 = 0 then
            bd4 (pReader_takeWord N 7 v_at_c4 v_kind_c4 v_length v_stop_c4 v_tape) fun rc5 v_at_c5 v_kind_c5 v_stop_c5 =>
            if rc5 = 0 then
              bd4 (pReader_takeWord N 8 v_at_c5 v_kind_c5 v_length v_stop_c5 v_tape) fun rc6 v_at_c6 v_kind_c6 v_stop_c6 =>
              if rc6 = 0 then
                bd4 (pReader_takeWord N 9 v_at_c6 v_kind_c6 v_length v_stop_c6 v_tape) fun rc7 v_at_c7 v_kind_c7 v_stop_c7 =>
                if rc7 = 0 then
                  pReader_readPart_b209 N rec v_length v_tape 0 v_at_c7 v_fault v_faultAt v_kind_c7 v_open v_size v_stop_c7 v_code
                else
                  pReader_readPart_b209 N rec v_length v_tape (-4) v_at_c7 v_fault v_faultAt v_kind_c7 v_open v_size v_stop_c7 v_code
              else
                pReader_readPart_b209 N rec v_length v_tape (-3) v_at_c6 v_fault v_faultAt v_kind_c6 v_open v_size v_stop_c6 v_code
            else
              pReader_readPart_b209 N rec v_length v_tape (-2) v_at_c5 v_fault v_faultAt v_kind_c5 v_open v_size v_stop_c5 v_code
          else
            pReader_readPart_b209 N rec v_length v_tape (-1) v_at_c4 v_fault v_faultAt v_kind_c4 v_open v_size v_stop_c4 v_code
        else
          bd9 (rec 3 v_at_c3 v_fault v_faultAt v_kind_c3 v_open v_size v_stop_c3 v_code) fun rc8 v_at_c8 v_fault_c8 v_faultAt_c8 v_kind_c8 v_open_c8 v_size_c8 v_stop_c8 v_code_c8 =>
          if rc8 = 0 then
            some (0, v_at_c8, v_fault_c8, v_faultAt_c8, v_kind_c8, v_open_c8, v_size_c8, v_stop_c8, v_code_c8)
          else
            bd5 (pReader_emit (-12) v_at_c8 v_fault_c8 v_faultAt_c8 v_size_c8 v_code_c8) fun rc9 v_fault_c9 v_faultAt_c9 v_size_c9 v_code_c9 =>
            if rc9 = 0 then
              some (0, v_at_c8, v_fault_c9, v_faultAt_c9, v_kind_c8, v_open_c8, v_size_c9, v_stop_c8, v_code_c9)
            else
              some (1, v_at_c8, v_fault_c9, v_faultAt_c9, v_kind_c8, v_open_c8, v_size_c9, v_stop_c8, v_code_c9)
      else
        bd9 (rec 3 v_at_c2 v_fault v_faultAt v_kind_c2 v_open v_size v_stop_c2 v_code) fun rc10 v_at_c10 v_fault_c10 v_faultAt_c10 v_kind_c10 v_open_c10 v_size_c10 v_stop_c10 v_code_c10 =>
        if rc10 = 0 then
          some (0, v_at_c10, v_fault_c10, v_faultAt_c10, v_kind_c10, v_open_c10, v_size_c10, v_stop_c10, v_code_c10)
        else
          bd5 (pReader_emit (-11) v_at_c10 v_fault_c10 v_faultAt_c10 v_size_c10 v_code_c10) fun rc11 v_fault_c11 v_faultAt_c11 v_size_c11 v_code_c11 =>
          if rc11 = 0 then
            some (0, v_at_c10, v_fault_c11, v_faultAt_c11, v_kind_c10, v_open_c10, v_size_c11, v_stop_c10, v_code_c11)
          else
            some (1, v_at_c10, v_fault_c11, v_faultAt_c11, v_kind_c10, v_open_c10, v_size_c11, v_stop_c10, v_code_c11)
    else
      bd4 (pReader_opens v_at v_fault v_faultAt v_open) fun rc12 v_fault_c12 v_faultAt_c12 v_open_c12 =>
      if rc12 = 0 then
        some (0, v_at_c1, v_fault_c12, v_faultAt_c12, v_kind_c1, v_open_c12, v_size, v_stop_c1, v_code)
      else
        bd9 (rec 2 v_at_c1 v_fault_c12 v_faultAt_c12 v_kind_c1 v_open_c12 v_size v_stop_c1 v_code) fun rc13 v_at_c13 v_fault_c13 v_faultAt_c13 v_kind_c13 v_open_c13 v_size_c13 v_stop_c13 v_code_c13 =>
        if rc13 = 0 then
          some (0, v_at_c13, v_fault_c13, v_faultAt_c13, v_kind_c13, v_open_c13, v_size_c13, v_stop_c13, v_code_c13)
        else
          bd6 (pReader_needMark N 41 v_at_c13 v_fault_c13 v_faultAt_c13 v_kind_c13 v_length v_stop_c13 v_tape) fun rc14 v_at_c14 v_fault_c14 v_faultAt_c14 v_kind_c14 v_stop_c14 =>
          if rc14 = 0 then
            some (0, v_at_c14, v_fault_c14, v_faultAt_c14, v_kind_c14, v_open_c13, v_size_c13, v_stop_c14, v_code_c13)
          else
            bd2 (pReader_closes v_open_c13) fun rc15 v_open_c15 =>
            if rc15 = 0 then
              some (0, v_at_c14, v_fault_c14, v_faultAt_c14, v_kind_c14, v_open_c15, v_size_c13, v_stop_c14, v_code_c13)
            else
              some (1, v_at_c14, v_fault_c14, v_faultAt_c14, v_kind_c14, v_open_c15, v_size_c13, v_stop_c14, v_code_c13)
abbrev R_pReader_readProduct : Type := Int32 × Int32 × Int32 × Int32 × Int32 × Int32 × Int32 × Int32 × (Nat → Int32)
def pReader_readProduct_b47 (N : Nat) (rec : Nat → Int32 → Int32 → Int32 → Int32 → Int32 → Int32 → Int32 → (Nat → Int32) → Option R_pReader_readProduct) (v_length : Int32) (v_tape : (Nat → Int32)) (self : Int32 → Int32 → Int32 → Int32 → Int32 → Int32 → Int32 → Int32 → Int32 → (Nat → Int32) → Option R_pReader_readProduct) (x2 : Int32) (s0 : Int32) (v_at : Int32) (v_fault : Int32) (v_faultAt : Int32) (v_kind : Int32) (v_open : Int32) (v_size : Int32) (v_stop : Int32) (v_code : (Nat → Int32)) : Option R_pReader_readProduct :=
  if s0 = 0 then
    some (1, v_at, v_fault, v_faultAt, v_kind, v_open, v_size, v_stop, v_code)
  else
    bd9 (rec 0 v_at v_fault v_faultAt v_kind v_open v_size v_stop v_code) fun rc4 v_at_c4 v_fault_c4 v_faultAt_c4 v_kind_c4 v_open_c4 v_size_c4 v_stop_c4 v_code_c4 =>
    if rc4 = 0 then
      self 0 (x2 + 1) v_at_c4 v_fault_c4 v_faultAt_c4 v_kind_c4 v_open_c4 v_size_c4 v_stop_c4 v_code_c4
    else
      bd5 (pReader_emit s0 v_at_c4 v_fault_c4 v_faultAt_c4 v_size_c4 v_code_c4) fun rc5 v_fault_c5 v_faultAt_c5 v_size_c5 v_code_c5 =>
      if rc5 = 0 then
        self 0 (x2 + 1) v_at_c4 v_fault_c5 v_faultAt_c5 v_kind_c4 v_open_c4 v_size_c5 v_stop_c4 v_code_c5
      else
        self 1 (x2 + 1) v_at_c4 v_fault_c5 v_faultAt_c5 v_kind_c4 v_open_c4 v_size_c5 v_stop_c4 v_code_c5
def pReader_readProduct_b7_F (N : Nat) (rec : Nat → Int32 → Int32 → Int32 → Int32 → Int32 → Int32 → Int32 → (Nat → Int32) → Option R_pReader_readProduct) (v_length : Int32) (v_tape : (Nat → Int32)) (self : Int32 → Int32 → Int32 → Int32 → Int32 → Int32 → Int32 → Int32 → Int32 → (Nat → Int32) → Option R_pReader_readProduct) (x1 : Int32) (x2 : Int32) (v_at : Int32) (v_fault : Int32) (v_faultAt : Int32) (v_kind : Int32) (v_open : Int32) (v_size : Int32) (v_stop : Int32) (v_code : (Nat → Int32)) : Option R_pReader_readProduct :=
  if 600 ≤ x2 then
    gd (isB x1) (some (x1, v_at, v_fault, v_faultAt, v_kind, v_open, v_size, v_stop, v_code))
  else
    if x1 = 0 then
      gd (isB x1) (some (x1, v_at, v_fault, v_faultAt, v_kind, v_open, v_size, v_stop, v_code))
    else
      bd4 (pReader_takeMark N 42 v_at v_kind v_length v_stop v_tape) fun rc2 v_at_c2 v_kind_c2 v_stop_c2 =>
      if rc2 = 0 then
        bd4 (pReader_takeMark N 47 v_at_c2 v_kind_c2 v_length v_stop_c2 v_tape) fun rc3 v_at_c3 v_kind_c3 v_stop_c3 =>
        if rc3 = 0 then
          pReader_readProduct_b47 N rec v_length v_tape self x2 0 v_at_c3 v_fault v_faultAt v_kind_c3 v_open v_size v_stop_c3 v_code
        else
          pReader_readProduct_b47 N rec v_length v_tape self x2 (-10) v_at_c3 v_fault v_faultAt v_kind_c3 v_open v_size v_stop_c3 v_code
      else
        pReader_readProduct_b47 N rec v_length v_tape self x2 (-9) v_at_c2 v_fault v_faultAt v_kind_c2 v_open v_size v_stop_c2 v_code
def pReader_readProduct_b7 (N : Nat) (rec : Nat → Int32 → Int32 → Int32 → Int32 → Int32 → Int32 → Int32 → (Nat → Int32) → Option R_pReader_readProduct) (v_length : Int32) (v_tape : (Nat → Int32)) : Nat → Int32 → Int32 → Int32 → Int32 → Int32 → Int32 → Int32 → Int32 → Int32 → (Nat → Int32) → Option R_pReader_readProduct := zlp10 (pReader_readProduct_b7_F N rec v_length v_tape)
def pReader_readProduct_G (N : Nat) (rec : Nat → Int32 → Int32 → Int32 → Int32 → Int32 → Int32 → Int32 → (Nat → Int32) → Option R_pReader_readProduct) (v_length : Int32) (v_tape : (Nat → Int32)) (v_at : Int32) (v_fault : Int32) (v_faultAt : Int32) (v_kind : Int32) (v_open : Int32) (v_size : Int32) (v_stop : Int32) (v_code : (Nat → Int32)) : Option R_pReader_readProduct :=
  bd9 (rec 0 v_at v_fault v_faultAt v_kind v_open v_size v_stop v_code) fun rc1 v_at_c1 v_fault_c1 v_faultAt_c1 v_kind_c1 v_open_c1 v_size_c1 v_stop_c1 v_code_c1 =>
  pReader_readProduct_b7 N rec v_length v_tape N rc1 0 v_at_c1 v_fault_c1 v_faultAt_c1 v_kind_c1 v_open_c1 v_size_c1 v_stop_c1 v_code_c1
abbrev R_pReader_readSum : Type := Int32 × Int32 × Int32 × Int32 × Int32 × Int32 × Int32 × Int32 × (Nat → Int32)
def pReader_readSum_b47 (N : Nat) (rec : Nat → Int32 → Int32 → Int32 → Int32 → Int32 → Int32 → Int32 → (Nat → Int32) → Option R_pReader_readSum) (v_length : Int32) (v_tape : (Nat → Int32)) (self : Int32 → Int32 → Int32 → Int32 → Int32 → Int32 → Int32 → Int32 → Int32 → (Nat → Int32) → Option R_pReader_readSum) (x2 : Int32) (s0 : Int32) (v_at : Int32) (v_fault : Int32) (v_faultAt : Int32) (v_kind : Int32) (v_open : Int32) (v_size : Int32) (v_stop : Int32) (v_code : (Nat → Int32)) : Option R_pReader_readSum :=
  if s0 = 0 then
    some (1, v_at, v_fault, v_faultAt, v_kind, v_open, v_size, v_stop, v_code)
  else
    bd9 (rec 1 v_at v_fault v_faultAt v_kind v_open v_size v_stop v_code) fun rc4 v_at_c4 v_fault_c4 v_faultAt_c4 v_kind_c4 v_open_c4 v_size_c4 v_stop_c4 v_code_c4 =>
    if rc4 = 0 then
      self 0 (x2 + 1) v_at_c4 v_fault_c4 v_faultAt_c4 v_kind_c4 v_open_c4 v_size_c4 v_stop_c4 v_code_c4
    else
      bd5 (pReader_emit s0 v_at_c4 v_fault_c4 v_faultAt_c4 v_size_c4 v_code_c4) fun rc5 v_fault_c5 v_faultAt_c5 v_size_c5 v_code_c5 =>
      if rc5 = 0 then
        self 0 (x2 + 1) v_at_c4 v_fault_c5 v_faultAt_c5 v_kind_c4 v_open_c4 v_size_c5 v_stop_c4 v_code_c5
      else
        self 1 (x2 + 1) v_at_c4 v_fault_c5 v_faultAt_c5 v_kind_c4 v_open_c4 v_size_c5 v_stop_c4 v_code_c5
def pReader_readSum_b7_F (N : Nat) (rec : Nat → Int32 → Int32 → Int32 → Int32 → Int32 → Int32 → Int32 → (Nat → Int32) → Option R_pReader_readSum) (v_length : Int32) (v_tape : (Nat → Int32)) (self : Int32 → Int32 → Int32 → Int32 → Int32 → Int32 → Int32 → Int32 → Int32 → (Nat → Int32) → Option R_pReader_readSum) (x1 : Int32) (x2 : Int32) (v_at : Int32) (v_fault : Int32) (v_faultAt : Int32) (v_kind : Int32) (v_open : Int32) (v_size : Int32) (v_stop : Int32) (v_code : (Nat → Int32)) : Option R_pReader_readSum :=
  if 600 ≤ x2 then
    gd (isB x1) (some (x1, v_at, v_fault, v_faultAt, v_kind, v_open, v_size, v_stop, v_code))
  else
    if x1 = 0 then
      gd (isB x1) (some (x1, v_at, v_fault, v_faultAt, v_kind, v_open, v_size, v_stop, v_code))
    else
      bd4 (pReader_takeMark N 43 v_at v_kind v_length v_stop v_tape) fun rc2 v_at_c2 v_kind_c2 v_stop_c2 =>
      if rc2 = 0 then
        bd4 (pReader_takeMark N 45 v_at_c2 v_kind_c2 v_length v_stop_c2 v_tape) fun rc3 v_at_c3 v_kind_c3 v_stop_c3 =>
        if rc3 = 0 then
          pReader_readSum_b47 N rec v_length v_tape self x2 0 v_at_c3 v_fault v_faultAt v_kind_c3 v_open v_size v_stop_c3 v_code
        else
          pReader_readSum_b47 N rec v_length v_tape self x2 (-8) v_at_c3 v_fault v_faultAt v_kind_c3 v_open v_size v_stop_c3 v_code
      else
        pReader_readSum_b47 N rec v_length v_tape self x2 (-7) v_at_c2 v_fault v_faultAt v_kind_c2 v_open v_size v_stop_c2 v_code
def pReader_readSum_b7 (N : Nat) (rec : Nat → Int32 → Int32 → Int32 → Int32 → Int32 → Int32 → Int32 → (Nat → Int32) → Option R_pReader_readSum) (v_length : Int32) (v_tape : (Nat → Int32)) : Nat → Int32 → Int32 → Int32 → Int32 → Int32 → Int32 → Int32 → Int32 → Int32 → (Nat → Int32) → Option R_pReader_readSum := zlp10 (pReader_readSum_b7_F N rec v_length v_tape)
def pReader_readSum_G (N : Nat) (rec : Nat → Int32 → Int32 → Int32 → Int32 → Int32 → Int32 → Int32 → (Nat → Int32) → Option R_pReader_readSum) (v_length : Int32) (v_tape : (Nat → Int32)) (v_at : Int32) (v_fault : Int32) (v_faultAt : Int32) (v_kind : Int32) (v_open : Int32) (v_size : Int32) (v_stop : Int32) (v_code : (Nat → Int32)) : Option R_pReader_readSum :=
  bd9 (rec 1 v_at v_fault v_faultAt v_kind v_open v_size v_stop v_code) fun rc1 v_at_c1 v_fault_c1 v_faultAt_c1 v_kind_c1 v_open_c1 v_size_c1 v_stop_c1 v_code_c1 =>
  pReader_readSum_b7 N rec v_length v_tape N rc1 0 v_at_c1 v_fault_c1 v_faultAt_c1 v_kind_c1 v_open_c1 v_size_c1 v_stop_c1 v_code_c1
abbrev R_pReader_readTwo : Type := Int32 × Int32 × Int32 × Int32 × Int32 × Int32 × Int32 × Int32 × (Nat → Int32)
def pReader_readTwo_G (N : Nat) (rec : Nat → Int32 → Int32 → Int32 → Int32 → Int32 → Int32 → Int32 → (Nat → Int32) → Option R_pReader_readTwo) (v_length : Int32) (v_tape : (Nat → Int32)) (v_at : Int32) (v_fault : Int32) (v_faultAt : Int32) (v_kind : Int32) (v_open : Int32) (v_size : Int32) (v_stop : Int32) (v_code : (Nat → Int32)) : Option R_pReader_readTwo :=
  bd6 (pReader_needMark N 40 v_at v_fault v_faultAt v_kind v_length v_stop v_tape) fun rc1 v_at_c1 v_fault_c1 v_faultAt_c1 v_kind_c1 v_stop_c1 =>
  if rc1 = 0 then
    some (0, v_at_c1, v_fault_c1, v_faultAt_c1, v_kind_c1, v_open, v_size, v_stop_c1, v_code)
  else
    bd4 (pReader_opens v_at v_fault_c1 v_faultAt_c1 v_open) fun rc2 v_fault_c2 v_faultAt_c2 v_open_c2 =>
    if rc2 = 0 then
      some (0, v_at_c1, v_fault_c2, v_faultAt_c2, v_kind_c1, v_open_c2, v_size, v_stop_c1, v_code)
    else
      bd9 (rec 2 v_at_c1 v_fault_c2 v_faultAt_c2 v_kind_c1 v_open_c2 v_size v_stop_c1 v_code) fun rc3 v_at_c3 v_fault_c3 v_faultAt_c3 v_kind_c3 v_open_c3 v_size_c3 v_stop_c3 v_code_c3 =>
      if rc3 = 0 then
        some (0, v_at_c3, v_fault_c3, v_faultAt_c3, v_kind_c3, v_open_c3, v_size_c3, v_stop_c3, v_code_c3)
      else
        bd6 (pReader_needMark N 44 v_at_c3 v_fault_c3 v_faultAt_c3 v_kind_c3 v_length v_stop_c3 v_tape) fun rc4 v_at_c4 v_fault_c4 v_faultAt_c4 v_kind_c4 v_stop_c4 =>
        if rc4 = 0 then
          some (0, v_at_c4, v_fault_c4, v_faultAt_c4, v_kind_c4, v_open_c3, v_size_c3, v_stop_c4, v_code_c3)
        else
          bd9 (rec 2 v_at_c4 v_fault_c4 v_faultAt_c4 v_kind_c4 v_open_c3 v_size_c3 v_stop_c4 v_code_c3) fun rc5 v_at_c5 v_fault_c5 v_faultAt_c5 v_kind_c5 v_open_c5 v_size_c5 v_stop_c5 v_code_c5 =>
          if rc5 = 0 then
            some (0, v_at_c5, v_fault_c5, v_faultAt_c5, v_kind_c5, v_open_c5, v_size_c5, v_stop_c5, v_code_c5)
          else
            bd6 (pReader_needMark N 41 v_at_c5 v_fault_c5 v_faultAt_c5 v_kind_c5 v_length v_stop_c5 v_tape) fun rc6 v_at_c6 v_fault_c6 v_faultAt_c6 v_kind_c6 v_stop_c6 =>
            if rc6 = 0 then
              some (0, v_at_c6, v_fault_c6, v_faultAt_c6, v_kind_c6, v_open_c5, v_size_c5, v_stop_c6, v_code_c5)
            else
              bd2 (pReader_closes v_open_c5) fun rc7 v_open_c7 =>
              if rc7 = 0 then
                some (0, v_at_c6, v_fault_c6, v_faultAt_c6, v_kind_c6, v_open_c7, v_size_c5, v_stop_c6, v_code_c5)
              else
                some (1, v_at_c6, v_fault_c6, v_faultAt_c6, v_kind_c6, v_open_c7, v_size_c5, v_stop_c6, v_code_c5)
def pG_readPart_readProduct_readSum_readTwo (N : Nat) (v_length : Int32) (v_tape : (Nat → Int32)) : Nat → Nat → Int32 → Int32 → Int32 → Int32 → Int32 → Int32 → Int32 → (Nat → Int32) → Option R_pReader_readPart := gr8 fun rec tag v_at v_fault v_faultAt v_kind v_open v_size v_stop v_code =>
  if tag = 0 then pReader_readPart_G N rec v_length v_tape v_at v_fault v_faultAt v_kind v_open v_size v_stop v_code else
  if tag = 1 then pReader_readProduct_G N rec v_length v_tape v_at v_fault v_faultAt v_kind v_open v_size v_stop v_code else
  if tag = 2 then pReader_readSum_G N rec v_length v_tape v_at v_fault v_faultAt v_kind v_open v_size v_stop v_code else
  pReader_readTwo_G N rec v_length v_tape v_at v_fault v_faultAt v_kind v_open v_size v_stop v_code
def pReader_readPart (N : Nat) (v_at : Int32) (v_fault : Int32) (v_faultAt : Int32) (v_kind : Int32) (v_length : Int32) (v_open : Int32) (v_size : Int32) (v_stop : Int32) (v_code : (Nat → Int32)) (v_tape : (Nat → Int32)) : Option R_pReader_readPart := pG_readPart_readProduct_readSum_readTwo N v_length v_tape 40 0 v_at v_fault v_faultAt v_kind v_open v_size v_stop v_code
def pReader_readProduct (N : Nat) (v_at : Int32) (v_fault : Int32) (v_faultAt : Int32) (v_kind : Int32) (v_length : Int32) (v_open : Int32) (v_size : Int32) (v_stop : Int32) (v_code : (Nat → Int32)) (v_tape : (Nat → Int32)) : Option R_pReader_readProduct := pG_readPart_readProduct_readSum_readTwo N v_length v_tape 40 1 v_at v_fault v_faultAt v_kind v_open v_size v_stop v_code
def pReader_readSum (N : Nat) (v_at : Int32) (v_fault : Int32) (v_faultAt : Int32) (v_kind : Int32) (v_length : Int32) (v_open : Int32) (v_size : Int32) (v_stop : Int32) (v_code : (Nat → Int32)) (v_tape : (Nat → Int32)) : Option R_pReader_readSum := pG_readPart_readProduct_readSum_readTwo N v_length v_tape 40 2 v_at v_fault v_faultAt v_kind v_open v_size v_stop v_code
def pReader_readTwo (N : Nat) (v_at : Int32) (v_fault : Int32) (v_faultAt : Int32) (v_kind : Int32) (v_length : Int32) (v_open : Int32) (v_size : Int32) (v_stop : Int32) (v_code : (Nat → Int32)) (v_tape : (Nat → Int32)) : Option R_pReader_readTwo := pG_readPart_readProduct_readSum_readTwo N v_length v_tape 40 3 v_at v_fault v_faultAt v_kind v_open v_size v_stop v_code
abbrev R_pReader_needWord : Type := Int32 × Int32 × Int32 × Int32 × Int32 × Int32
def pReader_needWord (N : Nat) (a1 : Nat) (v_at : Int32) (v_fault : Int32) (v_faultAt : Int32) (v_kind : Int32) (v_length : Int32) (v_stop : Int32) (v_tape : (Nat → Int32)) : Option R_pReader_needWord :=
  bd4 (pReader_takeWord N a1 v_at v_kind v_length v_stop v_tape) fun rc1 v_at_c1 v_kind_c1 v_stop_c1 =>
  if rc1 = 0 then
    bd3 (pReader_fail 1 v_at_c1 v_fault v_faultAt) fun rc2 v_fault_c2 v_faultAt_c2 =>
    if rc2 = 0 then
      some (0, v_at_c1, v_fault_c2, v_faultAt_c2, v_kind_c1, v_stop_c1)
    else
      some (1, v_at_c1, v_fault_c2, v_faultAt_c2, v_kind_c1, v_stop_c1)
  else
    some (1, v_at_c1, v_fault, v_faultAt, v_kind_c1, v_stop_c1)
abbrev R_pReader_readDuty : Type := Int32 × Dyn × Int32 × Int32 × Int32 × Int32 × Int32 × Int32 × Int32 × (Nat → Int32)
def pReader_readDuty_b131 (N : Nat) (a1 : (Option Nat)) (v_length : Int32) (v_tape : (Nat → Int32)) (s0 : (Option Nat)) (s1 : Int32) (v_D : Dyn) (v_at : Int32) (v_fault : Int32) (v_faultAt : Int32) (v_kind : Int32) (v_open : Int32) (v_size : Int32) (v_stop : Int32) (v_code : (Nat → Int32)) : Option R_pReader_readDuty :=
  bd1 s0 fun y29 =>
  bd1 (dPI v_D y29 0 3 s1) fun v_D30 =>
  bd1 a1 fun y31 =>
  bd1 (dGI v_D30 y31 0 3) fun d32 =>
  if d32 = (-1) then
    some (0, v_D30, v_at, v_fault, v_faultAt, v_kind, v_open, v_size, v_stop, v_code)
  else
    some (1, v_D30, v_at, v_fault, v_faultAt, v_kind, v_open, v_size, v_stop, v_code)
def pReader_readDuty_b110 (N : Nat) (a1 : (Option Nat)) (v_length : Int32) (v_tape : (Nat → Int32)) (s0 : Int32) (v_D : Dyn) (v_at : Int32) (v_fault : Int32) (v_faultAt : Int32) (v_kind : Int32) (v_open : Int32) (v_size : Int32) (v_stop : Int32) (v_code : (Nat → Int32)) : Option R_pReader_readDuty :=
  if s0 = 0 then
    pReader_readDuty_b131 N a1 v_length v_tape a1 (-1) v_D v_at v_fault v_faultAt v_kind v_open v_size v_stop v_code
  else
    bd1 a1 fun y24 =>
    bd1 (dGI v_D y24 0 2) fun d25 =>
    bd6 (pReader_readNumber N d25 999 v_at v_fault v_faultAt v_kind v_length v_stop v_tape) fun rc26 v_at_c26 v_fault_c26 v_faultAt_c26 v_kind_c26 v_stop_c26 =>
    pReader_readDuty_b131 N a1 v_length v_tape (some y24) rc26 v_D v_at_c26 v_fault_c26 v_faultAt_c26 v_kind_c26 v_open v_size v_stop_c26 v_code
def pReader_readDuty_b38 (N : Nat) (a1 : (Option Nat)) (v_length : Int32) (v_tape : (Nat → Int32)) (x2 : Int32) (s0 : Nat) (s1 : Int32) (v_D : Dyn) (v_at : Int32) (v_fault : Int32) (v_faultAt : Int32) (v_kind : Int32) (v_open : Int32) (v_size : Int32) (v_stop : Int32) (v_code : (Nat → Int32)) : Option R_pReader_readDuty :=
  gd (isB s1) <|
  bd1 (dPI v_D s0 0 1 s1) fun v_D27 =>
  gd (isB x2) (some (x2, v_D27, v_at, v_fault, v_faultAt, v_kind, v_open, v_size, v_stop, v_code))
def pReader_readDuty (N : Nat) (a1 : (Option Nat)) (v_D : Dyn) (v_at : Int32) (v_fault : Int32) (v_faultAt : Int32) (v_kind : Int32) (v_length : Int32) (v_open : Int32) (v_size : Int32) (v_stop : Int32) (v_code : (Nat → Int32)) (v_tape : (Nat → Int32)) : Option R_pReader_readDuty :=
  bd4 (pReader_takeWord N 0 v_at v_kind v_length v_stop v_tape) fun rc1 v_at_c1 v_kind_c1 v_stop_c1 =>
  if rc1 = 0 then
    bd4 (pReader_takeWord N 11 v_at_c1 v_kind_c1 v_length v_stop_c1 v_tape) fun rc2 v_at_c2 v_kind_c2 v_stop_c2 =>
    if rc2 = 0 then
      bd4 (pReader_takeWord N 12 v_at_c2 v_kind_c2 v_length v_stop_c2 v_tape) fun rc3 v_at_c3 v_kind_c3 v_stop_c3 =>
      if rc3 = 0 then
        bd4 (pReader_takeWord N 14 v_at_c3 v_kind_c3 v_length v_stop_c3 v_tape) fun rc4 v_at_c4 v_kind_c4 v_stop_c4 =>
        if rc4 = 0 then
          bd3 (pReader_fail 1 v_at_c4 v_fault v_faultAt) fun rc5 v_fault_c5 v_faultAt_c5 =>
          gd (isB rc5) (some (rc5, v_D, v_at_c4, v_fault_c5, v_faultAt_c5, v_kind_c4, v_open, v_size, v_stop_c4, v_code))
        else
          bd1 a1 fun y6 =>
          bd1 (dPI v_D y6 0 0 4) fun v_D7 =>
          bd6 (pReader_readNumber N 2 20 v_at_c4 v_fault v_faultAt v_kind_c4 v_length v_stop_c4 v_tape) fun rc8 v_at_c8 v_fault_c8 v_faultAt_c8 v_kind_c8 v_stop_c8 =>
          bd1 (dPI v_D7 y6 0 2 rc8) fun v_D9 =>
          bd1 (dGI v_D9 y6 0 2) fun d10 =>
          if d10 = (-1) then
            some (0, v_D9, v_at_c8, v_fault_c8, v_faultAt_c8, v_kind_c8, v_open, v_size, v_stop_c8, v_code)
          else
            some (1, v_D9, v_at_c8, v_fault_c8, v_faultAt_c8, v_kind_c8, v_open, v_size, v_stop_c8, v_code)
      else
        bd1 a1 fun y11 =>
        bd1 (dPI v_D y11 0 0 3) fun v_D12 =>
        bd6 (pReader_readNumber N 1 999 v_at_c3 v_fault v_faultAt v_kind_c3 v_length v_stop_c3 v_tape) fun rc13 v_at_c13 v_fault_c13 v_faultAt_c13 v_kind_c13 v_stop_c13 =>
        bd1 (dPI v_D12 y11 0 2 rc13) fun v_D14 =>
        bd1 (dGI v_D14 y11 0 2) fun d15 =>
        if d15 = (-1) then
          pReader_readDuty_b110 N a1 v_length v_tape 0 v_D14 v_at_c13 v_fault_c13 v_faultAt_c13 v_kind_c13 v_open v_size v_stop_c13 v_code
        else
          bd6 (pReader_needWord N 13 v_at_c13 v_fault_c13 v_faultAt_c13 v_kind_c13 v_length v_stop_c13 v_tape) fun rc16 v_at_c16 v_fault_c16 v_faultAt_c16 v_kind_c16 v_stop_c16 =>
          if rc16 = 0 then
            pReader_readDuty_b110 N a1 v_length v_tape 0 v_D14 v_at_c16 v_fault_c16 v_faultAt_c16 v_kind_c16 v_open v_size v_stop_c16 v_code
          else
            pReader_readDuty_b110 N a1 v_length v_tape 1 v_D14 v_at_c16 v_fault_c16 v_faultAt_c16 v_kind_c16 v_open v_size v_stop_c16 v_code
    else
      bd1 a1 fun y17 =>
      bd1 (dPI v_D y17 0 0 2) fun v_D18 =>
      bd9 (pReader_readSum N v_at_c2 v_fault v_faultAt v_kind_c2 v_length v_open v_size v_stop_c2 v_code v_tape) fun rc19 v_at_c19 v_fault_c19 v_faultAt_c19 v_kind_c19 v_open_c19 v_size_c19 v_stop_c19 v_code_c19 =>
      gd (isB rc19) (some (rc19, v_D18, v_at_c19, v_fault_c19, v_faultAt_c19, v_kind_c19, v_open_c19, v_size_c19, v_stop_c19, v_code_c19))
  else
    bd1 a1 fun y20 =>
    bd1 (dPI v_D y20 0 0 1) fun v_D21 =>
    bd9 (pReader_readSum N v_at_c1 v_fault v_faultAt v_kind_c1 v_length v_open v_size v_stop_c1 v_code v_tape) fun rc22 v_at_c22 v_fault_c22 v_faultAt_c22 v_kind_c22 v_open_c22 v_size_c22 v_stop_c22 v_code_c22 =>
    if rc22 = 0 then
      pReader_readDuty_b38 N a1 v_length v_tape rc22 y20 0 v_D21 v_at_c22 v_fault_c22 v_faultAt_c22 v_kind_c22 v_open_c22 v_size_c22 v_stop_c22 v_code_c22
    else
      bd4 (pReader_takeWord N 10 v_at_c22 v_kind_c22 v_length v_stop_c22 v_tape) fun rc23 v_at_c23 v_kind_c23 v_stop_c23 =>
      if rc23 = 0 then
        pReader_readDuty_b38 N a1 v_length v_tape rc22 y20 0 v_D21 v_at_c23 v_fault_c22 v_faultAt_c22 v_kind_c23 v_open_c22 v_size_c22 v_stop_c23 v_code_c22
      else
        pReader_readDuty_b38 N a1 v_length v_tape rc22 y20 1 v_D21 v_at_c23 v_fault_c22 v_faultAt_c22 v_kind_c23 v_open_c22 v_size_c22 v_stop_c23 v_code_c22
abbrev R_pReader_readBoth : Type := Int32 × Int32 × Int32 × Int32 × Int32 × Int32 × Int32 × Int32 × (Nat → Int32)
def pReader_readBoth_b7_F (N : Nat) (rec : Nat → Int32 → Int32 → Int32 → Int32 → Int32 → Int32 → Int32 → (Nat → Int32) → Option R_pReader_readBoth) (v_length : Int32) (v_tape : (Nat → Int32)) (self : Int32 → Int32 → Int32 → Int32 → Int32 → Int32 → Int32 → Int32 → Int32 → (Nat → Int32) → Option R_pReader_readBoth) (x1 : Int32) (x2 : Int32) (v_at : Int32) (v_fault : Int32) (v_faultAt : Int32) (v_kind : Int32) (v_open : Int32) (v_size : Int32) (v_stop : Int32) (v_code : (Nat → Int32)) : Option R_pReader_readBoth :=
  if 600 ≤ x2 then
    gd (isB x1) (some (x1, v_at, v_fault, v_faultAt, v_kind, v_open, v_size, v_stop, v_code))
  else
    if x1 = 0 then
      gd (isB x1) (some (x1, v_at, v_fault, v_faultAt, v_kind, v_open, v_size, v_stop, v_code))
    else
      bd4 (pReader_takeWord N 19 v_at v_kind v_length v_stop v_tape) fun rc2 v_at_c2 v_kind_c2 v_stop_c2 =>
      if rc2 = 0 then
        gd (isB x1) (some (x1, v_at_c2, v_fault, v_faultAt, v_kind_c2, v_open, v_size, v_stop_c2, v_code))
      else
        bd9 (rec 1 v_at_c2 v_fault v_faultAt v_kind_c2 v_open v_size v_stop_c2 v_code) fun rc3 v_at_c3 v_fault_c3 v_faultAt_c3 v_kind_c3 v_open_c3 v_size_c3 v_stop_c3 v_code_c3 =>
        if rc3 = 0 then
          self 0 (x2 + 1) v_at_c3 v_fault_c3 v_faultAt_c3 v_kind_c3 v_open_c3 v_size_c3 v_stop_c3 v_code_c3
        else
          bd5 (pReader_emit (-16) v_at_c3 v_fault_c3 v_faultAt_c3 v_size_c3 v_code_c3) fun rc4 v_fault_c4 v_faultAt_c4 v_size_c4 v_code_c4 =>
          if rc4 = 0 then
            self 0 (x2 + 1) v_at_c3 v_fault_c4 v_faultAt_c4 v_kind_c3 v_open_c3 v_size_c4 v_stop_c3 v_code_c4
          else
            self 1 (x2 + 1) v_at_c3 v_fault_c4 v_faultAt_c4 v_kind_c3 v_open_c3 v_size_c4 v_stop_c3 v_code_c4
def pReader_readBoth_b7 (N : Nat) (rec : Nat → Int32 → Int32 → Int32 → Int32 → Int32 → Int32 → Int32 → (Nat → Int32) → Option R_pReader_readBoth) (v_length : Int32) (v_tape : (Nat → Int32)) : Nat → Int32 → Int32 → Int32 → Int32 → Int32 → Int32 → Int32 → Int32 → Int32 → (Nat → Int32) → Option R_pReader_readBoth := zlp10 (pReader_readBoth_b7_F N rec v_length v_tape)
def pReader_readBoth_G (N : Nat) (rec : Nat → Int32 → Int32 → Int32 → Int32 → Int32 → Int32 → Int32 → (Nat → Int32) → Option R_pReader_readBoth) (v_length : Int32) (v_tape : (Nat → Int32)) (v_at : Int32) (v_fault : Int32) (v_faultAt : Int32) (v_kind : Int32) (v_open : Int32) (v_size : Int32) (v_stop : Int32) (v_code : (Nat → Int32)) : Option R_pReader_readBoth :=
  bd9 (rec 1 v_at v_fault v_faultAt v_kind v_open v_size v_stop v_code) fun rc1 v_at_c1 v_fault_c1 v_faultAt_c1 v_kind_c1 v_open_c1 v_size_c1 v_stop_c1 v_code_c1 =>
  pReader_readBoth_b7 N rec v_length v_tape N rc1 0 v_at_c1 v_fault_c1 v_faultAt_c1 v_kind_c1 v_open_c1 v_size_c1 v_stop_c1 v_code_c1
abbrev R_pReader_readFact : Type := Int32 × Int32 × Int32 × Int32 × Int32 × Int32 × Int32 × Int32 × (Nat → Int32)
def pReader_readFact_b209 (N : Nat) (rec : Nat → Int32 → Int32 → Int32 → Int32 → Int32 → Int32 → Int32 → (Nat → Int32) → Option R_pReader_readFact) (v_length : Int32) (v_tape : (Nat → Int32)) (s0 : Int32) (v_at : Int32) (v_fault : Int32) (v_faultAt : Int32) (v_kind : Int32) (v_open : Int32) (v_size : Int32) (v_stop : Int32) (v_code : (Nat → Int32)) : Option R_pReader_readFact :=
  if s0 = 0 then
    bd3 (pReader_fail 1 v_at v_fault v_faultAt) fun rc23 v_fault_c23 v_faultAt_c23 =>
    gd (isB rc23) (some (rc23, v_at, v_fault_c23, v_faultAt_c23, v_kind, v_open, v_size, v_stop, v_code))
  else
    bd9 (pReader_readSum N v_at v_fault v_faultAt v_kind v_length v_open v_size v_stop v_code v_tape) fun rc21 v_at_c21 v_fault_c21 v_faultAt_c21 v_kind_c21 v_open_c21 v_size_c21 v_stop_c21 v_code_c21 =>
    if rc21 = 0 then
      some (0, v_at_c21, v_fault_c21, v_faultAt_c21, v_kind_c21, v_open_c21, v_size_c21, v_stop_c21, v_code_c21)
    else
      bd5 (pReader_emit s0 v_at_c21 v_fault_c21 v_faultAt_c21 v_size_c21 v_code_c21) fun rc22 v_fault_c22 v_faultAt_c22 v_size_c22 v_code_c22 =>
      if rc22 = 0 then
        some (0, v_at_c21, v_fault_c22, v_faultAt_c22, v_kind_c21, v_open_c21, v_size_c22, v_stop_c21, v_code_c22)
      else
        some (1, v_at_c21, v_fault_c22, v_faultAt_c22, v_kind_c21, v_open_c21, v_size_c22, v_stop_c21, v_code_c22)
def pReader_readFact_G (N : Nat) (rec : Nat → Int32 → Int32 → Int32 → Int32 → Int32 → Int32 → Int32 → (Nat → Int32) → Option R_pReader_readFact) (v_length : Int32) (v_tape : (Nat → Int32)) (v_at : Int32) (v_fault : Int32) (v_faultAt : Int32) (v_kind : Int32) (v_open : Int32) (v_size : Int32) (v_stop : Int32) (v_code : (Nat → Int32)) : Option R_pReader_readFact :=
  bd4 (pReader_takeWord N 16 v_at v_kind v_length v_stop v_tape) fun rc1 v_at_c1 v_kind_c1 v_stop_c1 =>
  if rc1 = 0 then
    bd4 (pReader_takeMark N 91 v_at_c1 v_kind_c1 v_length v_stop_c1 v_tape) fun rc2 v_at_c2 v_kind_c2 v_stop_c2 =>
    if rc2 = 0 then
      bd4 (pReader_takeWord N 17 v_at_c2 v_kind_c2 v_length v_stop_c2 v_tape) fun rc3 v_at_c3 v_kind_c3 v_stop_c3 =>
      if rc3 = 0 then
        bd4 (pReader_takeWord N 18 v_at_c3 v_kind_c3 v_length v_stop_c3 v_tape) fun rc4 v_at_c4 v_kind_c4 v_stop_c4 =>
        if rc4 = 0 then
          bd9 (pReader_readSum N v_at_c4 v_fault v_faultAt v_kind_c4 v_length v_open v_size v_stop_c4 v_code v_tape) fun rc5 v_at_c5 v_fault_c5 v_faultAt_c5 v_kind_c5 v_open_c5 v_size_c5 v_stop_c5 v_code_c5 =>
          if rc5 = 0 then
            some (0, v_at_c5, v_fault_c5, v_faultAt_c5, v_kind_c5, v_open_c5, v_size_c5, v_stop_c5, v_code_c5)
          else
            bd4 (pReader_takeMark N 60 v_at_c5 v_kind_c5 v_length v_stop_c5 v_tape) fun rc6 v_at_c6 v_kind_c6 v_stop_c6 =>
            if rc6 = 0 then
              bd4 (pReader_takeMark N 62 v_at_c6 v_kind_c6 v_length v_stop_c6 v_tape) fun rc7 v_at_c7 v_kind_c7 v_stop_c7 =>
              if rc7 = 0 then
                bd4 (pReader_takeMark N 61 v_at_c7 v_kind_c7 v_length v_stop_c7 v_tape) fun rc8 v_at_c8 v_kind_c8 v_stop_c8 =>
                if rc8 = 0 then
                  pReader_readFact_b209 N rec v_length v_tape 0 v_at_c8 v_fault_c5 v_faultAt_c5 v_kind_c8 v_open_c5 v_size_c5 v_stop_c8 v_code_c5
                else
                  pReader_readFact_b209 N rec v_length v_tape (-15) v_at_c8 v_fault_c5 v_faultAt_c5 v_kind_c8 v_open_c5 v_size_c5 v_stop_c8 v_code_c5
              else
                pReader_readFact_b209 N rec v_length v_tape (-14) v_at_c7 v_fault_c5 v_faultAt_c5 v_kind_c7 v_open_c5 v_size_c5 v_stop_c7 v_code_c5
            else
              pReader_readFact_b209 N rec v_length v_tape (-13) v_at_c6 v_fault_c5 v_faultAt_c5 v_kind_c6 v_open_c5 v_size_c5 v_stop_c6 v_code_c5
        else
          bd6 (pReader_readNumber N 0 7 v_at_c4 v_fault v_faultAt v_kind_c4 v_length v_stop_c4 v_tape) fun rc9 v_at_c9 v_fault_c9 v_faultAt_c9 v_kind_c9 v_stop_c9 =>
          if rc9 = (-1) then
            some (0, v_at_c9, v_fault_c9, v_faultAt_c9, v_kind_c9, v_open, v_size, v_stop_c9, v_code)
          else
            bd5 (pReader_emit rc9 v_at_c9 v_fault_c9 v_faultAt_c9 v_size v_code) fun rc10 v_fault_c10 v_faultAt_c10 v_size_c10 v_code_c10 =>
            if rc10 = 0 then
              some (0, v_at_c9, v_fault_c10, v_faultAt_c10, v_kind_c9, v_open, v_size_c10, v_stop_c9, v_code_c10)
            else
              bd5 (pReader_emit (-6) v_at_c9 v_fault_c10 v_faultAt_c10 v_size_c10 v_code_c10) fun rc11 v_fault_c11 v_faultAt_c11 v_size_c11 v_code_c11 =>
              if rc11 = 0 then
                some (0, v_at_c9, v_fault_c11, v_faultAt_c11, v_kind_c9, v_open, v_size_c11, v_stop_c9, v_code_c11)
              else
                some (1, v_at_c9, v_fault_c11, v_faultAt_c11, v_kind_c9, v_open, v_size_c11, v_stop_c9, v_code_c11)
      else
        bd5 (pReader_emit 1 v_at_c3 v_fault v_faultAt v_size v_code) fun rc12 v_fault_c12 v_faultAt_c12 v_size_c12 v_code_c12 =>
        gd (isB rc12) (some (rc12, v_at_c3, v_fault_c12, v_faultAt_c12, v_kind_c3, v_open, v_size_c12, v_stop_c3, v_code_c12))
    else
      bd4 (pReader_opens v_at v_fault v_faultAt v_open) fun rc13 v_fault_c13 v_faultAt_c13 v_open_c13 =>
      if rc13 = 0 then
        some (0, v_at_c2, v_fault_c13, v_faultAt_c13, v_kind_c2, v_open_c13, v_size, v_stop_c2, v_code)
      else
        bd9 (rec 2 v_at_c2 v_fault_c13 v_faultAt_c13 v_kind_c2 v_open_c13 v_size v_stop_c2 v_code) fun rc14 v_at_c14 v_fault_c14 v_faultAt_c14 v_kind_c14 v_open_c14 v_size_c14 v_stop_c14 v_code_c14 =>
        if rc14 = 0 then
          some (0, v_at_c14, v_fault_c14, v_faultAt_c14, v_kind_c14, v_open_c14, v_size_c14, v_stop_c14, v_code_c14)
        else
          bd6 (pReader_needMark N 93 v_at_c14 v_fault_c14 v_faultAt_c14 v_kind_c14 v_length v_stop_c14 v_tape) fun rc15 v_at_c15 v_fault_c15 v_faultAt_c15 v_kind_c15 v_stop_c15 =>
          if rc15 = 0 then
            some (0, v_at_c15, v_fault_c15, v_faultAt_c15, v_kind_c15, v_open_c14, v_size_c14, v_stop_c15, v_code_c14)
          else
            bd2 (pReader_closes v_open_c14) fun rc16 v_open_c16 =>
            if rc16 = 0 then
              some (0, v_at_c15, v_fault_c15, v_faultAt_c15, v_kind_c15, v_open_c16, v_size_c14, v_stop_c15, v_code_c14)
            else
              some (1, v_at_c15, v_fault_c15, v_faultAt_c15, v_kind_c15, v_open_c16, v_size_c14, v_stop_c15, v_code_c14)
  else
    bd4 (pReader_opens v_at v_fault v_faultAt v_open) fun rc17 v_fault_c17 v_faultAt_c17 v_open_c17 =>
    if rc17 = 0 then
      some (0, v_at_c1, v_fault_c17, v_faultAt_c17, v_kind_c1, v_open_c17, v_size, v_stop_c1, v_code)
    else
      bd9 (rec 1 v_at_c1 v_fault_c17 v_faultAt_c17 v_kind_c1 v_open_c17 v_size v_stop_c1 v_code) fun rc18 v_at_c18 v_fault_c18 v_faultAt_c18 v_kind_c18 v_open_c18 v_size_c18 v_stop_c18 v_code_c18 =>
      if rc18 = 0 then
        some (0, v_at_c18, v_fault_c18, v_faultAt_c18, v_kind_c18, v_open_c18, v_size_c18, v_stop_c18, v_code_c18)
      else
        bd5 (pReader_emit (-5) v_at_c18 v_fault_c18 v_faultAt_c18 v_size_c18 v_code_c18) fun rc19 v_fault_c19 v_faultAt_c19 v_size_c19 v_code_c19 =>
        if rc19 = 0 then
          some (0, v_at_c18, v_fault_c19, v_faultAt_c19, v_kind_c18, v_open_c18, v_size_c19, v_stop_c18, v_code_c19)
        else
          bd2 (pReader_closes v_open_c18) fun rc20 v_open_c20 =>
          if rc20 = 0 then
            some (0, v_at_c18, v_fault_c19, v_faultAt_c19, v_kind_c18, v_open_c20, v_size_c19, v_stop_c18, v_code_c19)
          else
            some (1, v_at_c18, v_fault_c19, v_faultAt_c19, v_kind_c18, v_open_c20, v_size_c19, v_stop_c18, v_code_c19)
abbrev R_pReader_readTest : Type := Int32 × Int32 × Int32 × Int32 × Int32 × Int32 × Int32 × Int32 × (Nat → Int32)
def pReader_readTest_b7_F (N : Nat) (rec : Nat → Int32 → Int32 → Int32 → Int32 → Int32 → Int32 → Int32 → (Nat → Int32) → Option R_pReader_readTest) (v_length : Int32) (v_tape : (Nat → Int32)) (self : Int32 → Int32 → Int32 → Int32 → Int32 → Int32 → Int32 → Int32 → Int32 → (Nat → Int32) → Option R_pReader_readTest) (x1 : Int32) (x2 : Int32) (v_at : Int32) (v_fault : Int32) (v_faultAt : Int32) (v_kind : Int32) (v_open : Int32) (v_size : Int32) (v_stop : Int32) (v_code : (Nat → Int32)) : Option R_pReader_readTest :=
  if 600 ≤ x2 then
    gd (isB x1) (some (x1, v_at, v_fault, v_faultAt, v_kind, v_open, v_size, v_stop, v_code))
  else
    if x1 = 0 then
      gd (isB x1) (some (x1, v_at, v_fault, v_faultAt, v_kind, v_open, v_size, v_stop, v_code))
    else
      bd4 (pReader_takeWord N 20 v_at v_kind v_length v_stop v_tape) fun rc2 v_at_c2 v_kind_c2 v_stop_c2 =>
      if rc2 = 0 then
        gd (isB x1) (some (x1, v_at_c2, v_fault, v_faultAt, v_kind_c2, v_open, v_size, v_stop_c2, v_code))
      else
        bd9 (rec 0 v_at_c2 v_fault v_faultAt v_kind_c2 v_open v_size v_stop_c2 v_code) fun rc3 v_at_c3 v_fault_c3 v_faultAt_c3 v_kind_c3 v_open_c3 v_size_c3 v_stop_c3 v_code_c3 =>
        if rc3 = 0 then
          self 0 (x2 + 1) v_at_c3 v_fault_c3 v_faultAt_c3 v_kind_c3 v_open_c3 v_size_c3 v_stop_c3 v_code_c3
        else
          bd5 (pReader_emit (-17) v_at_c3 v_fault_c3 v_faultAt_c3 v_size_c3 v_code_c3) fun rc4 v_fault_c4 v_faultAt_c4 v_size_c4 v_code_c4 =>
          if rc4 = 0 then
            self 0 (x2 + 1) v_at_c3 v_fault_c4 v_faultAt_c4 v_kind_c3 v_open_c3 v_size_c4 v_stop_c3 v_code_c4
          else
            self 1 (x2 + 1) v_at_c3 v_fault_c4 v_faultAt_c4 v_kind_c3 v_open_c3 v_size_c4 v_stop_c3 v_code_c4
def pReader_readTest_b7 (N : Nat) (rec : Nat → Int32 → Int32 → Int32 → Int32 → Int32 → Int32 → Int32 → (Nat → Int32) → Option R_pReader_readTest) (v_length : Int32) (v_tape : (Nat → Int32)) : Nat → Int32 → Int32 → Int32 → Int32 → Int32 → Int32 → Int32 → Int32 → Int32 → (Nat → Int32) → Option R_pReader_readTest := zlp10 (pReader_readTest_b7_F N rec v_length v_tape)
def pReader_readTest_G (N : Nat) (rec : Nat → Int32 → Int32 → Int32 → Int32 → Int32 → Int32 → Int32 → (Nat → Int32) → Option R_pReader_readTest) (v_length : Int32) (v_tape : (Nat → Int32)) (v_at : Int32) (v_fault : Int32) (v_faultAt : Int32) (v_kind : Int32) (v_open : Int32) (v_size : Int32) (v_stop : Int32) (v_code : (Nat → Int32)) : Option R_pReader_readTest :=
  bd9 (rec 0 v_at v_fault v_faultAt v_kind v_open v_size v_stop v_code) fun rc1 v_at_c1 v_fault_c1 v_faultAt_c1 v_kind_c1 v_open_c1 v_size_c1 v_stop_c1 v_code_c1 =>
  pReader_readTest_b7 N rec v_length v_tape N rc1 0 v_at_c1 v_fault_c1 v_faultAt_c1 v_kind_c1 v_open_c1 v_size_c1 v_stop_c1 v_code_c1
def pG_readBoth_readFact_readTest (N : Nat) (v_length : Int32) (v_tape : (Nat → Int32)) : Nat → Nat → Int32 → Int32 → Int32 → Int32 → Int32 → Int32 → Int32 → (Nat → Int32) → Option R_pReader_readBoth := gr8 fun rec tag v_at v_fault v_faultAt v_kind v_open v_size v_stop v_code =>
  if tag = 0 then pReader_readBoth_G N rec v_length v_tape v_at v_fault v_faultAt v_kind v_open v_size v_stop v_code else
  if tag = 1 then pReader_readFact_G N rec v_length v_tape v_at v_fault v_faultAt v_kind v_open v_size v_stop v_code else
  pReader_readTest_G N rec v_length v_tape v_at v_fault v_faultAt v_kind v_open v_size v_stop v_code
def pReader_readBoth (N : Nat) (v_at : Int32) (v_fault : Int32) (v_faultAt : Int32) (v_kind : Int32) (v_length : Int32) (v_open : Int32) (v_size : Int32) (v_stop : Int32) (v_code : (Nat → Int32)) (v_tape : (Nat → Int32)) : Option R_pReader_readBoth := pG_readBoth_readFact_readTest N v_length v_tape 40 0 v_at v_fault v_faultAt v_kind v_open v_size v_stop v_code
def pReader_readFact (N : Nat) (v_at : Int32) (v_fault : Int32) (v_faultAt : Int32) (v_kind : Int32) (v_length : Int32) (v_open : Int32) (v_size : Int32) (v_stop : Int32) (v_code : (Nat → Int32)) (v_tape : (Nat → Int32)) : Option R_pReader_readFact := pG_readBoth_readFact_readTest N v_length v_tape 40 1 v_at v_fault v_faultAt v_kind v_open v_size v_stop v_code
def pReader_readTest (N : Nat) (v_at : Int32) (v_fault : Int32) (v_faultAt : Int32) (v_kind : Int32) (v_length : Int32) (v_open : Int32) (v_size : Int32) (v_stop : Int32) (v_code : (Nat → Int32)) (v_tape : (Nat → Int32)) : Option R_pReader_readTest := pG_readBoth_readFact_readTest N v_length v_tape 40 2 v_at v_fault v_faultAt v_kind v_open v_size v_stop v_code
abbrev R_pReader_readStatement : Type := Int32 × Dyn × Int32 × Int32 × Int32 × Int32 × Int32 × Int32 × Int32 × (Nat → Int32) × (Nat → Option Nat)
def pReader_readStatement_b65 (N : Nat) (v_count : Int32) (v_length : Int32) (v_tape : (Nat → Int32)) (x1 : Nat) (s0 : Int32) (v_D : Dyn) (v_at : Int32) (v_fault : Int32) (v_faultAt : Int32) (v_kind : Int32) (v_open : Int32) (v_size : Int32) (v_stop : Int32) (v_code : (Nat → Int32)) (v_statements : (Nat → Option Nat)) : Option R_pReader_readStatement :=
  bd1 (dPI v_D x1 0 6 v_size) fun v_D10 =>
  if s0 = 0 then
    some (0, v_D10, v_at, v_fault, v_faultAt, v_kind, v_open, v_size, v_stop, v_code, v_statements)
  else
    bd6 (pReader_needMark N 59 v_at v_fault v_faultAt v_kind v_length v_stop v_tape) fun rc11 v_at_c11 v_fault_c11 v_faultAt_c11 v_kind_c11 v_stop_c11 =>
    if rc11 = 0 then
      some (0, v_D10, v_at_c11, v_fault_c11, v_faultAt_c11, v_kind_c11, v_open, v_size, v_stop_c11, v_code, v_statements)
    else
      some (1, v_D10, v_at_c11, v_fault_c11, v_faultAt_c11, v_kind_c11, v_open, v_size, v_stop_c11, v_code, v_statements)
def pReader_readStatement (N : Nat) (v_D : Dyn) (v_at : Int32) (v_count : Int32) (v_fault : Int32) (v_faultAt : Int32) (v_kind : Int32) (v_length : Int32) (v_open : Int32) (v_size : Int32) (v_stop : Int32) (v_code : (Nat → Int32)) (v_statements : (Nat → Option Nat)) (v_tape : (Nat → Int32)) : Option R_pReader_readStatement :=
  bd1 (some (dN v_D)) fun y1 =>
  bd0 (pStatement_init y1) <|
  gd (dRt (dNew v_D 0) (some y1) 0) <|
  gd (ib v_count 24) <|
  bd1 (dPI (dNew v_D 0) y1 0 4 v_size) fun v_D5 =>
  bd10 (pReader_readDuty N (some y1) v_D5 v_at v_fault v_faultAt v_kind v_length v_open v_size v_stop v_code v_tape) fun rc6 v_D_c6 v_at_c6 v_fault_c6 v_faultAt_c6 v_kind_c6 v_open_c6 v_size_c6 v_stop_c6 v_code_c6 =>
  bd1 (dPI v_D_c6 y1 0 5 v_size_c6) fun v_D7 =>
  if rc6 = 0 then
    pReader_readStatement_b65 N v_count v_length v_tape y1 0 v_D7 v_at_c6 v_fault_c6 v_faultAt_c6 v_kind_c6 v_open_c6 v_size_c6 v_stop_c6 v_code_c6 (va_up v_statements (ix v_count) (some y1))
  else
    bd6 (pReader_needWord N 15 v_at_c6 v_fault_c6 v_faultAt_c6 v_kind_c6 v_length v_stop_c6 v_tape) fun rc8 v_at_c8 v_fault_c8 v_faultAt_c8 v_kind_c8 v_stop_c8 =>
    if rc8 = 0 then
      pReader_readStatement_b65 N v_count v_length v_tape y1 0 v_D7 v_at_c8 v_fault_c8 v_faultAt_c8 v_kind_c8 v_open_c6 v_size_c6 v_stop_c8 v_code_c6 (va_up v_statements (ix v_count) (some y1))
    else
      bd9 (pReader_readTest N v_at_c8 v_fault_c8 v_faultAt_c8 v_kind_c8 v_length v_open_c6 v_size_c6 v_stop_c8 v_code_c6 v_tape) fun rc9 v_at_c9 v_fault_c9 v_faultAt_c9 v_kind_c9 v_open_c9 v_size_c9 v_stop_c9 v_code_c9 =>
      if rc9 = 0 then
        pReader_readStatement_b65 N v_count v_length v_tape y1 0 v_D7 v_at_c9 v_fault_c9 v_faultAt_c9 v_kind_c9 v_open_c9 v_size_c9 v_stop_c9 v_code_c9 (va_up v_statements (ix v_count) (some y1))
      else
        pReader_readStatement_b65 N v_count v_length v_tape y1 1 v_D7 v_at_c9 v_fault_c9 v_faultAt_c9 v_kind_c9 v_open_c9 v_size_c9 v_stop_c9 v_code_c9 (va_up v_statements (ix v_count) (some y1))
abbrev R_pReader_read : Type := (Option Nat) × Dyn × Int32 × Int32 × Int32 × Int32 × Int32 × Int32 × Int32 × Int32 × Int32 × (Nat → Int32) × (Nat → Option Nat)
def pReader_read_b41_F (N : Nat) (v_tape : (Nat → Int32)) (v_length : Int32) (k79 : Int32 → Dyn → Int32 → Int32 → Int32 → Int32 → Int32 → Int32 → Int32 → Int32 → (Nat → Int32) → (Nat → Option Nat) → Option R_pReader_read) (self : Int32 → Dyn → Int32 → Int32 → Int32 → Int32 → Int32 → Int32 → Int32 → Int32 → (Nat → Int32) → (Nat → Option Nat) → Option R_pReader_read) (x1 : Int32) (v_D : Dyn) (v_at : Int32) (v_count : Int32) (v_fault : Int32) (v_faultAt : Int32) (v_kind : Int32) (v_open : Int32) (v_size : Int32) (v_stop : Int32) (v_code : (Nat → Int32)) (v_statements : (Nat → Option Nat)) : Option R_pReader_read :=
  gd (ib v_count 25) <|
  if x1 = 0 then
    k79 x1 v_D v_at v_count v_fault v_faultAt v_kind v_open v_size v_stop v_code v_statements
  else
    if v_kind = 0 then
      k79 x1 v_D v_at v_count v_fault v_faultAt v_kind v_open v_size v_stop v_code v_statements
    else
      if 24 ≤ v_count then
        k79 x1 v_D v_at v_count v_fault v_faultAt v_kind v_open v_size v_stop v_code v_statements
      else
        bd11 (pReader_readStatement N v_D v_at v_count v_fault v_faultAt v_kind v_length v_open v_size v_stop v_code v_statements v_tape) fun rc3 v_D_c3 v_at_c3 v_fault_c3 v_faultAt_c3 v_kind_c3 v_open_c3 v_size_c3 v_stop_c3 v_code_c3 v_statements_c3 =>
        self rc3 v_D_c3 v_at_c3 (v_count + 1) v_fault_c3 v_faultAt_c3 v_kind_c3 v_open_c3 v_size_c3 v_stop_c3 v_code_c3 v_statements_c3
def pReader_read_b41 (N : Nat) (v_tape : (Nat → Int32)) (v_length : Int32) (k79 : Int32 → Dyn → Int32 → Int32 → Int32 → Int32 → Int32 → Int32 → Int32 → Int32 → (Nat → Int32) → (Nat → Option Nat) → Option R_pReader_read) : Nat → Int32 → Dyn → Int32 → Int32 → Int32 → Int32 → Int32 → Int32 → Int32 → Int32 → (Nat → Int32) → (Nat → Option Nat) → Option R_pReader_read := zlp12 (pReader_read_b41_F N v_tape v_length k79)
def pReader_read_b100 (N : Nat) (v_tape : (Nat → Int32)) (x1 : Int32) (v_D : Dyn) (v_at : Int32) (v_count : Int32) (v_fault : Int32) (v_faultAt : Int32) (v_kind : Int32) (v_length : Int32) (v_open : Int32) (v_size : Int32) (v_stop : Int32) (v_code : (Nat → Int32)) (v_statements : (Nat → Option Nat)) : Option R_pReader_read :=
  bd1 (pReader_wipe v_length) fun v_length_c5 =>
  if x1 = 0 then
    some (none, v_D, v_at, v_count, v_fault, v_faultAt, v_kind, v_length_c5, v_open, v_size, v_stop, v_code, v_statements)
  else
    bd1 (some (dN v_D)) fun y6 =>
    bd1 (pWrit_init y6 v_count v_size v_statements v_code (dNew v_D 1)) fun v_D_c7 =>
    some ((some y6), v_D_c7, v_at, v_count, v_fault, v_faultAt, v_kind, v_length_c5, v_open, v_size, v_stop, v_code, v_statements)
def pReader_read_b79 (N : Nat) (v_tape : (Nat → Int32)) (x1 : Int32) (v_D : Dyn) (v_at : Int32) (v_count : Int32) (v_fault : Int32) (v_faultAt : Int32) (v_kind : Int32) (v_length : Int32) (v_open : Int32) (v_size : Int32) (v_stop : Int32) (v_code : (Nat → Int32)) (v_statements : (Nat → Option Nat)) : Option R_pReader_read :=
  if x1 = 0 then
    pReader_read_b100 N v_tape x1 v_D v_at v_count v_fault v_faultAt v_kind v_length v_open v_size v_stop v_code v_statements
  else
    if v_kind = 0 then
      pReader_read_b100 N v_tape x1 v_D v_at v_count v_fault v_faultAt v_kind v_length v_open v_size v_stop v_code v_statements
    else
      bd3 (pReader_fail 4 v_at v_fault v_faultAt) fun rc4 v_fault_c4 v_faultAt_c4 =>
      pReader_read_b100 N v_tape rc4 v_D v_at v_count v_fault_c4 v_faultAt_c4 v_kind v_length v_open v_size v_stop v_code v_statements
def pReader_read (N : Nat) (v_D : Dyn) (v_at : Int32) (v_count : Int32) (v_fault : Int32) (v_faultAt : Int32) (v_kind : Int32) (v_length : Int32) (v_open : Int32) (v_size : Int32) (v_stop : Int32) (v_code : (Nat → Int32)) (v_statements : (Nat → Option Nat)) (v_tape : (Nat → Int32)) : Option R_pReader_read :=
  bd3 (pReader_next N v_at 3 v_length 0 v_tape) fun v_at_c1 v_kind_c1 v_stop_c1 =>
  pReader_read_b41 N v_tape v_length (fun x1_k1 v_D_k2 v_at_k3 v_count_k4 v_fault_k5 v_faultAt_k6 v_kind_k7 => pReader_read_b79 N v_tape x1_k1 v_D_k2 v_at_k3 v_count_k4 v_fault_k5 v_faultAt_k6 v_kind_k7 v_length) N 1 v_D v_at_c1 0 0 (-1) v_kind_c1 0 0 v_stop_c1 v_code v_statements
abbrev R_pReader_faultFound : Type := Int32
def pReader_faultFound (v_fault : Int32) : Option R_pReader_faultFound :=
  some v_fault
abbrev R_pReader_faultPlace : Type := Int32
def pReader_faultPlace (v_faultAt : Int32) : Option R_pReader_faultPlace :=
  some v_faultAt
