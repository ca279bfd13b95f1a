set_option maxHeartbeats 4000000
set_option maxRecDepth 100000
def iReader_hasRoom (v_length : Int) : Option Int :=
  gd (jr (v_length + 20)) <|
  if 600 < v_length + 20 then
    some 0
  else
    some 1
abbrev R_iReader_append : Type := Int × Int × (Nat → Int)
def iReader_append_b3_F (N : Nat) (a1 : Int) (k50 : Int → (Nat → Int) → Option R_iReader_append) (self : Int → Int → (Nat → Int) → Option R_iReader_append) (x2 : Int) (v_length : Int) (v_tape : (Nat → Int)) : Option R_iReader_append :=
  if x2 < 0 then
    k50 v_length v_tape
  else
    if 600 ≤ v_length then
      k50 v_length v_tape
    else
      gd (jb v_length 600) <|
      gd (jr (x2 + (-8))) <|
      gd (jr (v_length + 1)) <|
      self (x2 + (-8)) (v_length + 1) (va_up v_tape v_length.toNat (jn16 (jand (jush a1 x2) 255)))
def iReader_append_b3 (N : Nat) (a1 : Int) (k50 : Int → (Nat → Int) → Option R_iReader_append) : Nat → Int → Int → (Nat → Int) → Option R_iReader_append := zlp3 (iReader_append_b3_F N a1 k50)
def iReader_append_b50 (N : Nat) (a1 : Int) (v_length : Int) (v_tape : (Nat → Int)) : Option R_iReader_append :=
  some (v_length, v_length, v_tape)
def iReader_append (N : Nat) (a1 : Int) (v_length : Int) (v_tape : (Nat → Int)) : Option R_iReader_append :=
  iReader_append_b3 N a1 (fun e2_ e3_ => iReader_append_b50 N a1 e2_ e3_) N 24 v_length v_tape
abbrev R_iReader_shorten : Type := Int × Int
def iReader_shorten (a1 : Int) (v_length : Int) : Option R_iReader_shorten :=
  if a1 < 0 then
    some (0, v_length)
  else
    if a1 ≤ v_length then
      some (1, a1)
    else
      some (0, v_length)
def iReader_wipe (v_length : Int) : Option Int :=
  some 0
abbrev R_iReader_next : Type := Int × Int × Int
def iReader_next_b66 (N : Nat) (v_length : Int) (v_tape : (Nat → Int)) (self : Int → Option R_iReader_next) (k79 : Int → Option R_iReader_next) (x1 : Int) (x2 : Int) (v_at : Int) (v_kind : Int) (v_stop : Int) : Option R_iReader_next :=
  gd (jr (v_stop + 1)) <|
  self (v_stop + 1)
def iReader_next_b27_F (N : Nat) (v_length : Int) (v_tape : (Nat → Int)) (x1 : Int) (x2 : Int) (v_at : Int) (v_kind : Int) (k79 : Int → Option R_iReader_next) (self : Int → Option R_iReader_next) (v_stop : Int) : Option R_iReader_next :=
  if v_length ≤ v_stop then
    k79 v_stop
  else
    gd (jb v_stop 600) <|
    if v_tape v_stop.toNat = 32 then
      iReader_next_b66 N v_length v_tape self k79 x1 x2 v_at v_kind v_stop
    else
      if v_tape v_stop.toNat = 10 then
        iReader_next_b66 N v_length v_tape self k79 x1 x2 v_at v_kind v_stop
      else
        k79 v_stop
def iReader_next_b27 (N : Nat) (v_length : Int) (v_tape : (Nat → Int)) (x1 : Int) (x2 : Int) (v_at : Int) (v_kind : Int) (k79 : Int → Option R_iReader_next) : Nat → Int → Option R_iReader_next := zlp1 (iReader_next_b27_F N v_length v_tape x1 x2 v_at v_kind k79)
def iReader_next_b104_F (N : Nat) (v_length : Int) (v_tape : (Nat → Int)) (x1 : Int) (x2 : Int) (v_at : Int) (v_kind : Int) (k156 : Int → Option R_iReader_next) (self : Int → Option R_iReader_next) (v_stop : Int) : Option R_iReader_next :=
  if v_length ≤ v_stop then
    k156 v_stop
  else
    gd (jb v_stop 600) <|
    if v_tape v_stop.toNat < 97 then
      k156 v_stop
    else
      if 122 < v_tape v_stop.toNat then
        k156 v_stop
      else
        gd (jr (v_stop + 1)) <|
        self (v_stop + 1)
def iReader_next_b104 (N : Nat) (v_length : Int) (v_tape : (Nat → Int)) (x1 : Int) (x2 : Int) (v_at : Int) (v_kind : Int) (k156 : Int → Option R_iReader_next) : Nat → Int → Option R_iReader_next := zlp1 (iReader_next_b104_F N v_length v_tape x1 x2 v_at v_kind k156)
def iReader_next_b172_F (N : Nat) (v_length : Int) (v_tape : (Nat → Int)) (x1 : Int) (x2 : Int) (v_at : Int) (v_kind : Int) (k224 : Int → Option R_iReader_next) (self : Int → Option R_iReader_next) (v_stop : Int) : Option R_iReader_next :=
  if v_length ≤ v_stop then
    k224 v_stop
  else
    gd (jb v_stop 600) <|
    if v_tape v_stop.toNat < 48 then
      k224 v_stop
    else
      if 57 < v_tape v_stop.toNat then
        k224 v_stop
      else
        gd (jr (v_stop + 1)) <|
        self (v_stop + 1)
def iReader_next_b172 (N : Nat) (v_length : Int) (v_tape : (Nat → Int)) (x1 : Int) (x2 : Int) (v_at : Int) (v_kind : Int) (k224 : Int → Option R_iReader_next) : Nat → Int → Option R_iReader_next := zlp1 (iReader_next_b172_F N v_length v_tape x1 x2 v_at v_kind k224)
def iReader_next_b229 (N : Nat) (v_length : Int) (v_tape : (Nat → Int)) (x1 : Int) (x2 : Int) (v_at : Int) (v_kind : Int) (v_stop : Int) : Option R_iReader_next :=
  if v_stop = v_at then
    gd (jr (v_stop + 1)) <|
    some (v_at, 3, v_stop + 1)
  else
    if x2 = 0 then
      some (v_at, v_kind, v_stop)
    else
      if v_at = x1 then
        some (v_at, 4, v_stop)
      else
        some (v_at, v_kind, v_stop)
def iReader_next_b224 (N : Nat) (v_length : Int) (v_tape : (Nat → Int)) (x1 : Int) (x2 : Int) (v_at : Int) (v_kind : Int) (v_stop : Int) : Option R_iReader_next :=
  iReader_next_b229 N v_length v_tape x1 x2 v_at 2 v_stop
def iReader_next_b156 (N : Nat) (v_length : Int) (v_tape : (Nat → Int)) (x1 : Int) (x2 : Int) (v_at : Int) (v_kind : Int) (v_stop : Int) : Option R_iReader_next :=
  if v_stop = v_at then
    iReader_next_b172 N v_length v_tape x1 x2 v_at 1 (fun e7_ => iReader_next_b224 N v_length v_tape x1 x2 v_at 1 e7_) N v_stop
  else
    iReader_next_b229 N v_length v_tape x1 x2 v_at 1 v_stop
def iReader_next_b79 (N : Nat) (v_length : Int) (v_tape : (Nat → Int)) (x1 : Int) (x2 : Int) (v_at : Int) (v_kind : Int) (v_stop : Int) : Option R_iReader_next :=
  if v_stop < v_length then
    iReader_next_b104 N v_length v_tape x1 x2 v_stop v_kind (fun e7_ => iReader_next_b156 N v_length v_tape x1 x2 v_stop v_kind e7_) N v_stop
  else
    some (v_stop, 0, v_stop)
def iReader_next (N : Nat) (v_at : Int) (v_kind : Int) (v_length : Int) (v_stop : Int) (v_tape : (Nat → Int)) : Option R_iReader_next :=
  if v_kind = 1 then
    iReader_next_b27 N v_length v_tape v_stop 1 v_at v_kind (fun e7_ => iReader_next_b79 N v_length v_tape v_stop 1 v_at v_kind e7_) N v_stop
  else
    if v_kind = 2 then
      iReader_next_b27 N v_length v_tape v_stop 1 v_at v_kind (fun e7_ => iReader_next_b79 N v_length v_tape v_stop 1 v_at v_kind e7_) N v_stop
    else
      iReader_next_b27 N v_length v_tape v_stop 0 v_at v_kind (fun e7_ => iReader_next_b79 N v_length v_tape v_stop 0 v_at v_kind e7_) N v_stop
abbrev R_iReader_takeWord : Type := Int × Int × Int × Int
def iReader_takeWord_b28_F (N : Nat) (a1 : Nat) (v_length : Int) (v_tape : (Nat → Int)) (v_at : Int) (v_kind : Int) (v_stop : Int) (k63 : Option R_iReader_takeWord) (self : Int → Option R_iReader_takeWord) (x2 : Int) : Option R_iReader_takeWord :=
  gd (jr ((kS_len a1 : Nat) : Int)) <|
  if ((kS_len a1 : Nat) : Int) ≤ x2 then
    k63
  else
    gd (jr (v_at + x2)) <|
    gd (jb (v_at + x2) 600) <|
    gd (jb x2 (kS_len a1)) <|
    if v_tape ((v_at + x2).toNat) = jch a1 x2.toNat then
      gd (jr (x2 + 1)) <|
      self (x2 + 1)
    else
      some (0, v_at, v_kind, v_stop)
def iReader_takeWord_b28 (N : Nat) (a1 : Nat) (v_length : Int) (v_tape : (Nat → Int)) (v_at : Int) (v_kind : Int) (v_stop : Int) (k63 : Option R_iReader_takeWord) : Nat → Int → Option R_iReader_takeWord := zlp1 (iReader_takeWord_b28_F N a1 v_length v_tape v_at v_kind v_stop k63)
def iReader_takeWord_b63 (N : Nat) (a1 : Nat) (v_length : Int) (v_tape : (Nat → Int)) (v_at : Int) (v_kind : Int) (v_stop : Int) : Option R_iReader_takeWord :=
  bd3 (iReader_next N v_at v_kind v_length v_stop v_tape) fun v_at_c3 v_kind_c3 v_stop_c3 =>
  some (1, v_at_c3, v_kind_c3, v_stop_c3)
def iReader_takeWord (N : Nat) (a1 : Nat) (v_at : Int) (v_kind : Int) (v_length : Int) (v_stop : Int) (v_tape : (Nat → Int)) : Option R_iReader_takeWord :=
  if v_kind = 1 then
    gd (jr (v_stop - v_at)) <|
    gd (jr ((kS_len a1 : Nat) : Int)) <|
    if v_stop - v_at = ((kS_len a1 : Nat) : Int) then
      iReader_takeWord_b28 N a1 v_length v_tape v_at v_kind v_stop (iReader_takeWord_b63 N a1 v_length v_tape v_at v_kind v_stop) N 0
    else
      some (0, v_at, v_kind, v_stop)
  else
    some (0, v_at, v_kind, v_stop)
abbrev R_iReader_fail : Type := Int × Int × Int
def iReader_fail (a1 : Int) (a2 : Int) (v_fault : Int) (v_faultAt : Int) : Option R_iReader_fail :=
  some (0, a1, a2)
abbrev R_iReader_readNumber : Type := Int × Int × Int × Int × Int × Int
def iReader_readNumber_b55_F (N : Nat) (a1 : Int) (a2 : Int) (v_length : Int) (v_tape : (Nat → Int)) (v_at : Int) (v_fault : Int) (v_faultAt : Int) (v_kind : Int) (v_stop : Int) (k86 : Int → Option R_iReader_readNumber) (self : Int → Int → Option R_iReader_readNumber) (x3 : Int) (x4 : Int) : Option R_iReader_readNumber :=
  if v_stop ≤ x4 then
    k86 x3
  else
    gd (jb x4 600) <|
    gd (jr (x3 * 10)) <|
    gd (jr ((x3 * 10) + (v_tape x4.toNat))) <|
    gd (jr (((x3 * 10) + (v_tape x4.toNat)) - 48)) <|
    gd (jr (x4 + 1)) <|
    self (((x3 * 10) + (v_tape x4.toNat)) - 48) (x4 + 1)
def iReader_readNumber_b55 (N : Nat) (a1 : Int) (a2 : Int) (v_length : Int) (v_tape : (Nat → Int)) (v_at : Int) (v_fault : Int) (v_faultAt : Int) (v_kind : Int) (v_stop : Int) (k86 : Int → Option R_iReader_readNumber) : Nat → Int → Int → Option R_iReader_readNumber := zlp2 (iReader_readNumber_b55_F N a1 a2 v_length v_tape v_at v_fault v_faultAt v_kind v_stop k86)
def iReader_readNumber_b96 (N : Nat) (a1 : Int) (a2 : Int) (v_length : Int) (v_tape : (Nat → Int)) (v_at : Int) (v_fault : Int) (v_faultAt : Int) (v_kind : Int) (v_stop : Int) : Option R_iReader_readNumber :=
  bd3 (iReader_fail 2 v_at v_fault v_faultAt) fun rc5 v_fault_c5 v_faultAt_c5 =>
  some ((-1), v_at, v_fault_c5, v_faultAt_c5, v_kind, v_stop)
def iReader_readNumber_b86 (N : Nat) (a1 : Int) (a2 : Int) (v_length : Int) (v_tape : (Nat → Int)) (x3 : Int) (v_at : Int) (v_fault : Int) (v_faultAt : Int) (v_kind : Int) (v_stop : Int) : Option R_iReader_readNumber :=
  if x3 < a1 then
    iReader_readNumber_b96 N a1 a2 v_length v_tape v_at v_fault v_faultAt v_kind v_stop
  else
    if x3 ≤ a2 then
      bd3 (iReader_next N v_at v_kind v_length v_stop v_tape) fun v_at_c4 v_kind_c4 v_stop_c4 =>
      some (x3, v_at_c4, v_fault, v_faultAt, v_kind_c4, v_stop_c4)
    else
      iReader_readNumber_b96 N a1 a2 v_length v_tape v_at v_fault v_faultAt v_kind v_stop
def iReader_readNumber (N : Nat) (a1 : Int) (a2 : Int) (v_at : Int) (v_fault : Int) (v_faultAt : Int) (v_kind : Int) (v_length : Int) (v_stop : Int) (v_tape : (Nat → Int)) : Option R_iReader_readNumber :=
  if v_kind = 2 then
    gd (jr (v_stop - v_at)) <|
    if v_stop - v_at ≤ 5 then
      iReader_readNumber_b55 N a1 a2 v_length v_tape v_at v_fault v_faultAt v_kind v_stop (fun x3_k1 => iReader_readNumber_b86 N a1 a2 v_length v_tape x3_k1 v_at v_fault v_faultAt v_kind v_stop) N 0 v_at
    else
      gd (jr (v_at + 5)) <|
      bd3 (iReader_fail 1 (v_at + 5) v_fault v_faultAt) fun rc1 v_fault_c1 v_faultAt_c1 =>
      some ((-1), v_at, v_fault_c1, v_faultAt_c1, v_kind, v_stop)
  else
    bd3 (iReader_fail 1 v_at v_fault v_faultAt) fun rc2 v_fault_c2 v_faultAt_c2 =>
    some ((-1), v_at, v_fault_c2, v_faultAt_c2, v_kind, v_stop)
abbrev R_iReader_takeUnit : Type := Int × Int × Int × Int
def iReader_takeUnit (N : Nat) (v_at : Int) (v_kind : Int) (v_length : Int) (v_stop : Int) (v_tape : (Nat → Int)) : Option R_iReader_takeUnit :=
  bd4 (iReader_takeWord N 1 v_at v_kind v_length v_stop v_tape) fun rc1 v_at_c1 v_kind_c1 v_stop_c1 =>
  if rc1 = 0 then
    bd4 (iReader_takeWord N 2 v_at_c1 v_kind_c1 v_length v_stop_c1 v_tape) fun rc2 v_at_c2 v_kind_c2 v_stop_c2 =>
    if rc2 = 0 then
      bd4 (iReader_takeWord N 3 v_at_c2 v_kind_c2 v_length v_stop_c2 v_tape) fun rc3 v_at_c3 v_kind_c3 v_stop_c3 =>
      some (1, v_at_c3, v_kind_c3, v_stop_c3)
    else
      some (12, v_at_c2, v_kind_c2, v_stop_c2)
  else
    some (240, v_at_c1, v_kind_c1, v_stop_c1)
abbrev R_iReader_emit : Type := Int × Int × Int × Int × (Nat → Int)
def iReader_emit (a1 : Int) (v_at : Int) (v_fault : Int) (v_faultAt : Int) (v_size : Int) (v_code : (Nat → Int)) : Option R_iReader_emit :=
  if v_size < 600 then
    gd (jb v_size 600) <|
    gd (jr (v_size + 1)) <|
    some (1, v_fault, v_faultAt, v_size + 1, va_up v_code v_size.toNat a1)
  else
    bd3 (iReader_fail 1 v_at v_fault v_faultAt) fun rc2 v_fault_c2 v_faultAt_c2 =>
    gd (jB rc2) <|
    some (rc2, v_fault_c2, v_faultAt_c2, v_size, v_code)
abbrev R_iReader_takeMark : Type := Int × Int × Int × Int
def iReader_takeMark (N : Nat) (a1 : Int) (v_at : Int) (v_kind : Int) (v_length : Int) (v_stop : Int) (v_tape : (Nat → Int)) : Option R_iReader_takeMark :=
  if v_kind = 3 then
    gd (jb v_at 600) <|
    if v_tape v_at.toNat = a1 then
      bd3 (iReader_next N v_at v_kind v_length v_stop v_tape) fun v_at_c2 v_kind_c2 v_stop_c2 =>
      some (1, v_at_c2, v_kind_c2, v_stop_c2)
    else
      some (0, v_at, v_kind, v_stop)
  else
    some (0, v_at, v_kind, v_stop)
abbrev R_iReader_opens : Type := Int × Int × Int × Int
def iReader_opens (a1 : Int) (v_fault : Int) (v_faultAt : Int) (v_open : Int) : Option R_iReader_opens :=
  if v_open < 6 then
    gd (jr (v_open + 1)) <|
    some (1, v_fault, v_faultAt, v_open + 1)
  else
    bd3 (iReader_fail 3 a1 v_fault v_faultAt) fun rc1 v_fault_c1 v_faultAt_c1 =>
    gd (jB rc1) <|
    some (rc1, v_fault_c1, v_faultAt_c1, v_open)
abbrev R_iReader_needMark : Type := Int × Int × Int × Int × Int × Int
def iReader_needMark (N : Nat) (a1 : Int) (v_at : Int) (v_fault : Int) (v_faultAt : Int) (v_kind : Int) (v_length : Int) (v_stop : Int) (v_tape : (Nat → Int)) : Option R_iReader_needMark :=
  bd4 (iReader_takeMark N a1 v_at v_kind v_length v_stop v_tape) fun rc1 v_at_c1 v_kind_c1 v_stop_c1 =>
  if rc1 = 0 then
    bd3 (iReader_fail 1 v_at_c1 v_fault v_faultAt) fun rc2 v_fault_c2 v_faultAt_c2 =>
    if rc2 = 0 then
      some (0, v_at_c1, v_fault_c2, v_faultAt_c2, v_kind_c1, v_stop_c1)
    else
      some (1, v_at_c1, v_fault_c2, v_faultAt_c2, v_kind_c1, v_stop_c1)
  else
    some (1, v_at_c1, v_fault, v_faultAt, v_kind_c1, v_stop_c1)
abbrev R_iReader_closes : Type := Int × Int
def iReader_closes (v_open : Int) : Option R_iReader_closes :=
  gd (jr (v_open - 1)) <|
  some (1, v_open - 1)
abbrev R_iReader_readPart : Type := Int × Int × Int × Int × Int × Int × Int × Int × (Nat → Int)
def iReader_readPart_b209 (N : Nat) (rec : Nat → Int → Int → Int → Int → Int → Int → Int → (Nat → Int) → Option R_iReader_readPart) (v_length : Int) (v_tape : (Nat → Int)) (s0 : Int) (v_at : Int) (v_fault : Int) (v_faultAt : Int) (v_kind : Int) (v_open : Int) (v_size : Int) (v_stop : Int) (v_code : (Nat → Int)) : Option R_iReader_readPart :=
  if s0 = 0 then
    bd3 (iReader_fail 1 v_at v_fault v_faultAt) fun rc20 v_fault_c20 v_faultAt_c20 =>
    gd (jB rc20) <|
    some (rc20, v_at, v_fault_c20, v_faultAt_c20, v_kind, v_open, v_size, v_stop, v_code)
  else
    bd5 (iReader_emit s0 v_at v_fault v_faultAt v_size v_code) fun rc19 v_fault_c19 v_faultAt_c19 v_size_c19 v_code_c19 =>
    gd (jB rc19) <|
    some (rc19, v_at, v_fault_c19, v_faultAt_c19, v_kind, v_open, v_size_c19, v_stop, v_code_c19)
def iReader_readPart_G (N : Nat) (rec : Nat → Int → Int → Int → Int → Int → Int → Int → (Nat → Int) → Option R_iReader_readPart) (v_length : Int) (v_tape : (Nat → Int)) (v_at : Int) (v_fault : Int) (v_faultAt : Int) (v_kind : Int) (v_open : Int) (v_size : Int) (v_stop : Int) (v_code : (Nat → Int)) : Option R_iReader_readPart :=
  if v_kind = 2 then
    bd6 (iReader_readNumber N 0 99999 v_at v_fault v_faultAt v_kind v_length v_stop v_tape) fun rc16 v_at_c16 v_fault_c16 v_faultAt_c16 v_kind_c16 v_stop_c16 =>
    if rc16 = (-1) then
      some (0, v_at_c16, v_fault_c16, v_faultAt_c16, v_kind_c16, v_open, v_size, v_stop_c16, v_code)
    else
      bd4 (iReader_takeUnit N v_at_c16 v_kind_c16 v_length v_stop_c16 v_tape) fun rc17 v_at_c17 v_kind_c17 v_stop_c17 =>
      gd (jr (rc16 * rc17)) <|
      bd5 (iReader_emit (rc16 * rc17) v_at_c17 v_fault_c16 v_faultAt_c16 v_size v_code) fun rc18 v_fault_c18 v_faultAt_c18 v_size_c18 v_code_c18 =>
      if rc18 = 0 then
        some (0, v_at_c17, v_fault_c18, v_faultAt_c18, v_kind_c17, v_open, v_size_c18, v_stop_c17, v_code_c18)
      else
        some (1, v_at_c17, v_fault_c18, v_faultAt_c18, v_kind_c17, v_open, v_size_c18, v_stop_c17, v_code_c18)
  else
    bd4 (iReader_takeMark N 40 v_at v_kind v_length v_stop v_tape) fun rc1 v_at_c1 v_kind_c1 v_stop_c1 =>
    if rc1 = 0 then
      bd4 (iReader_takeWord N 4 v_at_c1 v_kind_c1 v_length v_stop_c1 v_tape) fun rc2 v_at_c2 v_kind_c2 v_stop_c2 =>
      if rc2 = 0 then
        bd4 (iReader_takeWord N 5 v_at_c2 v_kind_c2 v_length v_stop_c2 v_tape) fun rc3 v_at_c3 v_kind_c3 v_stop_c3 =>
        if rc3 = 0 then
          bd4 (iReader_takeWord N 6 v_at_c3 v_kind_c3 v_length v_stop_c3 v_tape) fun rc4 v_at_c4 v_kind_c4 v_stop_c4 =>
          if rc4 = 0 then
            bd4 (iReader_takeWord N 7 v_at_c4 v_kind_c4 v_length v_stop_c4 v_tape) fun rc5 v_at_c5 v_kind_c5 v_stop_c5 =>
            if rc5 = 0 then
              bd4 (iReader_takeWord N 8 v_at_c5 v_kind_c5 v_length v_stop_c5 v_tape) fun rc6 v_at_c6 v_kind_c6 v_stop_c6 =>
              if rc6 = 0 then
                bd4 (iReader_takeWord N 9 v_at_c6 v_kind_c6 v_length v_stop_c6 v_tape) fun rc7 v_at_c7 v_kind_c7 v_stop_c7 =>
                if rc7 = 0 then
                  iReader_readPart_b209 N rec v_length v_tape 0 v_at_c7 v_fault v_faultAt v_kind_c7 v_open v_size v_stop_c7 v_code
                else
                  iReader_readPart_b209 N rec v_length v_tape (-4) v_at_c7 v_fault v_faultAt v_kind_c7 v_open v_size v_stop_c7 v_code
              else
                iReader_readPart_b209 N rec v_length v_tape (-3) v_at_c6 v_fault v_faultAt v_kind_c6 v_open v_size v_stop_c6 v_code
            else
              iReader_readPart_b209 N rec v_length v_tape (-2) v_at_c5 v_fault v_faultAt v_kind_c5 v_open v_size v_stop_c5 v_code
          else
            iReader_readPart_b209 N rec v_length v_tape (-1) v_at_c4 v_fault v_faultAt v_kind_c4 v_open v_size v_stop_c4 v_code
        else
          bd9 (rec 3 v_at_c3 v_fault v_faultAt v_kind_c3 v_open v_size v_stop_c3 v_code) fun rc8 v_at_c8 v_fault_c8 v_faultAt_c8 v_kind_c8 v_open_c8 v_size_c8 v_stop_c8 v_code_c8 =>
          if rc8 = 0 then
            some (0, v_at_c8, v_fault_c8, v_faultAt_c8, v_kind_c8, v_open_c8, v_size_c8, v_stop_c8, v_code_c8)
          else
            bd5 (iReader_emit (-12) v_at_c8 v_fault_c8 v_faultAt_c8 v_size_c8 v_code_c8) fun rc9 v_fault_c9 v_faultAt_c9 v_size_c9 v_code_c9 =>
            if rc9 = 0 then
              some (0, v_at_c8, v_fault_c9, v_faultAt_c9, v_kind_c8, v_open_c8, v_size_c9, v_stop_c8, v_code_c9)
            else
              some (1, v_at_c8, v_fault_c9, v_faultAt_c9, v_kind_c8, v_open_c8, v_size_c9, v_stop_c8, v_code_c9)
      else
        bd9 (rec 3 v_at_c2 v_fault v_faultAt v_kind_c2 v_open v_size v_stop_c2 v_code) fun rc10 v_at_c10 v_fault_c10 v_faultAt_c10 v_kind_c10 v_open_c10 v_size_c10 v_stop_c10 v_code_c10 =>
        if rc10 = 0 then
          some (0, v_at_c10, v_fault_c10, v_faultAt_c10, v_kind_c10, v_open_c10, v_size_c10, v_stop_c10, v_code_c10)
        else
          bd5 (iReader_emit (-11) v_at_c10 v_fault_c10 v_faultAt_c10 v_size_c10 v_code_c10) fun rc11 v_fault_c11 v_faultAt_c11 v_size_c11 v_code_c11 =>
          if rc11 = 0 then
            some (0, v_at_c10, v_fault_c11, v_faultAt_c11, v_kind_c10, v_open_c10, v_size_c11, v_stop_c10, v_code_c11)
          else
            some (1, v_at_c10, v_fault_c11, v_faultAt_c11, v_kind_c10, v_open_c10, v_size_c11, v_stop_c10, v_code_c11)
    else
      bd4 (iReader_opens v_at v_fault v_faultAt v_open) fun rc12 v_fault_c12 v_faultAt_c12 v_open_c12 =>
      if rc12 = 0 then
        some (0, v_at_c1, v_fault_c12, v_faultAt_c12, v_kind_c1, v_open_c12, v_size, v_stop_c1, v_code)
      else
        bd9 (rec 2 v_at_c1 v_fault_c12 v_faultAt_c12 v_kind_c1 v_open_c12 v_size v_stop_c1 v_code) fun rc13 v_at_c13 v_fault_c13 v_faultAt_c13 v_kind_c13 v_open_c13 v_size_c13 v_stop_c13 v_code_c13 =>
        if rc13 = 0 then
          some (0, v_at_c13, v_fault_c13, v_faultAt_c13, v_kind_c13, v_open_c13, v_size_c13, v_stop_c13, v_code_c13)
        else
          bd6 (iReader_needMark N 41 v_at_c13 v_fault_c13 v_faultAt_c13 v_kind_c13 v_length v_stop_c13 v_tape) fun rc14 v_at_c14 v_fault_c14 v_faultAt_c14 v_kind_c14 v_stop_c14 =>
          if rc14 = 0 then
            some (0, v_at_c14, v_fault_c14, v_faultAt_c14, v_kind_c14, v_open_c13, v_size_c13, v_stop_c14, v_code_c13)
          else
            bd2 (iReader_closes v_open_c13) fun rc15 v_open_c15 =>
            if rc15 = 0 then
              some (0, v_at_c14, v_fault_c14, v_faultAt_c14, v_kind_c14, v_open_c15, v_size_c13, v_stop_c14, v_code_c13)
            else
              some (1, v_at_c14, v_fault_c14, v_faultAt_c14, v_kind_c14, v_open_c15, v_size_c13, v_stop_c14, v_code_c13)
abbrev R_iReader_readProduct : Type := Int × Int × Int × Int × Int × Int × Int × Int × (Nat → Int)
def iReader_readProduct_b47 (N : Nat) (rec : Nat → Int → Int → Int → Int → Int → Int → Int → (Nat → Int) → Option R_iReader_readProduct) (v_length : Int) (v_tape : (Nat → Int)) (self : Int → Int → Int → Int → Int → Int → Int → Int → Int → (Nat → Int) → Option R_iReader_readProduct) (x2 : Int) (s0 : Int) (v_at : Int) (v_fault : Int) (v_faultAt : Int) (v_kind : Int) (v_open : Int) (v_size : Int) (v_stop : Int) (v_code : (Nat → Int)) : Option R_iReader_readProduct :=
  if s0 = 0 then
    some (1, v_at, v_fault, v_faultAt, v_kind, v_open, v_size, v_stop, v_code)
  else
    bd9 (rec 0 v_at v_fault v_faultAt v_kind v_open v_size v_stop v_code) fun rc4 v_at_c4 v_fault_c4 v_faultAt_c4 v_kind_c4 v_open_c4 v_size_c4 v_stop_c4 v_code_c4 =>
    if rc4 = 0 then
      gd (jr (x2 + 1)) <|
      self 0 (x2 + 1) v_at_c4 v_fault_c4 v_faultAt_c4 v_kind_c4 v_open_c4 v_size_c4 v_stop_c4 v_code_c4
    else
      bd5 (iReader_emit s0 v_at_c4 v_fault_c4 v_faultAt_c4 v_size_c4 v_code_c4) fun rc5 v_fault_c5 v_faultAt_c5 v_size_c5 v_code_c5 =>
      if rc5 = 0 then
        gd (jr (x2 + 1)) <|
        self 0 (x2 + 1) v_at_c4 v_fault_c5 v_faultAt_c5 v_kind_c4 v_open_c4 v_size_c5 v_stop_c4 v_code_c5
      else
        gd (jr (x2 + 1)) <|
        self 1 (x2 + 1) v_at_c4 v_fault_c5 v_faultAt_c5 v_kind_c4 v_open_c4 v_size_c5 v_stop_c4 v_code_c5
def iReader_readProduct_b7_F (N : Nat) (rec : Nat → Int → Int → Int → Int → Int → Int → Int → (Nat → Int) → Option R_iReader_readProduct) (v_length : Int) (v_tape : (Nat → Int)) (self : Int → Int → Int → Int → Int → Int → Int → Int → Int → (Nat → Int) → Option R_iReader_readProduct) (x1 : Int) (x2 : Int) (v_at : Int) (v_fault : Int) (v_faultAt : Int) (v_kind : Int) (v_open : Int) (v_size : Int) (v_stop : Int) (v_code : (Nat → Int)) : Option R_iReader_readProduct :=
  if 600 ≤ x2 then
    gd (jB x1) <|
    some (x1, v_at, v_fault, v_faultAt, v_kind, v_open, v_size, v_stop, v_code)
  else
    if x1 = 0 then
      gd (jB x1) <|
      some (x1, v_at, v_fault, v_faultAt, v_kind, v_open, v_size, v_stop, v_code)
    else
      bd4 (iReader_takeMark N 42 v_at v_kind v_length v_stop v_tape) fun rc2 v_at_c2 v_kind_c2 v_stop_c2 =>
      if rc2 = 0 then
        bd4 (iReader_takeMark N 47 v_at_c2 v_kind_c2 v_length v_stop_c2 v_tape) fun rc3 v_at_c3 v_kind_c3 v_stop_c3 =>
        if rc3 = 0 then
          iReader_readProduct_b47 N rec v_length v_tape self x2 0 v_at_c3 v_fault v_faultAt v_kind_c3 v_open v_size v_stop_c3 v_code
        else
          iReader_readProduct_b47 N rec v_length v_tape self x2 (-10) v_at_c3 v_fault v_faultAt v_kind_c3 v_open v_size v_stop_c3 v_code
      else
        iReader_readProduct_b47 N rec v_length v_tape self x2 (-9) v_at_c2 v_fault v_faultAt v_kind_c2 v_open v_size v_stop_c2 v_code
def iReader_readProduct_b7 (N : Nat) (rec : Nat → Int → Int → Int → Int → Int → Int → Int → (Nat → Int) → Option R_iReader_readProduct) (v_length : Int) (v_tape : (Nat → Int)) : Nat → Int → Int → Int → Int → Int → Int → Int → Int → Int → (Nat → Int) → Option R_iReader_readProduct := zlp10 (iReader_readProduct_b7_F N rec v_length v_tape)
def iReader_readProduct_G (N : Nat) (rec : Nat → Int → Int → Int → Int → Int → Int → Int → (Nat → Int) → Option R_iReader_readProduct) (v_length : Int) (v_tape : (Nat → Int)) (v_at : Int) (v_fault : Int) (v_faultAt : Int) (v_kind : Int) (v_open : Int) (v_size : Int) (v_stop : Int) (v_code : (Nat → Int)) : Option R_iReader_readProduct :=
  bd9 (rec 0 v_at v_fault v_faultAt v_kind v_open v_size v_stop v_code) fun rc1 v_at_c1 v_fault_c1 v_faultAt_c1 v_kind_c1 v_open_c1 v_size_c1 v_stop_c1 v_code_c1 =>
  iReader_readProduct_b7 N rec v_length v_tape N rc1 0 v_at_c1 v_fault_c1 v_faultAt_c1 v_kind_c1 v_open_c1 v_size_c1 v_stop_c1 v_code_c1
abbrev R_iReader_readSum : Type := Int × Int × Int × Int × Int × Int × Int × Int × (Nat → Int)
def iReader_readSum_b47 (N : Nat) (rec : Nat → Int → Int → Int → Int → Int → Int → Int → (Nat → Int) → Option R_iReader_readSum) (v_length : Int) (v_tape : (Nat → Int)) (self : Int → Int → Int → Int → Int → Int → Int → Int → Int → (Nat → Int) → Option R_iReader_readSum) (x2 : Int) (s0 : Int) (v_at : Int) (v_fault : Int) (v_faultAt : Int) (v_kind : Int) (v_open : Int) (v_size : Int) (v_stop : Int) (v_code : (Nat → Int)) : Option R_iReader_readSum :=
  if s0 = 0 then
    some (1, v_at, v_fault, v_faultAt, v_kind, v_open, v_size, v_stop, v_code)
  else
    bd9 (rec 1 v_at v_fault v_faultAt v_kind v_open v_size v_stop v_code) fun rc4 v_at_c4 v_fault_c4 v_faultAt_c4 v_kind_c4 v_open_c4 v_size_c4 v_stop_c4 v_code_c4 =>
    if rc4 = 0 then
      gd (jr (x2 + 1)) <|
      self 0 (x2 + 1) v_at_c4 v_fault_c4 v_faultAt_c4 v_kind_c4 v_open_c4 v_size_c4 v_stop_c4 v_code_c4
    else
      bd5 (iReader_emit s0 v_at_c4 v_fault_c4 v_faultAt_c4 v_size_c4 v_code_c4) fun rc5 v_fault_c5 v_faultAt_c5 v_size_c5 v_code_c5 =>
      if rc5 = 0 then
        gd (jr (x2 + 1)) <|
        self 0 (x2 + 1) v_at_c4 v_fault_c5 v_faultAt_c5 v_kind_c4 v_open_c4 v_size_c5 v_stop_c4 v_code_c5
      else
        gd (jr (x2 + 1)) <|
        self 1 (x2 + 1) v_at_c4 v_fault_c5 v_faultAt_c5 v_kind_c4 v_open_c4 v_size_c5 v_stop_c4 v_code_c5
def iReader_readSum_b7_F (N : Nat) (rec : Nat → Int → Int → Int → Int → Int → Int → Int → (Nat → Int) → Option R_iReader_readSum) (v_length : Int) (v_tape : (Nat → Int)) (self : Int → Int → Int → Int → Int → Int → Int → Int → Int → (Nat → Int) → Option R_iReader_readSum) (x1 : Int) (x2 : Int) (v_at : Int) (v_fault : Int) (v_faultAt : Int) (v_kind : Int) (v_open : Int) (v_size : Int) (v_stop : Int) (v_code : (Nat → Int)) : Option R_iReader_readSum :=
  if 600 ≤ x2 then
    gd (jB x1) <|
    some (x1, v_at, v_fault, v_faultAt, v_kind, v_open, v_size, v_stop, v_code)
  else
    if x1 = 0 then
      gd (jB x1) <|
      some (x1, v_at, v_fault, v_faultAt, v_kind, v_open, v_size, v_stop, v_code)
    else
      bd4 (iReader_takeMark N 43 v_at v_kind v_length v_stop v_tape) fun rc2 v_at_c2 v_kind_c2 v_stop_c2 =>
      if rc2 = 0 then
        bd4 (iReader_takeMark N 45 v_at_c2 v_kind_c2 v_length v_stop_c2 v_tape) fun rc3 v_at_c3 v_kind_c3 v_stop_c3 =>
        if rc3 = 0 then
          iReader_readSum_b47 N rec v_length v_tape self x2 0 v_at_c3 v_fault v_faultAt v_kind_c3 v_open v_size v_stop_c3 v_code
        else
          iReader_readSum_b47 N rec v_length v_tape self x2 (-8) v_at_c3 v_fault v_faultAt v_kind_c3 v_open v_size v_stop_c3 v_code
      else
        iReader_readSum_b47 N rec v_length v_tape self x2 (-7) v_at_c2 v_fault v_faultAt v_kind_c2 v_open v_size v_stop_c2 v_code
def iReader_readSum_b7 (N : Nat) (rec : Nat → Int → Int → Int → Int → Int → Int → Int → (Nat → Int) → Option R_iReader_readSum) (v_length : Int) (v_tape : (Nat → Int)) : Nat → Int → Int → Int → Int → Int → Int → Int → Int → Int → (Nat → Int) → Option R_iReader_readSum := zlp10 (iReader_readSum_b7_F N rec v_length v_tape)
def iReader_readSum_G (N : Nat) (rec : Nat → Int → Int → Int → Int → Int → Int → Int → (Nat → Int) → Option R_iReader_readSum) (v_length : Int) (v_tape : (Nat → Int)) (v_at : Int) (v_fault : Int) (v_faultAt : Int) (v_kind : Int) (v_open : Int) (v_size : Int) (v_stop : Int) (v_code : (Nat → Int)) : Option R_iReader_readSum :=
  bd9 (rec 1 v_at v_fault v_faultAt v_kind v_open v_size v_stop v_code) fun rc1 v_at_c1 v_fault_c1 v_faultAt_c1 v_kind_c1 v_open_c1 v_size_c1 v_stop_c1 v_code_c1 =>
  iReader_readSum_b7 N rec v_length v_tape N rc1 0 v_at_c1 v_fault_c1 v_faultAt_c1 v_kind_c1 v_open_c1 v_size_c1 v_stop_c1 v_code_c1
abbrev R_iReader_readTwo : Type := Int × Int × Int × Int × Int × Int × Int × Int × (Nat → Int)
def iReader_readTwo_G (N : Nat) (rec : Nat → Int → Int → Int → Int → Int → Int → Int → (Nat → Int) → Option R_iReader_readTwo) (v_length : Int) (v_tape : (Nat → Int)) (v_at : Int) (v_fault : Int) (v_faultAt : Int) (v_kind : Int) (v_open : Int) (v_size : Int) (v_stop : Int) (v_code : (Nat → Int)) : Option R_iReader_readTwo :=
  bd6 (iReader_needMark N 40 v_at v_fault v_faultAt v_kind v_length v_stop v_tape) fun rc1 v_at_c1 v_fault_c1 v_faultAt_c1 v_kind_c1 v_stop_c1 =>
  if rc1 = 0 then
    some (0, v_at_c1, v_fault_c1, v_faultAt_c1, v_kind_c1, v_open, v_size, v_stop_c1, v_code)
  else
    bd4 (iReader_opens v_at v_fault_c1 v_faultAt_c1 v_open) fun rc2 v_fault_c2 v_faultAt_c2 v_open_c2 =>
    if rc2 = 0 then
      some (0, v_at_c1, v_fault_c2, v_faultAt_c2, v_kind_c1, v_open_c2, v_size, v_stop_c1, v_code)
    else
      bd9 (rec 2 v_at_c1 v_fault_c2 v_faultAt_c2 v_kind_c1 v_open_c2 v_size v_stop_c1 v_code) fun rc3 v_at_c3 v_fault_c3 v_faultAt_c3 v_kind_c3 v_open_c3 v_size_c3 v_stop_c3 v_code_c3 =>
      if rc3 = 0 then
        some (0, v_at_c3, v_fault_c3, v_faultAt_c3, v_kind_c3, v_open_c3, v_size_c3, v_stop_c3, v_code_c3)
      else
        bd6 (iReader_needMark N 44 v_at_c3 v_fault_c3 v_faultAt_c3 v_kind_c3 v_length v_stop_c3 v_tape) fun rc4 v_at_c4 v_fault_c4 v_faultAt_c4 v_kind_c4 v_stop_c4 =>
        if rc4 = 0 then
          some (0, v_at_c4, v_fault_c4, v_faultAt_c4, v_kind_c4, v_open_c3, v_size_c3, v_stop_c4, v_code_c3)
        else
          bd9 (rec 2 v_at_c4 v_fault_c4 v_faultAt_c4 v_kind_c4 v_open_c3 v_size_c3 v_stop_c4 v_code_c3) fun rc5 v_at_c5 v_fault_c5 v_faultAt_c5 v_kind_c5 v_open_c5 v_size_c5 v_stop_c5 v_code_c5 =>
          if rc5 = 0 then
            some (0, v_at_c5, v_fault_c5, v_faultAt_c5, v_kind_c5, v_open_c5, v_size_c5, v_stop_c5, v_code_c5)
          else
            bd6 (iReader_needMark N 41 v_at_c5 v_fault_c5 v_faultAt_c5 v_kind_c5 v_length v_stop_c5 v_tape) fun rc6 v_at_c6 v_fault_c6 v_faultAt_c6 v_kind_c6 v_stop_c6 =>
            if rc6 = 0 then
              some (0, v_at_c6, v_fault_c6, v_faultAt_c6, v_kind_c6, v_open_c5, v_size_c5, v_stop_c6, v_code_c5)
            else
              bd2 (iReader_closes v_open_c5) fun rc7 v_open_c7 =>
              if rc7 = 0 then
                some (0, v_at_c6, v_fault_c6, v_faultAt_c6, v_kind_c6, v_open_c7, v_size_c5, v_stop_c6, v_code_c5)
              else
                some (1, v_at_c6, v_fault_c6, v_faultAt_c6, v_kind_c6, v_open_c7, v_size_c5, v_stop_c6, v_code_c5)
def iG_readPart_readProduct_readSum_readTwo (N : Nat) (v_length : Int) (v_tape : (Nat → Int)) : Nat → Nat → Int → Int → Int → Int → Int → Int → Int → (Nat → Int) → Option R_iReader_readPart := gr8 fun rec tag v_at v_fault v_faultAt v_kind v_open v_size v_stop v_code =>
  if tag = 0 then
    iReader_readPart_G N rec v_length v_tape v_at v_fault v_faultAt v_kind v_open v_size v_stop v_code
  else
    if tag = 1 then
      iReader_readProduct_G N rec v_length v_tape v_at v_fault v_faultAt v_kind v_open v_size v_stop v_code
    else
      if tag = 2 then
        iReader_readSum_G N rec v_length v_tape v_at v_fault v_faultAt v_kind v_open v_size v_stop v_code
      else
        iReader_readTwo_G N rec v_length v_tape v_at v_fault v_faultAt v_kind v_open v_size v_stop v_code
def iReader_readPart (N : Nat) (v_at : Int) (v_fault : Int) (v_faultAt : Int) (v_kind : Int) (v_length : Int) (v_open : Int) (v_size : Int) (v_stop : Int) (v_code : (Nat → Int)) (v_tape : (Nat → Int)) : Option R_iReader_readPart :=
  iG_readPart_readProduct_readSum_readTwo N v_length v_tape 40 0 v_at v_fault v_faultAt v_kind v_open v_size v_stop v_code
def iReader_readProduct (N : Nat) (v_at : Int) (v_fault : Int) (v_faultAt : Int) (v_kind : Int) (v_length : Int) (v_open : Int) (v_size : Int) (v_stop : Int) (v_code : (Nat → Int)) (v_tape : (Nat → Int)) : Option R_iReader_readProduct :=
  iG_readPart_readProduct_readSum_readTwo N v_length v_tape 40 1 v_at v_fault v_faultAt v_kind v_open v_size v_stop v_code
def iReader_readSum (N : Nat) (v_at : Int) (v_fault : Int) (v_faultAt : Int) (v_kind : Int) (v_length : Int) (v_open : Int) (v_size : Int) (v_stop : Int) (v_code : (Nat → Int)) (v_tape : (Nat → Int)) : Option R_iReader_readSum :=
  iG_readPart_readProduct_readSum_readTwo N v_length v_tape 40 2 v_at v_fault v_faultAt v_kind v_open v_size v_stop v_code
def iReader_readTwo (N : Nat) (v_at : Int) (v_fault : Int) (v_faultAt : Int) (v_kind : Int) (v_length : Int) (v_open : Int) (v_size : Int) (v_stop : Int) (v_code : (Nat → Int)) (v_tape : (Nat → Int)) : Option R_iReader_readTwo :=
  iG_readPart_readProduct_readSum_readTwo N v_length v_tape 40 3 v_at v_fault v_faultAt v_kind v_open v_size v_stop v_code
abbrev R_iReader_needWord : Type := Int × Int × Int × Int × Int × Int
def iReader_needWord (N : Nat) (a1 : Nat) (v_at : Int) (v_fault : Int) (v_faultAt : Int) (v_kind : Int) (v_length : Int) (v_stop : Int) (v_tape : (Nat → Int)) : Option R_iReader_needWord :=
  bd4 (iReader_takeWord N a1 v_at v_kind v_length v_stop v_tape) fun rc1 v_at_c1 v_kind_c1 v_stop_c1 =>
  if rc1 = 0 then
    bd3 (iReader_fail 1 v_at_c1 v_fault v_faultAt) fun rc2 v_fault_c2 v_faultAt_c2 =>
    if rc2 = 0 then
      some (0, v_at_c1, v_fault_c2, v_faultAt_c2, v_kind_c1, v_stop_c1)
    else
      some (1, v_at_c1, v_fault_c2, v_faultAt_c2, v_kind_c1, v_stop_c1)
  else
    some (1, v_at_c1, v_fault, v_faultAt, v_kind_c1, v_stop_c1)
abbrev R_iReader_readDuty : Type := Int × DynI × Int × Int × Int × Int × Int × Int × Int × (Nat → Int)
def iReader_readDuty_b131 (N : Nat) (a1 : (Option Nat)) (v_length : Int) (v_tape : (Nat → Int)) (s0 : (Option Nat)) (s1 : Int) (v_D : DynI) (v_at : Int) (v_fault : Int) (v_faultAt : Int) (v_kind : Int) (v_open : Int) (v_size : Int) (v_stop : Int) (v_code : (Nat → Int)) : Option R_iReader_readDuty :=
  bd1 (s0) fun y29 =>
  bd1 (jPI v_D y29 0 3 s1) fun v_D30 =>
  bd1 (a1) fun y31 =>
  bd1 (jGI v_D30 y31 0 3) fun d32 =>
  if d32 = (-1) then
    some (0, v_D30, v_at, v_fault, v_faultAt, v_kind, v_open, v_size, v_stop, v_code)
  else
    some (1, v_D30, v_at, v_fault, v_faultAt, v_kind, v_open, v_size, v_stop, v_code)
def iReader_readDuty_b110 (N : Nat) (a1 : (Option Nat)) (v_length : Int) (v_tape : (Nat → Int)) (s0 : Int) (v_D : DynI) (v_at : Int) (v_fault : Int) (v_faultAt : Int) (v_kind : Int) (v_open : Int) (v_size : Int) (v_stop : Int) (v_code : (Nat → Int)) : Option R_iReader_readDuty :=
  if s0 = 0 then
    iReader_readDuty_b131 N a1 v_length v_tape a1 (-1) v_D v_at v_fault v_faultAt v_kind v_open v_size v_stop v_code
  else
    bd1 (a1) fun y24 =>
    bd1 (jGI v_D y24 0 2) fun d25 =>
    bd6 (iReader_readNumber N d25 999 v_at v_fault v_faultAt v_kind v_length v_stop v_tape) fun rc26 v_at_c26 v_fault_c26 v_faultAt_c26 v_kind_c26 v_stop_c26 =>
    iReader_readDuty_b131 N a1 v_length v_tape (some y24) rc26 v_D v_at_c26 v_fault_c26 v_faultAt_c26 v_kind_c26 v_open v_size v_stop_c26 v_code
def iReader_readDuty_b38 (N : Nat) (a1 : (Option Nat)) (v_length : Int) (v_tape : (Nat → Int)) (x2 : Int) (s0 : Nat) (s1 : Int) (v_D : DynI) (v_at : Int) (v_fault : Int) (v_faultAt : Int) (v_kind : Int) (v_open : Int) (v_size : Int) (v_stop : Int) (v_code : (Nat → Int)) : Option R_iReader_readDuty :=
  gd (jB s1) <|
  bd1 (jPI v_D s0 0 1 s1) fun v_D27 =>
  gd (jB x2) <|
  some (x2, v_D27, v_at, v_fault, v_faultAt, v_kind, v_open, v_size, v_stop, v_code)
def iReader_readDuty (N : Nat) (a1 : (Option Nat)) (v_D : DynI) (v_at : Int) (v_fault : Int) (v_faultAt : Int) (v_kind : Int) (v_length : Int) (v_open : Int) (v_size : Int) (v_stop : Int) (v_code : (Nat → Int)) (v_tape : (Nat → Int)) : Option R_iReader_readDuty :=
  bd4 (iReader_takeWord N 0 v_at v_kind v_length v_stop v_tape) fun rc1 v_at_c1 v_kind_c1 v_stop_c1 =>
  if rc1 = 0 then
    bd4 (iReader_takeWord N 11 v_at_c1 v_kind_c1 v_length v_stop_c1 v_tape) fun rc2 v_at_c2 v_kind_c2 v_stop_c2 =>
    if rc2 = 0 then
      bd4 (iReader_takeWord N 12 v_at_c2 v_kind_c2 v_length v_stop_c2 v_tape) fun rc3 v_at_c3 v_kind_c3 v_stop_c3 =>
      if rc3 = 0 then
        bd4 (iReader_takeWord N 14 v_at_c3 v_kind_c3 v_length v_stop_c3 v_tape) fun rc4 v_at_c4 v_kind_c4 v_stop_c4 =>
        if rc4 = 0 then
          bd3 (iReader_fail 1 v_at_c4 v_fault v_faultAt) fun rc5 v_fault_c5 v_faultAt_c5 =>
          gd (jB rc5) <|
          some (rc5, v_D, v_at_c4, v_fault_c5, v_faultAt_c5, v_kind_c4, v_open, v_size, v_stop_c4, v_code)
        else
          bd1 (a1) fun y6 =>
          bd1 (jPI v_D y6 0 0 4) fun v_D7 =>
          bd6 (iReader_readNumber N 2 20 v_at_c4 v_fault v_faultAt v_kind_c4 v_length v_stop_c4 v_tape) fun rc8 v_at_c8 v_fault_c8 v_faultAt_c8 v_kind_c8 v_stop_c8 =>
          bd1 (jPI v_D7 y6 0 2 rc8) fun v_D9 =>
          bd1 (jGI v_D9 y6 0 2) fun d10 =>
          if d10 = (-1) then
            some (0, v_D9, v_at_c8, v_fault_c8, v_faultAt_c8, v_kind_c8, v_open, v_size, v_stop_c8, v_code)
          else
            some (1, v_D9, v_at_c8, v_fault_c8, v_faultAt_c8, v_kind_c8, v_open, v_size, v_stop_c8, v_code)
      else
        bd1 (a1) fun y11 =>
        bd1 (jPI v_D y11 0 0 3) fun v_D12 =>
        bd6 (iReader_readNumber N 1 999 v_at_c3 v_fault v_faultAt v_kind_c3 v_length v_stop_c3 v_tape) fun rc13 v_at_c13 v_fault_c13 v_faultAt_c13 v_kind_c13 v_stop_c13 =>
        bd1 (jPI v_D12 y11 0 2 rc13) fun v_D14 =>
        bd1 (jGI v_D14 y11 0 2) fun d15 =>
        if d15 = (-1) then
          iReader_readDuty_b110 N a1 v_length v_tape 0 v_D14 v_at_c13 v_fault_c13 v_faultAt_c13 v_kind_c13 v_open v_size v_stop_c13 v_code
        else
          bd6 (iReader_needWord N 13 v_at_c13 v_fault_c13 v_faultAt_c13 v_kind_c13 v_length v_stop_c13 v_tape) fun rc16 v_at_c16 v_fault_c16 v_faultAt_c16 v_kind_c16 v_stop_c16 =>
          if rc16 = 0 then
            iReader_readDuty_b110 N a1 v_length v_tape 0 v_D14 v_at_c16 v_fault_c16 v_faultAt_c16 v_kind_c16 v_open v_size v_stop_c16 v_code
          else
            iReader_readDuty_b110 N a1 v_length v_tape 1 v_D14 v_at_c16 v_fault_c16 v_faultAt_c16 v_kind_c16 v_open v_size v_stop_c16 v_code
    else
      bd1 (a1) fun y17 =>
      bd1 (jPI v_D y17 0 0 2) fun v_D18 =>
      bd9 (iReader_readSum N v_at_c2 v_fault v_faultAt v_kind_c2 v_length v_open v_size v_stop_c2 v_code v_tape) fun rc19 v_at_c19 v_fault_c19 v_faultAt_c19 v_kind_c19 v_open_c19 v_size_c19 v_stop_c19 v_code_c19 =>
      gd (jB rc19) <|
      some (rc19, v_D18, v_at_c19, v_fault_c19, v_faultAt_c19, v_kind_c19, v_open_c19, v_size_c19, v_stop_c19, v_code_c19)
  else
    bd1 (a1) fun y20 =>
    bd1 (jPI v_D y20 0 0 1) fun v_D21 =>
    bd9 (iReader_readSum N v_at_c1 v_fault v_faultAt v_kind_c1 v_length v_open v_size v_stop_c1 v_code v_tape) fun rc22 v_at_c22 v_fault_c22 v_faultAt_c22 v_kind_c22 v_open_c22 v_size_c22 v_stop_c22 v_code_c22 =>
    if rc22 = 0 then
      iReader_readDuty_b38 N a1 v_length v_tape rc22 y20 0 v_D21 v_at_c22 v_fault_c22 v_faultAt_c22 v_kind_c22 v_open_c22 v_size_c22 v_stop_c22 v_code_c22
    else
      bd4 (iReader_takeWord N 10 v_at_c22 v_kind_c22 v_length v_stop_c22 v_tape) fun rc23 v_at_c23 v_kind_c23 v_stop_c23 =>
      if rc23 = 0 then
        iReader_readDuty_b38 N a1 v_length v_tape rc22 y20 0 v_D21 v_at_c23 v_fault_c22 v_faultAt_c22 v_kind_c23 v_open_c22 v_size_c22 v_stop_c23 v_code_c22
      else
        iReader_readDuty_b38 N a1 v_length v_tape rc22 y20 1 v_D21 v_at_c23 v_fault_c22 v_faultAt_c22 v_kind_c23 v_open_c22 v_size_c22 v_stop_c23 v_code_c22
abbrev R_iReader_readBoth : Type := Int × Int × Int × Int × Int × Int × Int × Int × (Nat → Int)
def iReader_readBoth_b7_F (N : Nat) (rec : Nat → Int → Int → Int → Int → Int → Int → Int → (Nat → Int) → Option R_iReader_readBoth) (v_length : Int) (v_tape : (Nat → Int)) (self : Int → Int → Int → Int → Int → Int → Int → Int → Int → (Nat → Int) → Option R_iReader_readBoth) (x1 : Int) (x2 : Int) (v_at : Int) (v_fault : Int) (v_faultAt : Int) (v_kind : Int) (v_open : Int) (v_size : Int) (v_stop : Int) (v_code : (Nat → Int)) : Option R_iReader_readBoth :=
  if 600 ≤ x2 then
    gd (jB x1) <|
    some (x1, v_at, v_fault, v_faultAt, v_kind, v_open, v_size, v_stop, v_code)
  else
    if x1 = 0 then
      gd (jB x1) <|
      some (x1, v_at, v_fault, v_faultAt, v_kind, v_open, v_size, v_stop, v_code)
    else
      bd4 (iReader_takeWord N 19 v_at v_kind v_length v_stop v_tape) fun rc2 v_at_c2 v_kind_c2 v_stop_c2 =>
      if rc2 = 0 then
        gd (jB x1) <|
        some (x1, v_at_c2, v_fault, v_faultAt, v_kind_c2, v_open, v_size, v_stop_c2, v_code)
      else
        bd9 (rec 1 v_at_c2 v_fault v_faultAt v_kind_c2 v_open v_size v_stop_c2 v_code) fun rc3 v_at_c3 v_fault_c3 v_faultAt_c3 v_kind_c3 v_open_c3 v_size_c3 v_stop_c3 v_code_c3 =>
        if rc3 = 0 then
          gd (jr (x2 + 1)) <|
          self 0 (x2 + 1) v_at_c3 v_fault_c3 v_faultAt_c3 v_kind_c3 v_open_c3 v_size_c3 v_stop_c3 v_code_c3
        else
          bd5 (iReader_emit (-16) v_at_c3 v_fault_c3 v_faultAt_c3 v_size_c3 v_code_c3) fun rc4 v_fault_c4 v_faultAt_c4 v_size_c4 v_code_c4 =>
          if rc4 = 0 then
            gd (jr (x2 + 1)) <|
            self 0 (x2 + 1) v_at_c3 v_fault_c4 v_faultAt_c4 v_kind_c3 v_open_c3 v_size_c4 v_stop_c3 v_code_c4
          else
            gd (jr (x2 + 1)) <|
            self 1 (x2 + 1) v_at_c3 v_fault_c4 v_faultAt_c4 v_kind_c3 v_open_c3 v_size_c4 v_stop_c3 v_code_c4
def iReader_readBoth_b7 (N : Nat) (rec : Nat → Int → Int → Int → Int → Int → Int → Int → (Nat → Int) → Option R_iReader_readBoth) (v_length : Int) (v_tape : (Nat → Int)) : Nat → Int → Int → Int → Int → Int → Int → Int → Int → Int → (Nat → Int) → Option R_iReader_readBoth := zlp10 (iReader_readBoth_b7_F N rec v_length v_tape)
def iReader_readBoth_G (N : Nat) (rec : Nat → Int → Int → Int → Int → Int → Int → Int → (Nat → Int) → Option R_iReader_readBoth) (v_length : Int) (v_tape : (Nat → Int)) (v_at : Int) (v_fault : Int) (v_faultAt : Int) (v_kind : Int) (v_open : Int) (v_size : Int) (v_stop : Int) (v_code : (Nat → Int)) : Option R_iReader_readBoth :=
  bd9 (rec 1 v_at v_fault v_faultAt v_kind v_open v_size v_stop v_code) fun rc1 v_at_c1 v_fault_c1 v_faultAt_c1 v_kind_c1 v_open_c1 v_size_c1 v_stop_c1 v_code_c1 =>
  iReader_readBoth_b7 N rec v_length v_tape N rc1 0 v_at_c1 v_fault_c1 v_faultAt_c1 v_kind_c1 v_open_c1 v_size_c1 v_stop_c1 v_code_c1
abbrev R_iReader_readFact : Type := Int × Int × Int × Int × Int × Int × Int × Int × (Nat → Int)
def iReader_readFact_b209 (N : Nat) (rec : Nat → Int → Int → Int → Int → Int → Int → Int → (Nat → Int) → Option R_iReader_readFact) (v_length : Int) (v_tape : (Nat → Int)) (s0 : Int) (v_at : Int) (v_fault : Int) (v_faultAt : Int) (v_kind : Int) (v_open : Int) (v_size : Int) (v_stop : Int) (v_code : (Nat → Int)) : Option R_iReader_readFact :=
  if s0 = 0 then
    bd3 (iReader_fail 1 v_at v_fault v_faultAt) fun rc23 v_fault_c23 v_faultAt_c23 =>
    gd (jB rc23) <|
    some (rc23, v_at, v_fault_c23, v_faultAt_c23, v_kind, v_open, v_size, v_stop, v_code)
  else
    bd9 (iReader_readSum N v_at v_fault v_faultAt v_kind v_length v_open v_size v_stop v_code v_tape) fun rc21 v_at_c21 v_fault_c21 v_faultAt_c21 v_kind_c21 v_open_c21 v_size_c21 v_stop_c21 v_code_c21 =>
    if rc21 = 0 then
      some (0, v_at_c21, v_fault_c21, v_faultAt_c21, v_kind_c21, v_open_c21, v_size_c21, v_stop_c21, v_code_c21)
    else
      bd5 (iReader_emit s0 v_at_c21 v_fault_c21 v_faultAt_c21 v_size_c21 v_code_c21) fun rc22 v_fault_c22 v_faultAt_c22 v_size_c22 v_code_c22 =>
      if rc22 = 0 then
        some (0, v_at_c21, v_fault_c22, v_faultAt_c22, v_kind_c21, v_open_c21, v_size_c22, v_stop_c21, v_code_c22)
      else
        some (1, v_at_c21, v_fault_c22, v_faultAt_c22, v_kind_c21, v_open_c21, v_size_c22, v_stop_c21, v_code_c22)
def iReader_readFact_G (N : Nat) (rec : Nat → Int → Int → Int → Int → Int → Int → Int → (Nat → Int) → Option R_iReader_readFact) (v_length : Int) (v_tape : (Nat → Int)) (v_at : Int) (v_fault : Int) (v_faultAt : Int) (v_kind : Int) (v_open : Int) (v_size : Int) (v_stop : Int) (v_code : (Nat → Int)) : Option R_iReader_readFact :=
  bd4 (iReader_takeWord N 16 v_at v_kind v_length v_stop v_tape) fun rc1 v_at_c1 v_kind_c1 v_stop_c1 =>
  if rc1 = 0 then
    bd4 (iReader_takeMark N 91 v_at_c1 v_kind_c1 v_length v_stop_c1 v_tape) fun rc2 v_at_c2 v_kind_c2 v_stop_c2 =>
    if rc2 = 0 then
      bd4 (iReader_takeWord N 17 v_at_c2 v_kind_c2 v_length v_stop_c2 v_tape) fun rc3 v_at_c3 v_kind_c3 v_stop_c3 =>
      if rc3 = 0 then
        bd4 (iReader_takeWord N 18 v_at_c3 v_kind_c3 v_length v_stop_c3 v_tape) fun rc4 v_at_c4 v_kind_c4 v_stop_c4 =>
        if rc4 = 0 then
          bd9 (iReader_readSum N v_at_c4 v_fault v_faultAt v_kind_c4 v_length v_open v_size v_stop_c4 v_code v_tape) fun rc5 v_at_c5 v_fault_c5 v_faultAt_c5 v_kind_c5 v_open_c5 v_size_c5 v_stop_c5 v_code_c5 =>
          if rc5 = 0 then
            some (0, v_at_c5, v_fault_c5, v_faultAt_c5, v_kind_c5, v_open_c5, v_size_c5, v_stop_c5, v_code_c5)
          else
            bd4 (iReader_takeMark N 60 v_at_c5 v_kind_c5 v_length v_stop_c5 v_tape) fun rc6 v_at_c6 v_kind_c6 v_stop_c6 =>
            if rc6 = 0 then
              bd4 (iReader_takeMark N 62 v_at_c6 v_kind_c6 v_length v_stop_c6 v_tape) fun rc7 v_at_c7 v_kind_c7 v_stop_c7 =>
              if rc7 = 0 then
                bd4 (iReader_takeMark N 61 v_at_c7 v_kind_c7 v_length v_stop_c7 v_tape) fun rc8 v_at_c8 v_kind_c8 v_stop_c8 =>
                if rc8 = 0 then
                  iReader_readFact_b209 N rec v_length v_tape 0 v_at_c8 v_fault_c5 v_faultAt_c5 v_kind_c8 v_open_c5 v_size_c5 v_stop_c8 v_code_c5
                else
                  iReader_readFact_b209 N rec v_length v_tape (-15) v_at_c8 v_fault_c5 v_faultAt_c5 v_kind_c8 v_open_c5 v_size_c5 v_stop_c8 v_code_c5
              else
                iReader_readFact_b209 N rec v_length v_tape (-14) v_at_c7 v_fault_c5 v_faultAt_c5 v_kind_c7 v_open_c5 v_size_c5 v_stop_c7 v_code_c5
            else
              iReader_readFact_b209 N rec v_length v_tape (-13) v_at_c6 v_fault_c5 v_faultAt_c5 v_kind_c6 v_open_c5 v_size_c5 v_stop_c6 v_code_c5
        else
          bd6 (iReader_readNumber N 0 7 v_at_c4 v_fault v_faultAt v_kind_c4 v_length v_stop_c4 v_tape) fun rc9 v_at_c9 v_fault_c9 v_faultAt_c9 v_kind_c9 v_stop_c9 =>
          if rc9 = (-1) then
            some (0, v_at_c9, v_fault_c9, v_faultAt_c9, v_kind_c9, v_open, v_size, v_stop_c9, v_code)
          else
            bd5 (iReader_emit rc9 v_at_c9 v_fault_c9 v_faultAt_c9 v_size v_code) fun rc10 v_fault_c10 v_faultAt_c10 v_size_c10 v_code_c10 =>
            if rc10 = 0 then
              some (0, v_at_c9, v_fault_c10, v_faultAt_c10, v_kind_c9, v_open, v_size_c10, v_stop_c9, v_code_c10)
            else
              bd5 (iReader_emit (-6) v_at_c9 v_fault_c10 v_faultAt_c10 v_size_c10 v_code_c10) fun rc11 v_fault_c11 v_faultAt_c11 v_size_c11 v_code_c11 =>
              if rc11 = 0 then
                some (0, v_at_c9, v_fault_c11, v_faultAt_c11, v_kind_c9, v_open, v_size_c11, v_stop_c9, v_code_c11)
              else
                some (1, v_at_c9, v_fault_c11, v_faultAt_c11, v_kind_c9, v_open, v_size_c11, v_stop_c9, v_code_c11)
      else
        bd5 (iReader_emit 1 v_at_c3 v_fault v_faultAt v_size v_code) fun rc12 v_fault_c12 v_faultAt_c12 v_size_c12 v_code_c12 =>
        gd (jB rc12) <|
        some (rc12, v_at_c3, v_fault_c12, v_faultAt_c12, v_kind_c3, v_open, v_size_c12, v_stop_c3, v_code_c12)
    else
      bd4 (iReader_opens v_at v_fault v_faultAt v_open) fun rc13 v_fault_c13 v_faultAt_c13 v_open_c13 =>
      if rc13 = 0 then
        some (0, v_at_c2, v_fault_c13, v_faultAt_c13, v_kind_c2, v_open_c13, v_size, v_stop_c2, v_code)
      else
        bd9 (rec 2 v_at_c2 v_fault_c13 v_faultAt_c13 v_kind_c2 v_open_c13 v_size v_stop_c2 v_code) fun rc14 v_at_c14 v_fault_c14 v_faultAt_c14 v_kind_c14 v_open_c14 v_size_c14 v_stop_c14 v_code_c14 =>
        if rc14 = 0 then
          some (0, v_at_c14, v_fault_c14, v_faultAt_c14, v_kind_c14, v_open_c14, v_size_c14, v_stop_c14, v_code_c14)
        else
          bd6 (iReader_needMark N 93 v_at_c14 v_fault_c14 v_faultAt_c14 v_kind_c14 v_length v_stop_c14 v_tape) fun rc15 v_at_c15 v_fault_c15 v_faultAt_c15 v_kind_c15 v_stop_c15 =>
          if rc15 = 0 then
            some (0, v_at_c15, v_fault_c15, v_faultAt_c15, v_kind_c15, v_open_c14, v_size_c14, v_stop_c15, v_code_c14)
          else
            bd2 (iReader_closes v_open_c14) fun rc16 v_open_c16 =>
            if rc16 = 0 then
              some (0, v_at_c15, v_fault_c15, v_faultAt_c15, v_kind_c15, v_open_c16, v_size_c14, v_stop_c15, v_code_c14)
            else
              some (1, v_at_c15, v_fault_c15, v_faultAt_c15, v_kind_c15, v_open_c16, v_size_c14, v_stop_c15, v_code_c14)
  else
    bd4 (iReader_opens v_at v_fault v_faultAt v_open) fun rc17 v_fault_c17 v_faultAt_c17 v_open_c17 =>
    if rc17 = 0 then
      some (0, v_at_c1, v_fault_c17, v_faultAt_c17, v_kind_c1, v_open_c17, v_size, v_stop_c1, v_code)
    else
      bd9 (rec 1 v_at_c1 v_fault_c17 v_faultAt_c17 v_kind_c1 v_open_c17 v_size v_stop_c1 v_code) fun rc18 v_at_c18 v_fault_c18 v_faultAt_c18 v_kind_c18 v_open_c18 v_size_c18 v_stop_c18 v_code_c18 =>
      if rc18 = 0 then
        some (0, v_at_c18, v_fault_c18, v_faultAt_c18, v_kind_c18, v_open_c18, v_size_c18, v_stop_c18, v_code_c18)
      else
        bd5 (iReader_emit (-5) v_at_c18 v_fault_c18 v_faultAt_c18 v_size_c18 v_code_c18) fun rc19 v_fault_c19 v_faultAt_c19 v_size_c19 v_code_c19 =>
        if rc19 = 0 then
          some (0, v_at_c18, v_fault_c19, v_faultAt_c19, v_kind_c18, v_open_c18, v_size_c19, v_stop_c18, v_code_c19)
        else
          bd2 (iReader_closes v_open_c18) fun rc20 v_open_c20 =>
          if rc20 = 0 then
            some (0, v_at_c18, v_fault_c19, v_faultAt_c19, v_kind_c18, v_open_c20, v_size_c19, v_stop_c18, v_code_c19)
          else
            some (1, v_at_c18, v_fault_c19, v_faultAt_c19, v_kind_c18, v_open_c20, v_size_c19, v_stop_c18, v_code_c19)
abbrev R_iReader_readTest : Type := Int × Int × Int × Int × Int × Int × Int × Int × (Nat → Int)
def iReader_readTest_b7_F (N : Nat) (rec : Nat → Int → Int → Int → Int → Int → Int → Int → (Nat → Int) → Option R_iReader_readTest) (v_length : Int) (v_tape : (Nat → Int)) (self : Int → Int → Int → Int → Int → Int → Int → Int → Int → (Nat → Int) → Option R_iReader_readTest) (x1 : Int) (x2 : Int) (v_at : Int) (v_fault : Int) (v_faultAt : Int) (v_kind : Int) (v_open : Int) (v_size : Int) (v_stop : Int) (v_code : (Nat → Int)) : Option R_iReader_readTest :=
  if 600 ≤ x2 then
    gd (jB x1) <|
    some (x1, v_at, v_fault, v_faultAt, v_kind, v_open, v_size, v_stop, v_code)
  else
    if x1 = 0 then
      gd (jB x1) <|
      some (x1, v_at, v_fault, v_faultAt, v_kind, v_open, v_size, v_stop, v_code)
    else
      bd4 (iReader_takeWord N 20 v_at v_kind v_length v_stop v_tape) fun rc2 v_at_c2 v_kind_c2 v_stop_c2 =>
      if rc2 = 0 then
        gd (jB x1) <|
        some (x1, v_at_c2, v_fault, v_faultAt, v_kind_c2, v_open, v_size, v_stop_c2, v_code)
      else
        bd9 (rec 0 v_at_c2 v_fault v_faultAt v_kind_c2 v_open v_size v_stop_c2 v_code) fun rc3 v_at_c3 v_fault_c3 v_faultAt_c3 v_kind_c3 v_open_c3 v_size_c3 v_stop_c3 v_code_c3 =>
        if rc3 = 0 then
          gd (jr (x2 + 1)) <|
          self 0 (x2 + 1) v_at_c3 v_fault_c3 v_faultAt_c3 v_kind_c3 v_open_c3 v_size_c3 v_stop_c3 v_code_c3
        else
          bd5 (iReader_emit (-17) v_at_c3 v_fault_c3 v_faultAt_c3 v_size_c3 v_code_c3) fun rc4 v_fault_c4 v_faultAt_c4 v_size_c4 v_code_c4 =>
          if rc4 = 0 then
            gd (jr (x2 + 1)) <|
            self 0 (x2 + 1) v_at_c3 v_fault_c4 v_faultAt_c4 v_kind_c3 v_open_c3 v_size_c4 v_stop_c3 v_code_c4
          else
            gd (jr (x2 + 1)) <|
            self 1 (x2 + 1) v_at_c3 v_fault_c4 v_faultAt_c4 v_kind_c3 v_open_c3 v_size_c4 v_stop_c3 v_code_c4
def iReader_readTest_b7 (N : Nat) (rec : Nat → Int → Int → Int → Int → Int → Int → Int → (Nat → Int) → Option R_iReader_readTest) (v_length : Int) (v_tape : (Nat → Int)) : Nat → Int → Int → Int → Int → Int → Int → Int → Int → Int → (Nat → Int) → Option R_iReader_readTest := zlp10 (iReader_readTest_b7_F N rec v_length v_tape)
def iReader_readTest_G (N : Nat) (rec : Nat → Int → Int → Int → Int → Int → Int → Int → (Nat → Int) → Option R_iReader_readTest) (v_length : Int) (v_tape : (Nat → Int)) (v_at : Int) (v_fault : Int) (v_faultAt : Int) (v_kind : Int) (v_open : Int) (v_size : Int) (v_stop : Int) (v_code : (Nat → Int)) : Option R_iReader_readTest :=
  bd9 (rec 0 v_at v_fault v_faultAt v_kind v_open v_size v_stop v_code) fun rc1 v_at_c1 v_fault_c1 v_faultAt_c1 v_kind_c1 v_open_c1 v_size_c1 v_stop_c1 v_code_c1 =>
  iReader_readTest_b7 N rec v_length v_tape N rc1 0 v_at_c1 v_fault_c1 v_faultAt_c1 v_kind_c1 v_open_c1 v_size_c1 v_stop_c1 v_code_c1
def iG_readBoth_readFact_readTest (N : Nat) (v_length : Int) (v_tape : (Nat → Int)) : Nat → Nat → Int → Int → Int → Int → Int → Int → Int → (Nat → Int) → Option R_iReader_readBoth := gr8 fun rec tag v_at v_fault v_faultAt v_kind v_open v_size v_stop v_code =>
  if tag = 0 then
    iReader_readBoth_G N rec v_length v_tape v_at v_fault v_faultAt v_kind v_open v_size v_stop v_code
  else
    if tag = 1 then
      iReader_readFact_G N rec v_length v_tape v_at v_fault v_faultAt v_kind v_open v_size v_stop v_code
    else
      iReader_readTest_G N rec v_length v_tape v_at v_fault v_faultAt v_kind v_open v_size v_stop v_code
def iReader_readBoth (N : Nat) (v_at : Int) (v_fault : Int) (v_faultAt : Int) (v_kind : Int) (v_length : Int) (v_open : Int) (v_size : Int) (v_stop : Int) (v_code : (Nat → Int)) (v_tape : (Nat → Int)) : Option R_iReader_readBoth :=
  iG_readBoth_readFact_readTest N v_length v_tape 40 0 v_at v_fault v_faultAt v_kind v_open v_size v_stop v_code
def iReader_readFact (N : Nat) (v_at : Int) (v_fault : Int) (v_faultAt : Int) (v_kind : Int) (v_length : Int) (v_open : Int) (v_size : Int) (v_stop : Int) (v_code : (Nat → Int)) (v_tape : (Nat → Int)) : Option R_iReader_readFact :=
  iG_readBoth_readFact_readTest N v_length v_tape 40 1 v_at v_fault v_faultAt v_kind v_open v_size v_stop v_code
def iReader_readTest (N : Nat) (v_at : Int) (v_fault : Int) (v_faultAt : Int) (v_kind : Int) (v_length : Int) (v_open : Int) (v_size : Int) (v_stop : Int) (v_code : (Nat → Int)) (v_tape : (Nat → Int)) : Option R_iReader_readTest :=
  iG_readBoth_readFact_readTest N v_length v_tape 40 2 v_at v_fault v_faultAt v_kind v_open v_size v_stop v_code
abbrev R_iReader_readStatement : Type := Int × DynI × Int × Int × Int × Int × Int × Int × Int × (Nat → Int) × (Nat → Option Nat)
def iReader_readStatement_b65 (N : Nat) (v_count : Int) (v_length : Int) (v_tape : (Nat → Int)) (x1 : Nat) (s0 : Int) (v_D : DynI) (v_at : Int) (v_fault : Int) (v_faultAt : Int) (v_kind : Int) (v_open : Int) (v_size : Int) (v_stop : Int) (v_code : (Nat → Int)) (v_statements : (Nat → Option Nat)) : Option R_iReader_readStatement :=
  bd1 (jPI v_D x1 0 6 v_size) fun v_D10 =>
  if s0 = 0 then
    some (0, v_D10, v_at, v_fault, v_faultAt, v_kind, v_open, v_size, v_stop, v_code, v_statements)
  else
    bd6 (iReader_needMark N 59 v_at v_fault v_faultAt v_kind v_length v_stop v_tape) fun rc11 v_at_c11 v_fault_c11 v_faultAt_c11 v_kind_c11 v_stop_c11 =>
    if rc11 = 0 then
      some (0, v_D10, v_at_c11, v_fault_c11, v_faultAt_c11, v_kind_c11, v_open, v_size, v_stop_c11, v_code, v_statements)
    else
      some (1, v_D10, v_at_c11, v_fault_c11, v_faultAt_c11, v_kind_c11, v_open, v_size, v_stop_c11, v_code, v_statements)
def iReader_readStatement (N : Nat) (v_D : DynI) (v_at : Int) (v_count : Int) (v_fault : Int) (v_faultAt : Int) (v_kind : Int) (v_length : Int) (v_open : Int) (v_size : Int) (v_stop : Int) (v_code : (Nat → Int)) (v_statements : (Nat → Option Nat)) (v_tape : (Nat → Int)) : Option R_iReader_readStatement :=
  bd1 (some v_D.1) fun y1 =>
  bd0 (iStatement_init y1) <|
  gd (jRt (jNew v_D 0) (some y1) 0) <|
  gd (jb v_count 24) <|
  bd1 (jPI (jNew v_D 0) y1 0 4 v_size) fun v_D5 =>
  bd10 (iReader_readDuty N (some y1) v_D5 v_at v_fault v_faultAt v_kind v_length v_open v_size v_stop v_code v_tape) fun rc6 v_D_c6 v_at_c6 v_fault_c6 v_faultAt_c6 v_kind_c6 v_open_c6 v_size_c6 v_stop_c6 v_code_c6 =>
  bd1 (jPI v_D_c6 y1 0 5 v_size_c6) fun v_D7 =>
  if rc6 = 0 then
    iReader_readStatement_b65 N v_count v_length v_tape y1 0 v_D7 v_at_c6 v_fault_c6 v_faultAt_c6 v_kind_c6 v_open_c6 v_size_c6 v_stop_c6 v_code_c6 (va_up v_statements v_count.toNat (some y1))
  else
    bd6 (iReader_needWord N 15 v_at_c6 v_fault_c6 v_faultAt_c6 v_kind_c6 v_length v_stop_c6 v_tape) fun rc8 v_at_c8 v_fault_c8 v_faultAt_c8 v_kind_c8 v_stop_c8 =>
    if rc8 = 0 then
      iReader_readStatement_b65 N v_count v_length v_tape y1 0 v_D7 v_at_c8 v_fault_c8 v_faultAt_c8 v_kind_c8 v_open_c6 v_size_c6 v_stop_c8 v_code_c6 (va_up v_statements v_count.toNat (some y1))
    else
      bd9 (iReader_readTest N v_at_c8 v_fault_c8 v_faultAt_c8 v_kind_c8 v_length v_open_c6 v_size_c6 v_stop_c8 v_code_c6 v_tape) fun rc9 v_at_c9 v_fault_c9 v_faultAt_c9 v_kind_c9 v_open_c9 v_size_c9 v_stop_c9 v_code_c9 =>
      if rc9 = 0 then
        iReader_readStatement_b65 N v_count v_length v_tape y1 0 v_D7 v_at_c9 v_fault_c9 v_faultAt_c9 v_kind_c9 v_open_c9 v_size_c9 v_stop_c9 v_code_c9 (va_up v_statements v_count.toNat (some y1))
      else
        iReader_readStatement_b65 N v_count v_length v_tape y1 1 v_D7 v_at_c9 v_fault_c9 v_faultAt_c9 v_kind_c9 v_open_c9 v_size_c9 v_stop_c9 v_code_c9 (va_up v_statements v_count.toNat (some y1))
abbrev R_iReader_read : Type := (Option Nat) × DynI × Int × Int × Int × Int × Int × Int × Int × Int × Int × (Nat → Int) × (Nat → Option Nat)
def iReader_read_b41_F (N : Nat) (v_tape : (Nat → Int)) (v_length : Int) (k79 : Int → DynI → Int → Int → Int → Int → Int → Int → Int → Int → (Nat → Int) → (Nat → Option Nat) → Option R_iReader_read) (self : Int → DynI → Int → Int → Int → Int → Int → Int → Int → Int → (Nat → Int) → (Nat → Option Nat) → Option R_iReader_read) (x1 : Int) (v_D : DynI) (v_at : Int) (v_count : Int) (v_fault : Int) (v_faultAt : Int) (v_kind : Int) (v_open : Int) (v_size : Int) (v_stop : Int) (v_code : (Nat → Int)) (v_statements : (Nat → Option Nat)) : Option R_iReader_read :=
  gd (jb v_count 25) <|
  if x1 = 0 then
    k79 x1 v_D v_at v_count v_fault v_faultAt v_kind v_open v_size v_stop v_code v_statements
  else
    if v_kind = 0 then
      k79 x1 v_D v_at v_count v_fault v_faultAt v_kind v_open v_size v_stop v_code v_statements
    else
      if 24 ≤ v_count then
        k79 x1 v_D v_at v_count v_fault v_faultAt v_kind v_open v_size v_stop v_code v_statements
      else
        bd11 (iReader_readStatement N v_D v_at v_count v_fault v_faultAt v_kind v_length v_open v_size v_stop v_code v_statements v_tape) fun rc3 v_D_c3 v_at_c3 v_fault_c3 v_faultAt_c3 v_kind_c3 v_open_c3 v_size_c3 v_stop_c3 v_code_c3 v_statements_c3 =>
        gd (jr (v_count + 1)) <|
        self rc3 v_D_c3 v_at_c3 (v_count + 1) v_fault_c3 v_faultAt_c3 v_kind_c3 v_open_c3 v_size_c3 v_stop_c3 v_code_c3 v_statements_c3
def iReader_read_b41 (N : Nat) (v_tape : (Nat → Int)) (v_length : Int) (k79 : Int → DynI → Int → Int → Int → Int → Int → Int → Int → Int → (Nat → Int) → (Nat → Option Nat) → Option R_iReader_read) : Nat → Int → DynI → Int → Int → Int → Int → Int → Int → Int → Int → (Nat → Int) → (Nat → Option Nat) → Option R_iReader_read := zlp12 (iReader_read_b41_F N v_tape v_length k79)
def iReader_read_b100 (N : Nat) (v_tape : (Nat → Int)) (x1 : Int) (v_D : DynI) (v_at : Int) (v_count : Int) (v_fault : Int) (v_faultAt : Int) (v_kind : Int) (v_length : Int) (v_open : Int) (v_size : Int) (v_stop : Int) (v_code : (Nat → Int)) (v_statements : (Nat → Option Nat)) : Option R_iReader_read :=
  bd1 (iReader_wipe v_length) fun v_length_c5 =>
  if x1 = 0 then
    some (none, v_D, v_at, v_count, v_fault, v_faultAt, v_kind, v_length_c5, v_open, v_size, v_stop, v_code, v_statements)
  else
    bd1 (some v_D.1) fun y6 =>
    bd1 (iWrit_init y6 v_count v_size v_statements v_code (jNew v_D 1)) fun v_D_c7 =>
    some (some y6, v_D_c7, v_at, v_count, v_fault, v_faultAt, v_kind, v_length_c5, v_open, v_size, v_stop, v_code, v_statements)
def iReader_read_b79 (N : Nat) (v_tape : (Nat → Int)) (x1 : Int) (v_D : DynI) (v_at : Int) (v_count : Int) (v_fault : Int) (v_faultAt : Int) (v_kind : Int) (v_length : Int) (v_open : Int) (v_size : Int) (v_stop : Int) (v_code : (Nat → Int)) (v_statements : (Nat → Option Nat)) : Option R_iReader_read :=
  if x1 = 0 then
    iReader_read_b100 N v_tape x1 v_D v_at v_count v_fault v_faultAt v_kind v_length v_open v_size v_stop v_code v_statements
  else
    if v_kind = 0 then
      iReader_read_b100 N v_tape x1 v_D v_at v_count v_fault v_faultAt v_kind v_length v_open v_size v_stop v_code v_statements
    else
      bd3 (iReader_fail 4 v_at v_fault v_faultAt) fun rc4 v_fault_c4 v_faultAt_c4 =>
      iReader_read_b100 N v_tape rc4 v_D v_at v_count v_fault_c4 v_faultAt_c4 v_kind v_length v_open v_size v_stop v_code v_statements
def iReader_read (N : Nat) (v_D : DynI) (v_at : Int) (v_count : Int) (v_fault : Int) (v_faultAt : Int) (v_kind : Int) (v_length : Int) (v_open : Int) (v_size : Int) (v_stop : Int) (v_code : (Nat → Int)) (v_statements : (Nat → Option Nat)) (v_tape : (Nat → Int)) : Option R_iReader_read :=
  bd3 (iReader_next N v_at 3 v_length 0 v_tape) fun v_at_c1 v_kind_c1 v_stop_c1 =>
  iReader_read_b41 N v_tape v_length (fun x1_k1 v_D_k2 v_at_k3 v_count_k4 v_fault_k5 v_faultAt_k6 v_kind_k7 e10_ e11_ e12_ e13_ e14_ => iReader_read_b79 N v_tape x1_k1 v_D_k2 v_at_k3 v_count_k4 v_fault_k5 v_faultAt_k6 v_kind_k7 v_length e10_ e11_ e12_ e13_ e14_) N 1 v_D v_at_c1 0 0 (-1) v_kind_c1 0 0 v_stop_c1 v_code v_statements
def iReader_faultFound (v_fault : Int) : Option Int :=
  some v_fault
def iReader_faultPlace (v_faultAt : Int) : Option Int :=
  some v_faultAt
