/-! the world of this claim: cell k of the two objects lies at base + k; what the calls make lies behind them -/
abbrev zX : Type := Nat × va_G × (Nat → ClassId) × (Nat → Nat) × (Nat → Nat) × (Nat → Nat)
abbrev zS : Type := (Nat → Nat → Int32) × (Nat → Nat → Int64) × (Nat → Nat → Option Nat) × zD
def zq (X : zX) (q : Option Nat) : Option Nat := match q with
  | none => none
  | some j => some (X.1 + 182 + j)
def zDe (X : zX) (D : zD) (j : Nat) : va_E := match D.2.1 j with
  | 0 => .inr (9, [.int (D.2.2.2.1 j 0), .int (D.2.2.2.1 j 1), .int (D.2.2.2.1 j 2), .int (D.2.2.2.1 j 3), .int (D.2.2.2.1 j 4), .int (D.2.2.2.1 j 5), .int (D.2.2.2.1 j 6)])
  | 1 => .inr (10, [va_rf (zq X (D.2.2.2.2 j 0)), va_rf (zq X (D.2.2.2.2 j 1))])
  | 2 => .inl (X.2.2.1 5, D.2.2.1 j, .inr (.inr (.inr (.inr (fun i => zq X (D.2.2.2.2 j i))))))
  | _ => .inl (X.2.2.1 0, D.2.2.1 j, .inl (D.2.2.2.1 j))
def zf11 (X : zX) (i : Nat → Int32) (j : Nat → Int64) : List Value := [.ref (X.1 + 1), .ref (X.1 + 5), .ref (X.1 + 33), .ref (X.1 + 37), .ref (X.1 + 44), .int (i 5)]
theorem zset11_5 (X : zX) (i : Nat → Int32) (j : Nat → Int64) (v : Int32) : (zf11 X i j).set 5 (.int v) = zf11 X (va_up i 5 v) j := rfl
theorem zflen11 (X : zX) (i : Nat → Int32) (j : Nat → Int64) : (zf11 X i j).length = 6 := rfl
def zf3 (X : zX) (i : Nat → Int32) (j : Nat → Int64) : List Value := [.ref (X.1 + 2), .ref (X.1 + 3), .ref (X.1 + 4)]
theorem zflen3 (X : zX) (i : Nat → Int32) (j : Nat → Int64) : (zf3 X i j).length = 3 := rfl
def zf2 (X : zX) (i : Nat → Int32) (j : Nat → Int64) : List Value := [.ref (X.1 + 6), .ref (X.1 + 7), .ref (X.1 + 8), .ref (X.1 + 9), .ref (X.1 + 10), .ref (X.1 + 11), .ref (X.1 + 12), .ref (X.1 + 13), .int (i 8), .int (i 9), .int (i 10), .int (i 11), .int (i 12)]
theorem zset2_8 (X : zX) (i : Nat → Int32) (j : Nat → Int64) (v : Int32) : (zf2 X i j).set 8 (.int v) = zf2 X (va_up i 8 v) j := rfl
theorem zset2_9 (X : zX) (i : Nat → Int32) (j : Nat → Int64) (v : Int32) : (zf2 X i j).set 9 (.int v) = zf2 X (va_up i 9 v) j := rfl
theorem zset2_10 (X : zX) (i : Nat → Int32) (j : Nat → Int64) (v : Int32) : (zf2 X i j).set 10 (.int v) = zf2 X (va_up i 10 v) j := rfl
theorem zset2_11 (X : zX) (i : Nat → Int32) (j : Nat → Int64) (v : Int32) : (zf2 X i j).set 11 (.int v) = zf2 X (va_up i 11 v) j := rfl
theorem zset2_12 (X : zX) (i : Nat → Int32) (j : Nat → Int64) (v : Int32) : (zf2 X i j).set 12 (.int v) = zf2 X (va_up i 12 v) j := rfl
theorem zflen2 (X : zX) (i : Nat → Int32) (j : Nat → Int64) : (zf2 X i j).length = 13 := rfl
def zf6 (X : zX) (i : Nat → Int32) (j : Nat → Int64) : List Value := [.ref (X.1 + 14), .ref (X.1 + 26), .ref (X.1 + 27), .ref (X.1 + 28), .ref (X.1 + 29), .ref (X.1 + 30), .ref (X.1 + 31), .ref (X.1 + 32)]
theorem zflen6 (X : zX) (i : Nat → Int32) (j : Nat → Int64) : (zf6 X i j).length = 8 := rfl
def zf7 (X : zX) (i : Nat → Int32) (j : Nat → Int64) : List Value := [.ref (X.1 + 34), .ref (X.1 + 35), .ref (X.1 + 36), .int (i 3), .int (i 4), .int (i 5), .int (i 6), .int (i 7), .int (i 8), .int (i 9), .int (i 10), .int (i 11)]
theorem zset7_3 (X : zX) (i : Nat → Int32) (j : Nat → Int64) (v : Int32) : (zf7 X i j).set 3 (.int v) = zf7 X (va_up i 3 v) j := rfl
theorem zset7_4 (X : zX) (i : Nat → Int32) (j : Nat → Int64) (v : Int32) : (zf7 X i j).set 4 (.int v) = zf7 X (va_up i 4 v) j := rfl
theorem zset7_5 (X : zX) (i : Nat → Int32) (j : Nat → Int64) (v : Int32) : (zf7 X i j).set 5 (.int v) = zf7 X (va_up i 5 v) j := rfl
theorem zset7_6 (X : zX) (i : Nat → Int32) (j : Nat → Int64) (v : Int32) : (zf7 X i j).set 6 (.int v) = zf7 X (va_up i 6 v) j := rfl
theorem zset7_7 (X : zX) (i : Nat → Int32) (j : Nat → Int64) (v : Int32) : (zf7 X i j).set 7 (.int v) = zf7 X (va_up i 7 v) j := rfl
theorem zset7_8 (X : zX) (i : Nat → Int32) (j : Nat → Int64) (v : Int32) : (zf7 X i j).set 8 (.int v) = zf7 X (va_up i 8 v) j := rfl
theorem zset7_9 (X : zX) (i : Nat → Int32) (j : Nat → Int64) (v : Int32) : (zf7 X i j).set 9 (.int v) = zf7 X (va_up i 9 v) j := rfl
theorem zset7_10 (X : zX) (i : Nat → Int32) (j : Nat → Int64) (v : Int32) : (zf7 X i j).set 10 (.int v) = zf7 X (va_up i 10 v) j := rfl
theorem zset7_11 (X : zX) (i : Nat → Int32) (j : Nat → Int64) (v : Int32) : (zf7 X i j).set 11 (.int v) = zf7 X (va_up i 11 v) j := rfl
theorem zflen7 (X : zX) (i : Nat → Int32) (j : Nat → Int64) : (zf7 X i j).length = 12 := rfl
def zf0 (X : zX) (i : Nat → Int32) (j : Nat → Int64) : List Value := [.ref (X.1 + 38), .ref (X.1 + 39), .ref (X.1 + 40), .ref (X.1 + 41), .ref (X.1 + 42), .ref (X.1 + 43), .int (i 6), .int (i 7)]
theorem zset0_6 (X : zX) (i : Nat → Int32) (j : Nat → Int64) (v : Int32) : (zf0 X i j).set 6 (.int v) = zf0 X (va_up i 6 v) j := rfl
theorem zset0_7 (X : zX) (i : Nat → Int32) (j : Nat → Int64) (v : Int32) : (zf0 X i j).set 7 (.int v) = zf0 X (va_up i 7 v) j := rfl
theorem zflen0 (X : zX) (i : Nat → Int32) (j : Nat → Int64) : (zf0 X i j).length = 8 := rfl
def zf1 (X : zX) (i : Nat → Int32) (j : Nat → Int64) : List Value := [.ref (X.1 + 37), .ref (X.1 + 5), .ref (X.1 + 48), .ref (X.1 + 53), .ref (X.1 + 45), .ref (X.1 + 114), .ref (X.1 + 121), .int (i 7), .int (i 8), .int (i 9)]
theorem zset1_7 (X : zX) (i : Nat → Int32) (j : Nat → Int64) (v : Int32) : (zf1 X i j).set 7 (.int v) = zf1 X (va_up i 7 v) j := rfl
theorem zset1_8 (X : zX) (i : Nat → Int32) (j : Nat → Int64) (v : Int32) : (zf1 X i j).set 8 (.int v) = zf1 X (va_up i 8 v) j := rfl
theorem zset1_9 (X : zX) (i : Nat → Int32) (j : Nat → Int64) (v : Int32) : (zf1 X i j).set 9 (.int v) = zf1 X (va_up i 9 v) j := rfl
theorem zflen1 (X : zX) (i : Nat → Int32) (j : Nat → Int64) : (zf1 X i j).length = 10 := rfl
def zf4 (X : zX) (i : Nat → Int32) (j : Nat → Int64) : List Value := [.ref (X.1 + 47), .int (i 1), .int (i 2), .long (j 3), .long (j 4)]
theorem zset4_1 (X : zX) (i : Nat → Int32) (j : Nat → Int64) (v : Int32) : (zf4 X i j).set 1 (.int v) = zf4 X (va_up i 1 v) j := rfl
theorem zset4_2 (X : zX) (i : Nat → Int32) (j : Nat → Int64) (v : Int32) : (zf4 X i j).set 2 (.int v) = zf4 X (va_up i 2 v) j := rfl
theorem zset4_3 (X : zX) (i : Nat → Int32) (j : Nat → Int64) (v : Int64) : (zf4 X i j).set 3 (.long v) = zf4 X i (va_up j 3 v) := rfl
theorem zset4_4 (X : zX) (i : Nat → Int32) (j : Nat → Int64) (v : Int64) : (zf4 X i j).set 4 (.long v) = zf4 X i (va_up j 4 v) := rfl
theorem zflen4 (X : zX) (i : Nat → Int32) (j : Nat → Int64) : (zf4 X i j).length = 5 := rfl
def zf5 (X : zX) (k : Nat) (i : Nat → Int32) (j : Nat → Int64) : List Value := [.ref (X.1 + 37), .ref (X.1 + (k + 1)), .ref (X.1 + (k + 2)), .ref (X.1 + (k + 3)), .ref (X.1 + (k + 4))]
theorem zflen5 (X : zX) (k : Nat) (i : Nat → Int32) (j : Nat → Int64) : (zf5 X k i j).length = 5 := rfl
def zf8 (X : zX) (k kn : Nat) (i : Nat → Int32) (j : Nat → Int64) : List Value := [.ref (X.1 + 37), .ref (X.1 + 5), .ref (X.1 + kn), .ref (X.1 + 46), .ref (X.1 + (k + 1)), .ref (X.1 + (k + 2)), .ref (X.1 + (k + 3)), .ref (X.1 + (k + 4)), .ref (X.1 + (k + 5)), .ref (X.1 + (k + 6)), .int (i 10), .int (i 11), .long (j 12), .long (j 13), .int (i 14)]
theorem zset8_10 (X : zX) (k kn : Nat) (i : Nat → Int32) (j : Nat → Int64) (v : Int32) : (zf8 X k kn i j).set 10 (.int v) = zf8 X k kn (va_up i 10 v) j := rfl
theorem zset8_11 (X : zX) (k kn : Nat) (i : Nat → Int32) (j : Nat → Int64) (v : Int32) : (zf8 X k kn i j).set 11 (.int v) = zf8 X k kn (va_up i 11 v) j := rfl
theorem zset8_12 (X : zX) (k kn : Nat) (i : Nat → Int32) (j : Nat → Int64) (v : Int64) : (zf8 X k kn i j).set 12 (.long v) = zf8 X k kn i (va_up j 12 v) := rfl
theorem zset8_13 (X : zX) (k kn : Nat) (i : Nat → Int32) (j : Nat → Int64) (v : Int64) : (zf8 X k kn i j).set 13 (.long v) = zf8 X k kn i (va_up j 13 v) := rfl
theorem zset8_14 (X : zX) (k kn : Nat) (i : Nat → Int32) (j : Nat → Int64) (v : Int32) : (zf8 X k kn i j).set 14 (.int v) = zf8 X k kn (va_up i 14 v) j := rfl
theorem zflen8 (X : zX) (k kn : Nat) (i : Nat → Int32) (j : Nat → Int64) : (zf8 X k kn i j).length = 15 := rfl
def zf12 (X : zX) (i : Nat → Int32) (j : Nat → Int64) : List Value := [.ref (X.1 + 129), .ref (X.1 + 130), .ref (X.1 + 131), .ref (X.1 + 132), .ref (X.1 + 133), .ref (X.1 + 134), .ref (X.1 + 135), .ref (X.1 + 136), .ref (X.1 + 137), .ref (X.1 + 138), .int (i 10), .int (i 11), .int (i 12), .ref (X.1 + 139), .ref (X.1 + 140), .ref (X.1 + 141), .ref (X.1 + 142), .ref (X.1 + 143), .int (i 18), .int (i 19), .int (i 20), .int (i 21), .int (i 22), .int (i 23), .int (i 24), .int (i 25), .ref (X.1 + 144), .ref (X.1 + 145), .ref (X.1 + 146), .ref (X.1 + 147), .ref (X.1 + 148), .ref (X.1 + 149), .ref (X.1 + 150), .ref (X.1 + 151), .ref (X.1 + 152), .ref (X.1 + 153), .ref (X.1 + 154), .ref (X.1 + 155), .ref (X.1 + 156), .ref (X.1 + 157), .ref (X.1 + 158), .ref (X.1 + 159), .ref (X.1 + 160), .ref (X.1 + 161), .ref (X.1 + 162), .ref (X.1 + 163), .ref (X.1 + 164), .ref (X.1 + 165), .ref (X.1 + 166), .ref (X.1 + 167), .ref (X.1 + 168), .ref (X.1 + 169), .ref (X.1 + 170), .ref (X.1 + 171), .ref (X.1 + 172), .ref (X.1 + 173), .int (i 56), .ref (X.1 + 174), .int (i 58), .int (i 59), .int (i 60), .ref (X.1 + 175), .int (i 62), .long (j 63), .long (j 64), .int (i 65), .int (i 66), .int (i 67), .ref (X.1 + 176), .ref (X.1 + 177), .ref (X.1 + 178), .ref (X.1 + 179), .ref (X.1 + 180), .int (i 73), .int (i 74), .int (i 75), .int (i 76), .int (i 77), .ref (X.1 + 181), .long (j 79), .long (j 80), .long (j 81), .long (j 82), .int (i 83), .int (i 84)]
theorem zset12_10 (X : zX) (i : Nat → Int32) (j : Nat → Int64) (v : Int32) : (zf12 X i j).set 10 (.int v) = zf12 X (va_up i 10 v) j := rfl
theorem zset12_11 (X : zX) (i : Nat → Int32) (j : Nat → Int64) (v : Int32) : (zf12 X i j).set 11 (.int v) = zf12 X (va_up i 11 v) j := rfl
theorem zset12_12 (X : zX) (i : Nat → Int32) (j : Nat → Int64) (v : Int32) : (zf12 X i j).set 12 (.int v) = zf12 X (va_up i 12 v) j := rfl
theorem zset12_18 (X : zX) (i : Nat → Int32) (j : Nat → Int64) (v : Int32) : (zf12 X i j).set 18 (.int v) = zf12 X (va_up i 18 v) j := rfl
theorem zset12_19 (X : zX) (i : Nat → Int32) (j : Nat → Int64) (v : Int32) : (zf12 X i j).set 19 (.int v) = zf12 X (va_up i 19 v) j := rfl
theorem zset12_20 (X : zX) (i : Nat → Int32) (j : Nat → Int64) (v : Int32) : (zf12 X i j).set 20 (.int v) = zf12 X (va_up i 20 v) j := rfl
theorem zset12_21 (X : zX) (i : Nat → Int32) (j : Nat → Int64) (v : Int32) : (zf12 X i j).set 21 (.int v) = zf12 X (va_up i 21 v) j := rfl
theorem zset12_22 (X : zX) (i : Nat → Int32) (j : Nat → Int64) (v : Int32) : (zf12 X i j).set 22 (.int v) = zf12 X (va_up i 22 v) j := rfl
theorem zset12_23 (X : zX) (i : Nat → Int32) (j : Nat → Int64) (v : Int32) : (zf12 X i j).set 23 (.int v) = zf12 X (va_up i 23 v) j := rfl
theorem zset12_24 (X : zX) (i : Nat → Int32) (j : Nat → Int64) (v : Int32) : (zf12 X i j).set 24 (.int v) = zf12 X (va_up i 24 v) j := rfl
theorem zset12_25 (X : zX) (i : Nat → Int32) (j : Nat → Int64) (v : Int32) : (zf12 X i j).set 25 (.int v) = zf12 X (va_up i 25 v) j := rfl
theorem zset12_56 (X : zX) (i : Nat → Int32) (j : Nat → Int64) (v : Int32) : (zf12 X i j).set 56 (.int v) = zf12 X (va_up i 56 v) j := rfl
theorem zset12_58 (X : zX) (i : Nat → Int32) (j : Nat → Int64) (v : Int32) : (zf12 X i j).set 58 (.int v) = zf12 X (va_up i 58 v) j := rfl
theorem zset12_59 (X : zX) (i : Nat → Int32) (j : Nat → Int64) (v : Int32) : (zf12 X i j).set 59 (.int v) = zf12 X (va_up i 59 v) j := rfl
theorem zset12_60 (X : zX) (i : Nat → Int32) (j : Nat → Int64) (v : Int32) : (zf12 X i j).set 60 (.int v) = zf12 X (va_up i 60 v) j := rfl
theorem zset12_62 (X : zX) (i : Nat → Int32) (j : Nat → Int64) (v : Int32) : (zf12 X i j).set 62 (.int v) = zf12 X (va_up i 62 v) j := rfl
theorem zset12_63 (X : zX) (i : Nat → Int32) (j : Nat → Int64) (v : Int64) : (zf12 X i j).set 63 (.long v) = zf12 X i (va_up j 63 v) := rfl
theorem zset12_64 (X : zX) (i : Nat → Int32) (j : Nat → Int64) (v : Int64) : (zf12 X i j).set 64 (.long v) = zf12 X i (va_up j 64 v) := rfl
theorem zset12_65 (X : zX) (i : Nat → Int32) (j : Nat → Int64) (v : Int32) : (zf12 X i j).set 65 (.int v) = zf12 X (va_up i 65 v) j := rfl
theorem zset12_66 (X : zX) (i : Nat → Int32) (j : Nat → Int64) (v : Int32) : (zf12 X i j).set 66 (.int v) = zf12 X (va_up i 66 v) j := rfl
theorem zset12_67 (X : zX) (i : Nat → Int32) (j : Nat → Int64) (v : Int32) : (zf12 X i j).set 67 (.int v) = zf12 X (va_up i 67 v) j := rfl
theorem zset12_73 (X : zX) (i : Nat → Int32) (j : Nat → Int64) (v : Int32) : (zf12 X i j).set 73 (.int v) = zf12 X (va_up i 73 v) j := rfl
theorem zset12_74 (X : zX) (i : Nat → Int32) (j : Nat → Int64) (v : Int32) : (zf12 X i j).set 74 (.int v) = zf12 X (va_up i 74 v) j := rfl
theorem zset12_75 (X : zX) (i : Nat → Int32) (j : Nat → Int64) (v : Int32) : (zf12 X i j).set 75 (.int v) = zf12 X (va_up i 75 v) j := rfl
theorem zset12_76 (X : zX) (i : Nat → Int32) (j : Nat → Int64) (v : Int32) : (zf12 X i j).set 76 (.int v) = zf12 X (va_up i 76 v) j := rfl
theorem zset12_77 (X : zX) (i : Nat → Int32) (j : Nat → Int64) (v : Int32) : (zf12 X i j).set 77 (.int v) = zf12 X (va_up i 77 v) j := rfl
theorem zset12_79 (X : zX) (i : Nat → Int32) (j : Nat → Int64) (v : Int64) : (zf12 X i j).set 79 (.long v) = zf12 X i (va_up j 79 v) := rfl
theorem zset12_80 (X : zX) (i : Nat → Int32) (j : Nat → Int64) (v : Int64) : (zf12 X i j).set 80 (.long v) = zf12 X i (va_up j 80 v) := rfl
theorem zset12_81 (X : zX) (i : Nat → Int32) (j : Nat → Int64) (v : Int64) : (zf12 X i j).set 81 (.long v) = zf12 X i (va_up j 81 v) := rfl
theorem zset12_82 (X : zX) (i : Nat → Int32) (j : Nat → Int64) (v : Int64) : (zf12 X i j).set 82 (.long v) = zf12 X i (va_up j 82 v) := rfl
theorem zset12_83 (X : zX) (i : Nat → Int32) (j : Nat → Int64) (v : Int32) : (zf12 X i j).set 83 (.int v) = zf12 X (va_up i 83 v) j := rfl
theorem zset12_84 (X : zX) (i : Nat → Int32) (j : Nat → Int64) (v : Int32) : (zf12 X i j).set 84 (.int v) = zf12 X (va_up i 84 v) j := rfl
theorem zflen12 (X : zX) (i : Nat → Int32) (j : Nat → Int64) : (zf12 X i j).length = 85 := rfl
def zF0 (X : zX) (i : Nat → Int32) (j : Nat → Int64) (r : Nat → Option Nat) : va_E := .inr (11, zf11 X i j)
def zF1 (X : zX) (i : Nat → Int32) (j : Nat → Int64) (r : Nat → Option Nat) : va_E := .inr (3, zf3 X i j)
def zF2 (X : zX) (i : Nat → Int32) (j : Nat → Int64) (r : Nat → Option Nat) : va_E := .inl (X.2.2.1 0, 13, .inl i)
def zF3 (X : zX) (i : Nat → Int32) (j : Nat → Int64) (r : Nat → Option Nat) : va_E := .inl (X.2.2.1 0, 13, .inl i)
def zF4 (X : zX) (i : Nat → Int32) (j : Nat → Int64) (r : Nat → Option Nat) : va_E := .inl (X.2.2.1 0, 13, .inl i)
def zF5 (X : zX) (i : Nat → Int32) (j : Nat → Int64) (r : Nat → Option Nat) : va_E := .inr (2, zf2 X i j)
def zF6 (X : zX) (i : Nat → Int32) (j : Nat → Int64) (r : Nat → Option Nat) : va_E := .inl (X.2.2.1 0, 240, .inl i)
def zF7 (X : zX) (i : Nat → Int32) (j : Nat → Int64) (r : Nat → Option Nat) : va_E := .inl (X.2.2.1 0, 240, .inl i)
def zF8 (X : zX) (i : Nat → Int32) (j : Nat → Int64) (r : Nat → Option Nat) : va_E := .inl (X.2.2.1 0, 20, .inl i)
def zF9 (X : zX) (i : Nat → Int32) (j : Nat → Int64) (r : Nat → Option Nat) : va_E := .inl (X.2.2.1 0, 100, .inl i)
def zF10 (X : zX) (i : Nat → Int32) (j : Nat → Int64) (r : Nat → Option Nat) : va_E := .inl (X.2.2.1 0, 13, .inl i)
def zF11 (X : zX) (i : Nat → Int32) (j : Nat → Int64) (r : Nat → Option Nat) : va_E := .inl (X.2.2.1 0, 13, .inl i)
def zF12 (X : zX) (i : Nat → Int32) (j : Nat → Int64) (r : Nat → Option Nat) : va_E := .inl (X.2.2.1 0, 10, .inl i)
def zF13 (X : zX) (i : Nat → Int32) (j : Nat → Int64) (r : Nat → Option Nat) : va_E := .inr (6, zf6 X i j)
def zF14 (X : zX) (i : Nat → Int32) (j : Nat → Int64) (r : Nat → Option Nat) : va_E := .inl (X.2.2.1 7, 11, .inr (.inr (.inr (.inr (fun q => if q < 11 then some (X.1 + (15 + q)) else none)))))
def zF15 (X : zX) (i : Nat → Int32) (j : Nat → Int64) (r : Nat → Option Nat) : va_E := .inl (X.2.2.1 1, 21, .inr (.inl j))
def zF16 (X : zX) (i : Nat → Int32) (j : Nat → Int64) (r : Nat → Option Nat) : va_E := .inl (X.2.2.1 1, 21, .inr (.inl j))
def zF17 (X : zX) (i : Nat → Int32) (j : Nat → Int64) (r : Nat → Option Nat) : va_E := .inl (X.2.2.1 1, 21, .inr (.inl j))
def zF18 (X : zX) (i : Nat → Int32) (j : Nat → Int64) (r : Nat → Option Nat) : va_E := .inl (X.2.2.1 1, 21, .inr (.inl j))
def zF19 (X : zX) (i : Nat → Int32) (j : Nat → Int64) (r : Nat → Option Nat) : va_E := .inl (X.2.2.1 1, 21, .inr (.inl j))
def zF20 (X : zX) (i : Nat → Int32) (j : Nat → Int64) (r : Nat → Option Nat) : va_E := .inl (X.2.2.1 1, 21, .inr (.inl j))
def zF21 (X : zX) (i : Nat → Int32) (j : Nat → Int64) (r : Nat → Option Nat) : va_E := .inl (X.2.2.1 1, 21, .inr (.inl j))
def zF22 (X : zX) (i : Nat → Int32) (j : Nat → Int64) (r : Nat → Option Nat) : va_E := .inl (X.2.2.1 1, 21, .inr (.inl j))
def zF23 (X : zX) (i : Nat → Int32) (j : Nat → Int64) (r : Nat → Option Nat) : va_E := .inl (X.2.2.1 1, 21, .inr (.inl j))
def zF24 (X : zX) (i : Nat → Int32) (j : Nat → Int64) (r : Nat → Option Nat) : va_E := .inl (X.2.2.1 1, 21, .inr (.inl j))
def zF25 (X : zX) (i : Nat → Int32) (j : Nat → Int64) (r : Nat → Option Nat) : va_E := .inl (X.2.2.1 1, 21, .inr (.inl j))
def zF26 (X : zX) (i : Nat → Int32) (j : Nat → Int64) (r : Nat → Option Nat) : va_E := .inl (X.2.2.1 1, 11, .inr (.inl j))
def zF27 (X : zX) (i : Nat → Int32) (j : Nat → Int64) (r : Nat → Option Nat) : va_E := .inl (X.2.2.1 1, 21, .inr (.inl j))
def zF28 (X : zX) (i : Nat → Int32) (j : Nat → Int64) (r : Nat → Option Nat) : va_E := .inl (X.2.2.1 1, 21, .inr (.inl j))
def zF29 (X : zX) (i : Nat → Int32) (j : Nat → Int64) (r : Nat → Option Nat) : va_E := .inl (X.2.2.1 0, 21, .inl i)
def zF30 (X : zX) (i : Nat → Int32) (j : Nat → Int64) (r : Nat → Option Nat) : va_E := .inl (X.2.2.1 0, 21, .inl i)
def zF31 (X : zX) (i : Nat → Int32) (j : Nat → Int64) (r : Nat → Option Nat) : va_E := .inl (X.2.2.1 3, 21, .inl i)
def zF32 (X : zX) (i : Nat → Int32) (j : Nat → Int64) (r : Nat → Option Nat) : va_E := .inl (X.2.2.1 0, 10, .inl i)
def zF33 (X : zX) (i : Nat → Int32) (j : Nat → Int64) (r : Nat → Option Nat) : va_E := .inr (7, zf7 X i j)
def zF34 (X : zX) (i : Nat → Int32) (j : Nat → Int64) (r : Nat → Option Nat) : va_E := .inl (X.2.2.1 2, 600, .inl i)
def zF35 (X : zX) (i : Nat → Int32) (j : Nat → Int64) (r : Nat → Option Nat) : va_E := .inl (X.2.2.1 0, 600, .inl i)
def zF36 (X : zX) (i : Nat → Int32) (j : Nat → Int64) (r : Nat → Option Nat) : va_E := .inl (X.2.2.1 5, 24, .inr (.inr (.inr (.inr (fun q => zq X (r q))))))
def zF37 (X : zX) (i : Nat → Int32) (j : Nat → Int64) (r : Nat → Option Nat) : va_E := .inr (0, zf0 X i j)
def zF38 (X : zX) (i : Nat → Int32) (j : Nat → Int64) (r : Nat → Option Nat) : va_E := .inl (X.2.2.1 0, 201, .inl i)
def zF39 (X : zX) (i : Nat → Int32) (j : Nat → Int64) (r : Nat → Option Nat) : va_E := .inl (X.2.2.1 0, 201, .inl i)
def zF40 (X : zX) (i : Nat → Int32) (j : Nat → Int64) (r : Nat → Option Nat) : va_E := .inl (X.2.2.1 0, 201, .inl i)
def zF41 (X : zX) (i : Nat → Int32) (j : Nat → Int64) (r : Nat → Option Nat) : va_E := .inl (X.2.2.1 0, 201, .inl i)
def zF42 (X : zX) (i : Nat → Int32) (j : Nat → Int64) (r : Nat → Option Nat) : va_E := .inl (X.2.2.1 0, 201, .inl i)
def zF43 (X : zX) (i : Nat → Int32) (j : Nat → Int64) (r : Nat → Option Nat) : va_E := .inl (X.2.2.1 6, 201, .inr (.inr (.inr (.inr (fun q => zq X (r q))))))
def zF44 (X : zX) (i : Nat → Int32) (j : Nat → Int64) (r : Nat → Option Nat) : va_E := .inr (1, zf1 X i j)
def zF45 (X : zX) (i : Nat → Int32) (j : Nat → Int64) (r : Nat → Option Nat) : va_E := .inl (X.2.2.1 4, 8, .inr (.inr (.inr (.inr (fun q => if q < 8 then some (X.1 + (58 + 7 * q)) else none)))))
def zF46 (X : zX) (i : Nat → Int32) (j : Nat → Int64) (r : Nat → Option Nat) : va_E := .inr (4, zf4 X i j)
def zF47 (X : zX) (i : Nat → Int32) (j : Nat → Int64) (r : Nat → Option Nat) : va_E := .inl (X.2.2.1 1, 64, .inr (.inl j))
def zF48 (X : zX) (i : Nat → Int32) (j : Nat → Int64) (r : Nat → Option Nat) : va_E := .inr (5, zf5 X 48 i j)
def zF49 (X : zX) (i : Nat → Int32) (j : Nat → Int64) (r : Nat → Option Nat) : va_E := .inl (X.2.2.1 0, 40, .inl i)
def zF50 (X : zX) (i : Nat → Int32) (j : Nat → Int64) (r : Nat → Option Nat) : va_E := .inl (X.2.2.1 0, 40, .inl i)
def zF51 (X : zX) (i : Nat → Int32) (j : Nat → Int64) (r : Nat → Option Nat) : va_E := .inl (X.2.2.1 0, 40, .inl i)
def zF52 (X : zX) (i : Nat → Int32) (j : Nat → Int64) (r : Nat → Option Nat) : va_E := .inl (X.2.2.1 0, 201, .inl i)
def zF53 (X : zX) (i : Nat → Int32) (j : Nat → Int64) (r : Nat → Option Nat) : va_E := .inr (5, zf5 X 53 i j)
def zF54 (X : zX) (i : Nat → Int32) (j : Nat → Int64) (r : Nat → Option Nat) : va_E := .inl (X.2.2.1 0, 40, .inl i)
def zF55 (X : zX) (i : Nat → Int32) (j : Nat → Int64) (r : Nat → Option Nat) : va_E := .inl (X.2.2.1 0, 40, .inl i)
def zF56 (X : zX) (i : Nat → Int32) (j : Nat → Int64) (r : Nat → Option Nat) : va_E := .inl (X.2.2.1 0, 40, .inl i)
def zF57 (X : zX) (i : Nat → Int32) (j : Nat → Int64) (r : Nat → Option Nat) : va_E := .inl (X.2.2.1 0, 201, .inl i)
def zF58 (X : zX) (i : Nat → Int32) (j : Nat → Int64) (r : Nat → Option Nat) : va_E := .inr (8, zf8 X 58 48 i j)
def zF59 (X : zX) (i : Nat → Int32) (j : Nat → Int64) (r : Nat → Option Nat) : va_E := .inl (X.2.2.1 1, 40, .inr (.inl j))
def zF60 (X : zX) (i : Nat → Int32) (j : Nat → Int64) (r : Nat → Option Nat) : va_E := .inl (X.2.2.1 1, 40, .inr (.inl j))
def zF61 (X : zX) (i : Nat → Int32) (j : Nat → Int64) (r : Nat → Option Nat) : va_E := .inl (X.2.2.1 1, 40, .inr (.inl j))
def zF62 (X : zX) (i : Nat → Int32) (j : Nat → Int64) (r : Nat → Option Nat) : va_E := .inl (X.2.2.1 1, 40, .inr (.inl j))
def zF63 (X : zX) (i : Nat → Int32) (j : Nat → Int64) (r : Nat → Option Nat) : va_E := .inl (X.2.2.1 1, 40, .inr (.inl j))
def zF64 (X : zX) (i : Nat → Int32) (j : Nat → Int64) (r : Nat → Option Nat) : va_E := .inl (X.2.2.1 1, 760, .inr (.inl j))
def zF65 (X : zX) (i : Nat → Int32) (j : Nat → Int64) (r : Nat → Option Nat) : va_E := .inr (8, zf8 X 65 48 i j)
def zF66 (X : zX) (i : Nat → Int32) (j : Nat → Int64) (r : Nat → Option Nat) : va_E := .inl (X.2.2.1 1, 40, .inr (.inl j))
def zF67 (X : zX) (i : Nat → Int32) (j : Nat → Int64) (r : Nat → Option Nat) : va_E := .inl (X.2.2.1 1, 40, .inr (.inl j))
def zF68 (X : zX) (i : Nat → Int32) (j : Nat → Int64) (r : Nat → Option Nat) : va_E := .inl (X.2.2.1 1, 40, .inr (.inl j))
def zF69 (X : zX) (i : Nat → Int32) (j : Nat → Int64) (r : Nat → Option Nat) : va_E := .inl (X.2.2.1 1, 40, .inr (.inl j))
def zF70 (X : zX) (i : Nat → Int32) (j : Nat → Int64) (r : Nat → Option Nat) : va_E := .inl (X.2.2.1 1, 40, .inr (.inl j))
def zF71 (X : zX) (i : Nat → Int32) (j : Nat → Int64) (r : Nat → Option Nat) : va_E := .inl (X.2.2.1 1, 760, .inr (.inl j))
def zF72 (X : zX) (i : Nat → Int32) (j : Nat → Int64) (r : Nat → Option Nat) : va_E := .inr (8, zf8 X 72 48 i j)
def zF73 (X : zX) (i : Nat → Int32) (j : Nat → Int64) (r : Nat → Option Nat) : va_E := .inl (X.2.2.1 1, 40, .inr (.inl j))
def zF74 (X : zX) (i : Nat → Int32) (j : Nat → Int64) (r : Nat → Option Nat) : va_E := .inl (X.2.2.1 1, 40, .inr (.inl j))
def zF75 (X : zX) (i : Nat → Int32) (j : Nat → Int64) (r : Nat → Option Nat) : va_E := .inl (X.2.2.1 1, 40, .inr (.inl j))
def zF76 (X : zX) (i : Nat → Int32) (j : Nat → Int64) (r : Nat → Option Nat) : va_E := .inl (X.2.2.1 1, 40, .inr (.inl j))
def zF77 (X : zX) (i : Nat → Int32) (j : Nat → Int64) (r : Nat → Option Nat) : va_E := .inl (X.2.2.1 1, 40, .inr (.inl j))
def zF78 (X : zX) (i : Nat → Int32) (j : Nat → Int64) (r : Nat → Option Nat) : va_E := .inl (X.2.2.1 1, 760, .inr (.inl j))
def zF79 (X : zX) (i : Nat → Int32) (j : Nat → Int64) (r : Nat → Option Nat) : va_E := .inr (8, zf8 X 79 48 i j)
def zF80 (X : zX) (i : Nat → Int32) (j : Nat → Int64) (r : Nat → Option Nat) : va_E := .inl (X.2.2.1 1, 40, .inr (.inl j))
def zF81 (X : zX) (i : Nat → Int32) (j : Nat → Int64) (r : Nat → Option Nat) : va_E := .inl (X.2.2.1 1, 40, .inr (.inl j))
def zF82 (X : zX) (i : Nat → Int32) (j : Nat → Int64) (r : Nat → Option Nat) : va_E := .inl (X.2.2.1 1, 40, .inr (.inl j))
def zF83 (X : zX) (i : Nat → Int32) (j : Nat → Int64) (r : Nat → Option Nat) : va_E := .inl (X.2.2.1 1, 40, .inr (.inl j))
def zF84 (X : zX) (i : Nat → Int32) (j : Nat → Int64) (r : Nat → Option Nat) : va_E := .inl (X.2.2.1 1, 40, .inr (.inl j))
def zF85 (X : zX) (i : Nat → Int32) (j : Nat → Int64) (r : Nat → Option Nat) : va_E := .inl (X.2.2.1 1, 760, .inr (.inl j))
def zF86 (X : zX) (i : Nat → Int32) (j : Nat → Int64) (r : Nat → Option Nat) : va_E := .inr (8, zf8 X 86 48 i j)
def zF87 (X : zX) (i : Nat → Int32) (j : Nat → Int64) (r : Nat → Option Nat) : va_E := .inl (X.2.2.1 1, 40, .inr (.inl j))
def zF88 (X : zX) (i : Nat → Int32) (j : Nat → Int64) (r : Nat → Option Nat) : va_E := .inl (X.2.2.1 1, 40, .inr (.inl j))
def zF89 (X : zX) (i : Nat → Int32) (j : Nat → Int64) (r : Nat → Option Nat) : va_E := .inl (X.2.2.1 1, 40, .inr (.inl j))
def zF90 (X : zX) (i : Nat → Int32) (j : Nat → Int64) (r : Nat → Option Nat) : va_E := .inl (X.2.2.1 1, 40, .inr (.inl j))
def zF91 (X : zX) (i : Nat → Int32) (j : Nat → Int64) (r : Nat → Option Nat) : va_E := .inl (X.2.2.1 1, 40, .inr (.inl j))
def zF92 (X : zX) (i : Nat → Int32) (j : Nat → Int64) (r : Nat → Option Nat) : va_E := .inl (X.2.2.1 1, 760, .inr (.inl j))
def zF93 (X : zX) (i : Nat → Int32) (j : Nat → Int64) (r : Nat → Option Nat) : va_E := .inr (8, zf8 X 93 48 i j)
def zF94 (X : zX) (i : Nat → Int32) (j : Nat → Int64) (r : Nat → Option Nat) : va_E := .inl (X.2.2.1 1, 40, .inr (.inl j))
def zF95 (X : zX) (i : Nat → Int32) (j : Nat → Int64) (r : Nat → Option Nat) : va_E := .inl (X.2.2.1 1, 40, .inr (.inl j))
def zF96 (X : zX) (i : Nat → Int32) (j : Nat → Int64) (r : Nat → Option Nat) : va_E := .inl (X.2.2.1 1, 40, .inr (.inl j))
def zF97 (X : zX) (i : Nat → Int32) (j : Nat → Int64) (r : Nat → Option Nat) : va_E := .inl (X.2.2.1 1, 40, .inr (.inl j))
def zF98 (X : zX) (i : Nat → Int32) (j : Nat → Int64) (r : Nat → Option Nat) : va_E := .inl (X.2.2.1 1, 40, .inr (.inl j))
def zF99 (X : zX) (i : Nat → Int32) (j : Nat → Int64) (r : Nat → Option Nat) : va_E := .inl (X.2.2.1 1, 760, .inr (.inl j))
def zF100 (X : zX) (i : Nat → Int32) (j : Nat → Int64) (r : Nat → Option Nat) : va_E := .inr (8, zf8 X 100 48 i j)
def zF101 (X : zX) (i : Nat → Int32) (j : Nat → Int64) (r : Nat → Option Nat) : va_E := .inl (X.2.2.1 1, 40, .inr (.inl j))
def zF102 (X : zX) (i : Nat → Int32) (j : Nat → Int64) (r : Nat → Option Nat) : va_E := .inl (X.2.2.1 1, 40, .inr (.inl j))
def zF103 (X : zX) (i : Nat → Int32) (j : Nat → Int64) (r : Nat → Option Nat) : va_E := .inl (X.2.2.1 1, 40, .inr (.inl j))
def zF104 (X : zX) (i : Nat → Int32) (j : Nat → Int64) (r : Nat → Option Nat) : va_E := .inl (X.2.2.1 1, 40, .inr (.inl j))
def zF105 (X : zX) (i : Nat → Int32) (j : Nat → Int64) (r : Nat → Option Nat) : va_E := .inl (X.2.2.1 1, 40, .inr (.inl j))
def zF106 (X : zX) (i : Nat → Int32) (j : Nat → Int64) (r : Nat → Option Nat) : va_E := .inl (X.2.2.1 1, 760, .inr (.inl j))
def zF107 (X : zX) (i : Nat → Int32) (j : Nat → Int64) (r : Nat → Option Nat) : va_E := .inr (8, zf8 X 107 48 i j)
def zF108 (X : zX) (i : Nat → Int32) (j : Nat → Int64) (r : Nat → Option Nat) : va_E := .inl (X.2.2.1 1, 40, .inr (.inl j))
def zF109 (X : zX) (i : Nat → Int32) (j : Nat → Int64) (r : Nat → Option Nat) : va_E := .inl (X.2.2.1 1, 40, .inr (.inl j))
def zF110 (X : zX) (i : Nat → Int32) (j : Nat → Int64) (r : Nat → Option Nat) : va_E := .inl (X.2.2.1 1, 40, .inr (.inl j))
def zF111 (X : zX) (i : Nat → Int32) (j : Nat → Int64) (r : Nat → Option Nat) : va_E := .inl (X.2.2.1 1, 40, .inr (.inl j))
def zF112 (X : zX) (i : Nat → Int32) (j : Nat → Int64) (r : Nat → Option Nat) : va_E := .inl (X.2.2.1 1, 40, .inr (.inl j))
def zF113 (X : zX) (i : Nat → Int32) (j : Nat → Int64) (r : Nat → Option Nat) : va_E := .inl (X.2.2.1 1, 760, .inr (.inl j))
def zF114 (X : zX) (i : Nat → Int32) (j : Nat → Int64) (r : Nat → Option Nat) : va_E := .inr (8, zf8 X 114 53 i j)
def zF115 (X : zX) (i : Nat → Int32) (j : Nat → Int64) (r : Nat → Option Nat) : va_E := .inl (X.2.2.1 1, 40, .inr (.inl j))
def zF116 (X : zX) (i : Nat → Int32) (j : Nat → Int64) (r : Nat → Option Nat) : va_E := .inl (X.2.2.1 1, 40, .inr (.inl j))
def zF117 (X : zX) (i : Nat → Int32) (j : Nat → Int64) (r : Nat → Option Nat) : va_E := .inl (X.2.2.1 1, 40, .inr (.inl j))
def zF118 (X : zX) (i : Nat → Int32) (j : Nat → Int64) (r : Nat → Option Nat) : va_E := .inl (X.2.2.1 1, 40, .inr (.inl j))
def zF119 (X : zX) (i : Nat → Int32) (j : Nat → Int64) (r : Nat → Option Nat) : va_E := .inl (X.2.2.1 1, 40, .inr (.inl j))
def zF120 (X : zX) (i : Nat → Int32) (j : Nat → Int64) (r : Nat → Option Nat) : va_E := .inl (X.2.2.1 1, 760, .inr (.inl j))
def zF121 (X : zX) (i : Nat → Int32) (j : Nat → Int64) (r : Nat → Option Nat) : va_E := .inr (8, zf8 X 121 53 i j)
def zF122 (X : zX) (i : Nat → Int32) (j : Nat → Int64) (r : Nat → Option Nat) : va_E := .inl (X.2.2.1 1, 40, .inr (.inl j))
def zF123 (X : zX) (i : Nat → Int32) (j : Nat → Int64) (r : Nat → Option Nat) : va_E := .inl (X.2.2.1 1, 40, .inr (.inl j))
def zF124 (X : zX) (i : Nat → Int32) (j : Nat → Int64) (r : Nat → Option Nat) : va_E := .inl (X.2.2.1 1, 40, .inr (.inl j))
def zF125 (X : zX) (i : Nat → Int32) (j : Nat → Int64) (r : Nat → Option Nat) : va_E := .inl (X.2.2.1 1, 40, .inr (.inl j))
def zF126 (X : zX) (i : Nat → Int32) (j : Nat → Int64) (r : Nat → Option Nat) : va_E := .inl (X.2.2.1 1, 40, .inr (.inl j))
def zF127 (X : zX) (i : Nat → Int32) (j : Nat → Int64) (r : Nat → Option Nat) : va_E := .inl (X.2.2.1 1, 760, .inr (.inl j))
def zF128 (X : zX) (i : Nat → Int32) (j : Nat → Int64) (r : Nat → Option Nat) : va_E := .inr (12, zf12 X i j)
def zF129 (X : zX) (i : Nat → Int32) (j : Nat → Int64) (r : Nat → Option Nat) : va_E := .inl (X.2.2.1 0, 12, .inl i)
def zF130 (X : zX) (i : Nat → Int32) (j : Nat → Int64) (r : Nat → Option Nat) : va_E := .inl (X.2.2.1 0, 13, .inl i)
def zF131 (X : zX) (i : Nat → Int32) (j : Nat → Int64) (r : Nat → Option Nat) : va_E := .inl (X.2.2.1 0, 13, .inl i)
def zF132 (X : zX) (i : Nat → Int32) (j : Nat → Int64) (r : Nat → Option Nat) : va_E := .inl (X.2.2.1 0, 13, .inl i)
def zF133 (X : zX) (i : Nat → Int32) (j : Nat → Int64) (r : Nat → Option Nat) : va_E := .inl (X.2.2.1 0, 601, .inl i)
def zF134 (X : zX) (i : Nat → Int32) (j : Nat → Int64) (r : Nat → Option Nat) : va_E := .inl (X.2.2.1 0, 601, .inl i)
def zF135 (X : zX) (i : Nat → Int32) (j : Nat → Int64) (r : Nat → Option Nat) : va_E := .inl (X.2.2.1 0, 20, .inl i)
def zF136 (X : zX) (i : Nat → Int32) (j : Nat → Int64) (r : Nat → Option Nat) : va_E := .inl (X.2.2.1 0, 240, .inl i)
def zF137 (X : zX) (i : Nat → Int32) (j : Nat → Int64) (r : Nat → Option Nat) : va_E := .inl (X.2.2.1 0, 240, .inl i)
def zF138 (X : zX) (i : Nat → Int32) (j : Nat → Int64) (r : Nat → Option Nat) : va_E := .inl (X.2.2.1 0, 6, .inl i)
def zF139 (X : zX) (i : Nat → Int32) (j : Nat → Int64) (r : Nat → Option Nat) : va_E := .inl (X.2.2.1 0, 169, .inl i)
def zF140 (X : zX) (i : Nat → Int32) (j : Nat → Int64) (r : Nat → Option Nat) : va_E := .inl (X.2.2.1 0, 11264, .inl i)
def zF141 (X : zX) (i : Nat → Int32) (j : Nat → Int64) (r : Nat → Option Nat) : va_E := .inl (X.2.2.1 0, 10, .inl i)
def zF142 (X : zX) (i : Nat → Int32) (j : Nat → Int64) (r : Nat → Option Nat) : va_E := .inl (X.2.2.1 0, 100, .inl i)
def zF143 (X : zX) (i : Nat → Int32) (j : Nat → Int64) (r : Nat → Option Nat) : va_E := .inl (X.2.2.1 0, 600, .inl i)
def zF144 (X : zX) (i : Nat → Int32) (j : Nat → Int64) (r : Nat → Option Nat) : va_E := .inl (X.2.2.1 2, 4, .inl i)
def zF145 (X : zX) (i : Nat → Int32) (j : Nat → Int64) (r : Nat → Option Nat) : va_E := .inl (X.2.2.1 2, 8, .inl i)
def zF146 (X : zX) (i : Nat → Int32) (j : Nat → Int64) (r : Nat → Option Nat) : va_E := .inl (X.2.2.1 2, 5, .inl i)
def zF147 (X : zX) (i : Nat → Int32) (j : Nat → Int64) (r : Nat → Option Nat) : va_E := .inl (X.2.2.1 2, 6, .inl i)
def zF148 (X : zX) (i : Nat → Int32) (j : Nat → Int64) (r : Nat → Option Nat) : va_E := .inl (X.2.2.1 2, 5, .inl i)
def zF149 (X : zX) (i : Nat → Int32) (j : Nat → Int64) (r : Nat → Option Nat) : va_E := .inl (X.2.2.1 2, 2, .inl i)
def zF150 (X : zX) (i : Nat → Int32) (j : Nat → Int64) (r : Nat → Option Nat) : va_E := .inl (X.2.2.1 2, 3, .inl i)
def zF151 (X : zX) (i : Nat → Int32) (j : Nat → Int64) (r : Nat → Option Nat) : va_E := .inl (X.2.2.1 2, 2, .inl i)
def zF152 (X : zX) (i : Nat → Int32) (j : Nat → Int64) (r : Nat → Option Nat) : va_E := .inl (X.2.2.1 2, 3, .inl i)
def zF153 (X : zX) (i : Nat → Int32) (j : Nat → Int64) (r : Nat → Option Nat) : va_E := .inl (X.2.2.1 2, 3, .inl i)
def zF154 (X : zX) (i : Nat → Int32) (j : Nat → Int64) (r : Nat → Option Nat) : va_E := .inl (X.2.2.1 2, 3, .inl i)
def zF155 (X : zX) (i : Nat → Int32) (j : Nat → Int64) (r : Nat → Option Nat) : va_E := .inl (X.2.2.1 2, 5, .inl i)
def zF156 (X : zX) (i : Nat → Int32) (j : Nat → Int64) (r : Nat → Option Nat) : va_E := .inl (X.2.2.1 2, 5, .inl i)
def zF157 (X : zX) (i : Nat → Int32) (j : Nat → Int64) (r : Nat → Option Nat) : va_E := .inl (X.2.2.1 2, 9, .inl i)
def zF158 (X : zX) (i : Nat → Int32) (j : Nat → Int64) (r : Nat → Option Nat) : va_E := .inl (X.2.2.1 2, 6, .inl i)
def zF159 (X : zX) (i : Nat → Int32) (j : Nat → Int64) (r : Nat → Option Nat) : va_E := .inl (X.2.2.1 2, 4, .inl i)
def zF160 (X : zX) (i : Nat → Int32) (j : Nat → Int64) (r : Nat → Option Nat) : va_E := .inl (X.2.2.1 2, 4, .inl i)
def zF161 (X : zX) (i : Nat → Int32) (j : Nat → Int64) (r : Nat → Option Nat) : va_E := .inl (X.2.2.1 2, 4, .inl i)
def zF162 (X : zX) (i : Nat → Int32) (j : Nat → Int64) (r : Nat → Option Nat) : va_E := .inl (X.2.2.1 2, 4, .inl i)
def zF163 (X : zX) (i : Nat → Int32) (j : Nat → Int64) (r : Nat → Option Nat) : va_E := .inl (X.2.2.1 2, 3, .inl i)
def zF164 (X : zX) (i : Nat → Int32) (j : Nat → Int64) (r : Nat → Option Nat) : va_E := .inl (X.2.2.1 2, 3, .inl i)
def zF165 (X : zX) (i : Nat → Int32) (j : Nat → Int64) (r : Nat → Option Nat) : va_E := .inl (X.2.2.1 0, 201, .inl i)
def zF166 (X : zX) (i : Nat → Int32) (j : Nat → Int64) (r : Nat → Option Nat) : va_E := .inl (X.2.2.1 0, 4824, .inl i)
def zF167 (X : zX) (i : Nat → Int32) (j : Nat → Int64) (r : Nat → Option Nat) : va_E := .inl (X.2.2.1 3, 4824, .inl i)
def zF168 (X : zX) (i : Nat → Int32) (j : Nat → Int64) (r : Nat → Option Nat) : va_E := .inl (X.2.2.1 0, 4824, .inl i)
def zF169 (X : zX) (i : Nat → Int32) (j : Nat → Int64) (r : Nat → Option Nat) : va_E := .inl (X.2.2.1 0, 4824, .inl i)
def zF170 (X : zX) (i : Nat → Int32) (j : Nat → Int64) (r : Nat → Option Nat) : va_E := .inl (X.2.2.1 0, 4824, .inl i)
def zF171 (X : zX) (i : Nat → Int32) (j : Nat → Int64) (r : Nat → Option Nat) : va_E := .inl (X.2.2.1 0, 4824, .inl i)
def zF172 (X : zX) (i : Nat → Int32) (j : Nat → Int64) (r : Nat → Option Nat) : va_E := .inl (X.2.2.1 0, 4824, .inl i)
def zF173 (X : zX) (i : Nat → Int32) (j : Nat → Int64) (r : Nat → Option Nat) : va_E := .inl (X.2.2.1 0, 128640, .inl i)
def zF174 (X : zX) (i : Nat → Int32) (j : Nat → Int64) (r : Nat → Option Nat) : va_E := .inl (X.2.2.1 0, 700, .inl i)
def zF175 (X : zX) (i : Nat → Int32) (j : Nat → Int64) (r : Nat → Option Nat) : va_E := .inl (X.2.2.1 1, 700, .inr (.inl j))
def zF176 (X : zX) (i : Nat → Int32) (j : Nat → Int64) (r : Nat → Option Nat) : va_E := .inl (X.2.2.1 0, 201, .inl i)
def zF177 (X : zX) (i : Nat → Int32) (j : Nat → Int64) (r : Nat → Option Nat) : va_E := .inl (X.2.2.1 0, 201, .inl i)
def zF178 (X : zX) (i : Nat → Int32) (j : Nat → Int64) (r : Nat → Option Nat) : va_E := .inl (X.2.2.1 0, 201, .inl i)
def zF179 (X : zX) (i : Nat → Int32) (j : Nat → Int64) (r : Nat → Option Nat) : va_E := .inl (X.2.2.1 0, 201, .inl i)
def zF180 (X : zX) (i : Nat → Int32) (j : Nat → Int64) (r : Nat → Option Nat) : va_E := .inl (X.2.2.1 0, 201, .inl i)
def zF181 (X : zX) (i : Nat → Int32) (j : Nat → Int64) (r : Nat → Option Nat) : va_E := .inl (X.2.2.1 1, 60, .inr (.inl j))
def zFb0 (k : Nat) (X : zX) (i : Nat → Int32) (j : Nat → Int64) (r : Nat → Option Nat) : va_E := match k with
  | 0 => zF0 X i j r
  | 1 => zF1 X i j r
  | 2 => zF2 X i j r
  | 3 => zF3 X i j r
  | 4 => zF4 X i j r
  | 5 => zF5 X i j r
  | 6 => zF6 X i j r
  | 7 => zF7 X i j r
  | 8 => zF8 X i j r
  | 9 => zF9 X i j r
  | 10 => zF10 X i j r
  | 11 => zF11 X i j r
  | 12 => zF12 X i j r
  | _ => zF13 X i j r
def zFb1 (k : Nat) (X : zX) (i : Nat → Int32) (j : Nat → Int64) (r : Nat → Option Nat) : va_E := match k with
  | 0 => zF14 X i j r
  | 1 => zF15 X i j r
  | 2 => zF16 X i j r
  | 3 => zF17 X i j r
  | 4 => zF18 X i j r
  | 5 => zF19 X i j r
  | 6 => zF20 X i j r
  | 7 => zF21 X i j r
  | 8 => zF22 X i j r
  | 9 => zF23 X i j r
  | 10 => zF24 X i j r
  | 11 => zF25 X i j r
  | 12 => zF26 X i j r
  | _ => zF27 X i j r
def zFb2 (k : Nat) (X : zX) (i : Nat → Int32) (j : Nat → Int64) (r : Nat → Option Nat) : va_E := match k with
  | 0 => zF28 X i j r
  | 1 => zF29 X i j r
  | 2 => zF30 X i j r
  | 3 => zF31 X i j r
  | 4 => zF32 X i j r
  | 5 => zF33 X i j r
  | 6 => zF34 X i j r
  | 7 => zF35 X i j r
  | 8 => zF36 X i j r
  | 9 => zF37 X i j r
  | 10 => zF38 X i j r
  | 11 => zF39 X i j r
  | 12 => zF40 X i j r
  | _ => zF41 X i j r
def zFb3 (k : Nat) (X : zX) (i : Nat → Int32) (j : Nat → Int64) (r : Nat → Option Nat) : va_E := match k with
  | 0 => zF42 X i j r
  | 1 => zF43 X i j r
  | 2 => zF44 X i j r
  | 3 => zF45 X i j r
  | 4 => zF46 X i j r
  | 5 => zF47 X i j r
  | 6 => zF48 X i j r
  | 7 => zF49 X i j r
  | 8 => zF50 X i j r
  | 9 => zF51 X i j r
  | 10 => zF52 X i j r
  | 11 => zF53 X i j r
  | 12 => zF54 X i j r
  | _ => zF55 X i j r
def zFb4 (k : Nat) (X : zX) (i : Nat → Int32) (j : Nat → Int64) (r : Nat → Option Nat) : va_E := match k with
  | 0 => zF56 X i j r
  | 1 => zF57 X i j r
  | 2 => zF58 X i j r
  | 3 => zF59 X i j r
  | 4 => zF60 X i j r
  | 5 => zF61 X i j r
  | 6 => zF62 X i j r
  | 7 => zF63 X i j r
  | 8 => zF64 X i j r
  | 9 => zF65 X i j r
  | 10 => zF66 X i j r
  | 11 => zF67 X i j r
  | 12 => zF68 X i j r
  | _ => zF69 X i j r
def zFb5 (k : Nat) (X : zX) (i : Nat → Int32) (j : Nat → Int64) (r : Nat → Option Nat) : va_E := match k with
  | 0 => zF70 X i j r
  | 1 => zF71 X i j r
  | 2 => zF72 X i j r
  | 3 => zF73 X i j r
  | 4 => zF74 X i j r
  | 5 => zF75 X i j r
  | 6 => zF76 X i j r
  | 7 => zF77 X i j r
  | 8 => zF78 X i j r
  | 9 => zF79 X i j r
  | 10 => zF80 X i j r
  | 11 => zF81 X i j r
  | 12 => zF82 X i j r
  | _ => zF83 X i j r
def zFb6 (k : Nat) (X : zX) (i : Nat → Int32) (j : Nat → Int64) (r : Nat → Option Nat) : va_E := match k with
  | 0 => zF84 X i j r
  | 1 => zF85 X i j r
  | 2 => zF86 X i j r
  | 3 => zF87 X i j r
  | 4 => zF88 X i j r
  | 5 => zF89 X i j r
  | 6 => zF90 X i j r
  | 7 => zF91 X i j r
  | 8 => zF92 X i j r
  | 9 => zF93 X i j r
  | 10 => zF94 X i j r
  | 11 => zF95 X i j r
  | 12 => zF96 X i j r
  | _ => zF97 X i j r
def zFb7 (k : Nat) (X : zX) (i : Nat → Int32) (j : Nat → Int64) (r : Nat → Option Nat) : va_E := match k with
  | 0 => zF98 X i j r
  | 1 => zF99 X i j r
  | 2 => zF100 X i j r
  | 3 => zF101 X i j r
  | 4 => zF102 X i j r
  | 5 => zF103 X i j r
  | 6 => zF104 X i j r
  | 7 => zF105 X i j r
  | 8 => zF106 X i j r
  | 9 => zF107 X i j r
  | 10 => zF108 X i j r
  | 11 => zF109 X i j r
  | 12 => zF110 X i j r
  | _ => zF111 X i j r
def zFb8 (k : Nat) (X : zX) (i : Nat → Int32) (j : Nat → Int64) (r : Nat → Option Nat) : va_E := match k with
  | 0 => zF112 X i j r
  | 1 => zF113 X i j r
  | 2 => zF114 X i j r
  | 3 => zF115 X i j r
  | 4 => zF116 X i j r
  | 5 => zF117 X i j r
  | 6 => zF118 X i j r
  | 7 => zF119 X i j r
  | 8 => zF120 X i j r
  | 9 => zF121 X i j r
  | 10 => zF122 X i j r
  | 11 => zF123 X i j r
  | 12 => zF124 X i j r
  | _ => zF125 X i j r
def zFb9 (k : Nat) (X : zX) (i : Nat → Int32) (j : Nat → Int64) (r : Nat → Option Nat) : va_E := match k with
  | 0 => zF126 X i j r
  | 1 => zF127 X i j r
  | 2 => zF128 X i j r
  | 3 => zF129 X i j r
  | 4 => zF130 X i j r
  | 5 => zF131 X i j r
  | 6 => zF132 X i j r
  | 7 => zF133 X i j r
  | 8 => zF134 X i j r
  | 9 => zF135 X i j r
  | 10 => zF136 X i j r
  | 11 => zF137 X i j r
  | 12 => zF138 X i j r
  | _ => zF139 X i j r
def zFb10 (k : Nat) (X : zX) (i : Nat → Int32) (j : Nat → Int64) (r : Nat → Option Nat) : va_E := match k with
  | 0 => zF140 X i j r
  | 1 => zF141 X i j r
  | 2 => zF142 X i j r
  | 3 => zF143 X i j r
  | 4 => zF144 X i j r
  | 5 => zF145 X i j r
  | 6 => zF146 X i j r
  | 7 => zF147 X i j r
  | 8 => zF148 X i j r
  | 9 => zF149 X i j r
  | 10 => zF150 X i j r
  | 11 => zF151 X i j r
  | 12 => zF152 X i j r
  | _ => zF153 X i j r
def zFb11 (k : Nat) (X : zX) (i : Nat → Int32) (j : Nat → Int64) (r : Nat → Option Nat) : va_E := match k with
  | 0 => zF154 X i j r
  | 1 => zF155 X i j r
  | 2 => zF156 X i j r
  | 3 => zF157 X i j r
  | 4 => zF158 X i j r
  | 5 => zF159 X i j r
  | 6 => zF160 X i j r
  | 7 => zF161 X i j r
  | 8 => zF162 X i j r
  | 9 => zF163 X i j r
  | 10 => zF164 X i j r
  | 11 => zF165 X i j r
  | 12 => zF166 X i j r
  | _ => zF167 X i j r
def zFb12 (k : Nat) (X : zX) (i : Nat → Int32) (j : Nat → Int64) (r : Nat → Option Nat) : va_E := match k with
  | 0 => zF168 X i j r
  | 1 => zF169 X i j r
  | 2 => zF170 X i j r
  | 3 => zF171 X i j r
  | 4 => zF172 X i j r
  | 5 => zF173 X i j r
  | 6 => zF174 X i j r
  | 7 => zF175 X i j r
  | 8 => zF176 X i j r
  | 9 => zF177 X i j r
  | 10 => zF178 X i j r
  | 11 => zF179 X i j r
  | 12 => zF180 X i j r
  | _ => zF181 X i j r
def zF (X : zX) (k : Nat) (i : Nat → Int32) (j : Nat → Int64) (r : Nat → Option Nat) : va_E := match k / 14 with
  | 0 => zFb0 (k % 14) X i j r
  | 1 => zFb1 (k % 14) X i j r
  | 2 => zFb2 (k % 14) X i j r
  | 3 => zFb3 (k % 14) X i j r
  | 4 => zFb4 (k % 14) X i j r
  | 5 => zFb5 (k % 14) X i j r
  | 6 => zFb6 (k % 14) X i j r
  | 7 => zFb7 (k % 14) X i j r
  | 8 => zFb8 (k % 14) X i j r
  | 9 => zFb9 (k % 14) X i j r
  | 10 => zFb10 (k % 14) X i j r
  | 11 => zFb11 (k % 14) X i j r
  | _ => zFb12 (k % 14) X i j r
theorem zF_0 (X : zX) (i : Nat → Int32) (j : Nat → Int64) (r : Nat → Option Nat) : zF X 0 i j r = .inr (11, zf11 X i j) := rfl
theorem zF_1 (X : zX) (i : Nat → Int32) (j : Nat → Int64) (r : Nat → Option Nat) : zF X 1 i j r = .inr (3, zf3 X i j) := rfl
theorem zF_2 (X : zX) (i : Nat → Int32) (j : Nat → Int64) (r : Nat → Option Nat) : zF X 2 i j r = .inl (X.2.2.1 0, 13, .inl i) := rfl
theorem zF_3 (X : zX) (i : Nat → Int32) (j : Nat → Int64) (r : Nat → Option Nat) : zF X 3 i j r = .inl (X.2.2.1 0, 13, .inl i) := rfl
theorem zF_4 (X : zX) (i : Nat → Int32) (j : Nat → Int64) (r : Nat → Option Nat) : zF X 4 i j r = .inl (X.2.2.1 0, 13, .inl i) := rfl
theorem zF_5 (X : zX) (i : Nat → Int32) (j : Nat → Int64) (r : Nat → Option Nat) : zF X 5 i j r = .inr (2, zf2 X i j) := rfl
theorem zF_6 (X : zX) (i : Nat → Int32) (j : Nat → Int64) (r : Nat → Option Nat) : zF X 6 i j r = .inl (X.2.2.1 0, 240, .inl i) := rfl
theorem zF_7 (X : zX) (i : Nat → Int32) (j : Nat → Int64) (r : Nat → Option Nat) : zF X 7 i j r = .inl (X.2.2.1 0, 240, .inl i) := rfl
theorem zF_8 (X : zX) (i : Nat → Int32) (j : Nat → Int64) (r : Nat → Option Nat) : zF X 8 i j r = .inl (X.2.2.1 0, 20, .inl i) := rfl
theorem zF_9 (X : zX) (i : Nat → Int32) (j : Nat → Int64) (r : Nat → Option Nat) : zF X 9 i j r = .inl (X.2.2.1 0, 100, .inl i) := rfl
theorem zF_10 (X : zX) (i : Nat → Int32) (j : Nat → Int64) (r : Nat → Option Nat) : zF X 10 i j r = .inl (X.2.2.1 0, 13, .inl i) := rfl
theorem zF_11 (X : zX) (i : Nat → Int32) (j : Nat → Int64) (r : Nat → Option Nat) : zF X 11 i j r = .inl (X.2.2.1 0, 13, .inl i) := rfl
theorem zF_12 (X : zX) (i : Nat → Int32) (j : Nat → Int64) (r : Nat → Option Nat) : zF X 12 i j r = .inl (X.2.2.1 0, 10, .inl i) := rfl
theorem zF_13 (X : zX) (i : Nat → Int32) (j : Nat → Int64) (r : Nat → Option Nat) : zF X 13 i j r = .inr (6, zf6 X i j) := rfl
theorem zF_14 (X : zX) (i : Nat → Int32) (j : Nat → Int64) (r : Nat → Option Nat) : zF X 14 i j r = .inl (X.2.2.1 7, 11, .inr (.inr (.inr (.inr (fun q => if q < 11 then some (X.1 + (15 + q)) else none))))) := rfl
theorem zF_15 (X : zX) (i : Nat → Int32) (j : Nat → Int64) (r : Nat → Option Nat) : zF X 15 i j r = .inl (X.2.2.1 1, 21, .inr (.inl j)) := rfl
theorem zF_16 (X : zX) (i : Nat → Int32) (j : Nat → Int64) (r : Nat → Option Nat) : zF X 16 i j r = .inl (X.2.2.1 1, 21, .inr (.inl j)) := rfl
theorem zF_17 (X : zX) (i : Nat → Int32) (j : Nat → Int64) (r : Nat → Option Nat) : zF X 17 i j r = .inl (X.2.2.1 1, 21, .inr (.inl j)) := rfl
theorem zF_18 (X : zX) (i : Nat → Int32) (j : Nat → Int64) (r : Nat → Option Nat) : zF X 18 i j r = .inl (X.2.2.1 1, 21, .inr (.inl j)) := rfl
theorem zF_19 (X : zX) (i : Nat → Int32) (j : Nat → Int64) (r : Nat → Option Nat) : zF X 19 i j r = .inl (X.2.2.1 1, 21, .inr (.inl j)) := rfl
theorem zF_20 (X : zX) (i : Nat → Int32) (j : Nat → Int64) (r : Nat → Option Nat) : zF X 20 i j r = .inl (X.2.2.1 1, 21, .inr (.inl j)) := rfl
theorem zF_21 (X : zX) (i : Nat → Int32) (j : Nat → Int64) (r : Nat → Option Nat) : zF X 21 i j r = .inl (X.2.2.1 1, 21, .inr (.inl j)) := rfl
theorem zF_22 (X : zX) (i : Nat → Int32) (j : Nat → Int64) (r : Nat → Option Nat) : zF X 22 i j r = .inl (X.2.2.1 1, 21, .inr (.inl j)) := rfl
theorem zF_23 (X : zX) (i : Nat → Int32) (j : Nat → Int64) (r : Nat → Option Nat) : zF X 23 i j r = .inl (X.2.2.1 1, 21, .inr (.inl j)) := rfl
theorem zF_24 (X : zX) (i : Nat → Int32) (j : Nat → Int64) (r : Nat → Option Nat) : zF X 24 i j r = .inl (X.2.2.1 1, 21, .inr (.inl j)) := rfl
theorem zF_25 (X : zX) (i : Nat → Int32) (j : Nat → Int64) (r : Nat → Option Nat) : zF X 25 i j r = .inl (X.2.2.1 1, 21, .inr (.inl j)) := rfl
theorem zF_26 (X : zX) (i : Nat → Int32) (j : Nat → Int64) (r : Nat → Option Nat) : zF X 26 i j r = .inl (X.2.2.1 1, 11, .inr (.inl j)) := rfl
theorem zF_27 (X : zX) (i : Nat → Int32) (j : Nat → Int64) (r : Nat → Option Nat) : zF X 27 i j r = .inl (X.2.2.1 1, 21, .inr (.inl j)) := rfl
theorem zF_28 (X : zX) (i : Nat → Int32) (j : Nat → Int64) (r : Nat → Option Nat) : zF X 28 i j r = .inl (X.2.2.1 1, 21, .inr (.inl j)) := rfl
theorem zF_29 (X : zX) (i : Nat → Int32) (j : Nat → Int64) (r : Nat → Option Nat) : zF X 29 i j r = .inl (X.2.2.1 0, 21, .inl i) := rfl
theorem zF_30 (X : zX) (i : Nat → Int32) (j : Nat → Int64) (r : Nat → Option Nat) : zF X 30 i j r = .inl (X.2.2.1 0, 21, .inl i) := rfl
theorem zF_31 (X : zX) (i : Nat → Int32) (j : Nat → Int64) (r : Nat → Option Nat) : zF X 31 i j r = .inl (X.2.2.1 3, 21, .inl i) := rfl
theorem zF_32 (X : zX) (i : Nat → Int32) (j : Nat → Int64) (r : Nat → Option Nat) : zF X 32 i j r = .inl (X.2.2.1 0, 10, .inl i) := rfl
theorem zF_33 (X : zX) (i : Nat → Int32) (j : Nat → Int64) (r : Nat → Option Nat) : zF X 33 i j r = .inr (7, zf7 X i j) := rfl
theorem zF_34 (X : zX) (i : Nat → Int32) (j : Nat → Int64) (r : Nat → Option Nat) : zF X 34 i j r = .inl (X.2.2.1 2, 600, .inl i) := rfl
theorem zF_35 (X : zX) (i : Nat → Int32) (j : Nat → Int64) (r : Nat → Option Nat) : zF X 35 i j r = .inl (X.2.2.1 0, 600, .inl i) := rfl
theorem zF_36 (X : zX) (i : Nat → Int32) (j : Nat → Int64) (r : Nat → Option Nat) : zF X 36 i j r = .inl (X.2.2.1 5, 24, .inr (.inr (.inr (.inr (fun q => zq X (r q)))))) := rfl
theorem zF_37 (X : zX) (i : Nat → Int32) (j : Nat → Int64) (r : Nat → Option Nat) : zF X 37 i j r = .inr (0, zf0 X i j) := rfl
theorem zF_38 (X : zX) (i : Nat → Int32) (j : Nat → Int64) (r : Nat → Option Nat) : zF X 38 i j r = .inl (X.2.2.1 0, 201, .inl i) := rfl
theorem zF_39 (X : zX) (i : Nat → Int32) (j : Nat → Int64) (r : Nat → Option Nat) : zF X 39 i j r = .inl (X.2.2.1 0, 201, .inl i) := rfl
theorem zF_40 (X : zX) (i : Nat → Int32) (j : Nat → Int64) (r : Nat → Option Nat) : zF X 40 i j r = .inl (X.2.2.1 0, 201, .inl i) := rfl
theorem zF_41 (X : zX) (i : Nat → Int32) (j : Nat → Int64) (r : Nat → Option Nat) : zF X 41 i j r = .inl (X.2.2.1 0, 201, .inl i) := rfl
theorem zF_42 (X : zX) (i : Nat → Int32) (j : Nat → Int64) (r : Nat → Option Nat) : zF X 42 i j r = .inl (X.2.2.1 0, 201, .inl i) := rfl
theorem zF_43 (X : zX) (i : Nat → Int32) (j : Nat → Int64) (r : Nat → Option Nat) : zF X 43 i j r = .inl (X.2.2.1 6, 201, .inr (.inr (.inr (.inr (fun q => zq X (r q)))))) := rfl
theorem zF_44 (X : zX) (i : Nat → Int32) (j : Nat → Int64) (r : Nat → Option Nat) : zF X 44 i j r = .inr (1, zf1 X i j) := rfl
theorem zF_45 (X : zX) (i : Nat → Int32) (j : Nat → Int64) (r : Nat → Option Nat) : zF X 45 i j r = .inl (X.2.2.1 4, 8, .inr (.inr (.inr (.inr (fun q => if q < 8 then some (X.1 + (58 + 7 * q)) else none))))) := rfl
theorem zF_46 (X : zX) (i : Nat → Int32) (j : Nat → Int64) (r : Nat → Option Nat) : zF X 46 i j r = .inr (4, zf4 X i j) := rfl
theorem zF_47 (X : zX) (i : Nat → Int32) (j : Nat → Int64) (r : Nat → Option Nat) : zF X 47 i j r = .inl (X.2.2.1 1, 64, .inr (.inl j)) := rfl
theorem zF_48 (X : zX) (i : Nat → Int32) (j : Nat → Int64) (r : Nat → Option Nat) : zF X 48 i j r = .inr (5, zf5 X 48 i j) := rfl
theorem zF_49 (X : zX) (i : Nat → Int32) (j : Nat → Int64) (r : Nat → Option Nat) : zF X 49 i j r = .inl (X.2.2.1 0, 40, .inl i) := rfl
theorem zF_50 (X : zX) (i : Nat → Int32) (j : Nat → Int64) (r : Nat → Option Nat) : zF X 50 i j r = .inl (X.2.2.1 0, 40, .inl i) := rfl
theorem zF_51 (X : zX) (i : Nat → Int32) (j : Nat → Int64) (r : Nat → Option Nat) : zF X 51 i j r = .inl (X.2.2.1 0, 40, .inl i) := rfl
theorem zF_52 (X : zX) (i : Nat → Int32) (j : Nat → Int64) (r : Nat → Option Nat) : zF X 52 i j r = .inl (X.2.2.1 0, 201, .inl i) := rfl
theorem zF_53 (X : zX) (i : Nat → Int32) (j : Nat → Int64) (r : Nat → Option Nat) : zF X 53 i j r = .inr (5, zf5 X 53 i j) := rfl
theorem zF_54 (X : zX) (i : Nat → Int32) (j : Nat → Int64) (r : Nat → Option Nat) : zF X 54 i j r = .inl (X.2.2.1 0, 40, .inl i) := rfl
theorem zF_55 (X : zX) (i : Nat → Int32) (j : Nat → Int64) (r : Nat → Option Nat) : zF X 55 i j r = .inl (X.2.2.1 0, 40, .inl i) := rfl
theorem zF_56 (X : zX) (i : Nat → Int32) (j : Nat → Int64) (r : Nat → Option Nat) : zF X 56 i j r = .inl (X.2.2.1 0, 40, .inl i) := rfl
theorem zF_57 (X : zX) (i : Nat → Int32) (j : Nat → Int64) (r : Nat → Option Nat) : zF X 57 i j r = .inl (X.2.2.1 0, 201, .inl i) := rfl
theorem zF_58 (X : zX) (i : Nat → Int32) (j : Nat → Int64) (r : Nat → Option Nat) : zF X 58 i j r = .inr (8, zf8 X 58 48 i j) := rfl
theorem zF_59 (X : zX) (i : Nat → Int32) (j : Nat → Int64) (r : Nat → Option Nat) : zF X 59 i j r = .inl (X.2.2.1 1, 40, .inr (.inl j)) := rfl
theorem zF_60 (X : zX) (i : Nat → Int32) (j : Nat → Int64) (r : Nat → Option Nat) : zF X 60 i j r = .inl (X.2.2.1 1, 40, .inr (.inl j)) := rfl
theorem zF_61 (X : zX) (i : Nat → Int32) (j : Nat → Int64) (r : Nat → Option Nat) : zF X 61 i j r = .inl (X.2.2.1 1, 40, .inr (.inl j)) := rfl
theorem zF_62 (X : zX) (i : Nat → Int32) (j : Nat → Int64) (r : Nat → Option Nat) : zF X 62 i j r = .inl (X.2.2.1 1, 40, .inr (.inl j)) := rfl
theorem zF_63 (X : zX) (i : Nat → Int32) (j : Nat → Int64) (r : Nat → Option Nat) : zF X 63 i j r = .inl (X.2.2.1 1, 40, .inr (.inl j)) := rfl
theorem zF_64 (X : zX) (i : Nat → Int32) (j : Nat → Int64) (r : Nat → Option Nat) : zF X 64 i j r = .inl (X.2.2.1 1, 760, .inr (.inl j)) := rfl
theorem zF_65 (X : zX) (i : Nat → Int32) (j : Nat → Int64) (r : Nat → Option Nat) : zF X 65 i j r = .inr (8, zf8 X 65 48 i j) := rfl
theorem zF_66 (X : zX) (i : Nat → Int32) (j : Nat → Int64) (r : Nat → Option Nat) : zF X 66 i j r = .inl (X.2.2.1 1, 40, .inr (.inl j)) := rfl
theorem zF_67 (X : zX) (i : Nat → Int32) (j : Nat → Int64) (r : Nat → Option Nat) : zF X 67 i j r = .inl (X.2.2.1 1, 40, .inr (.inl j)) := rfl
theorem zF_68 (X : zX) (i : Nat → Int32) (j : Nat → Int64) (r : Nat → Option Nat) : zF X 68 i j r = .inl (X.2.2.1 1, 40, .inr (.inl j)) := rfl
theorem zF_69 (X : zX) (i : Nat → Int32) (j : Nat → Int64) (r : Nat → Option Nat) : zF X 69 i j r = .inl (X.2.2.1 1, 40, .inr (.inl j)) := rfl
theorem zF_70 (X : zX) (i : Nat → Int32) (j : Nat → Int64) (r : Nat → Option Nat) : zF X 70 i j r = .inl (X.2.2.1 1, 40, .inr (.inl j)) := rfl
theorem zF_71 (X : zX) (i : Nat → Int32) (j : Nat → Int64) (r : Nat → Option Nat) : zF X 71 i j r = .inl (X.2.2.1 1, 760, .inr (.inl j)) := rfl
theorem zF_72 (X : zX) (i : Nat → Int32) (j : Nat → Int64) (r : Nat → Option Nat) : zF X 72 i j r = .inr (8, zf8 X 72 48 i j) := rfl
theorem zF_73 (X : zX) (i : Nat → Int32) (j : Nat → Int64) (r : Nat → Option Nat) : zF X 73 i j r = .inl (X.2.2.1 1, 40, .inr (.inl j)) := rfl
theorem zF_74 (X : zX) (i : Nat → Int32) (j : Nat → Int64) (r : Nat → Option Nat) : zF X 74 i j r = .inl (X.2.2.1 1, 40, .inr (.inl j)) := rfl
theorem zF_75 (X : zX) (i : Nat → Int32) (j : Nat → Int64) (r : Nat → Option Nat) : zF X 75 i j r = .inl (X.2.2.1 1, 40, .inr (.inl j)) := rfl
theorem zF_76 (X : zX) (i : Nat → Int32) (j : Nat → Int64) (r : Nat → Option Nat) : zF X 76 i j r = .inl (X.2.2.1 1, 40, .inr (.inl j)) := rfl
theorem zF_77 (X : zX) (i : Nat → Int32) (j : Nat → Int64) (r : Nat → Option Nat) : zF X 77 i j r = .inl (X.2.2.1 1, 40, .inr (.inl j)) := rfl
theorem zF_78 (X : zX) (i : Nat → Int32) (j : Nat → Int64) (r : Nat → Option Nat) : zF X 78 i j r = .inl (X.2.2.1 1, 760, .inr (.inl j)) := rfl
theorem zF_79 (X : zX) (i : Nat → Int32) (j : Nat → Int64) (r : Nat → Option Nat) : zF X 79 i j r = .inr (8, zf8 X 79 48 i j) := rfl
theorem zF_80 (X : zX) (i : Nat → Int32) (j : Nat → Int64) (r : Nat → Option Nat) : zF X 80 i j r = .inl (X.2.2.1 1, 40, .inr (.inl j)) := rfl
theorem zF_81 (X : zX) (i : Nat → Int32) (j : Nat → Int64) (r : Nat → Option Nat) : zF X 81 i j r = .inl (X.2.2.1 1, 40, .inr (.inl j)) := rfl
theorem zF_82 (X : zX) (i : Nat → Int32) (j : Nat → Int64) (r : Nat → Option Nat) : zF X 82 i j r = .inl (X.2.2.1 1, 40, .inr (.inl j)) := rfl
theorem zF_83 (X : zX) (i : Nat → Int32) (j : Nat → Int64) (r : Nat → Option Nat) : zF X 83 i j r = .inl (X.2.2.1 1, 40, .inr (.inl j)) := rfl
theorem zF_84 (X : zX) (i : Nat → Int32) (j : Nat → Int64) (r : Nat → Option Nat) : zF X 84 i j r = .inl (X.2.2.1 1, 40, .inr (.inl j)) := rfl
theorem zF_85 (X : zX) (i : Nat → Int32) (j : Nat → Int64) (r : Nat → Option Nat) : zF X 85 i j r = .inl (X.2.2.1 1, 760, .inr (.inl j)) := rfl
theorem zF_86 (X : zX) (i : Nat → Int32) (j : Nat → Int64) (r : Nat → Option Nat) : zF X 86 i j r = .inr (8, zf8 X 86 48 i j) := rfl
theorem zF_87 (X : zX) (i : Nat → Int32) (j : Nat → Int64) (r : Nat → Option Nat) : zF X 87 i j r = .inl (X.2.2.1 1, 40, .inr (.inl j)) := rfl
theorem zF_88 (X : zX) (i : Nat → Int32) (j : Nat → Int64) (r : Nat → Option Nat) : zF X 88 i j r = .inl (X.2.2.1 1, 40, .inr (.inl j)) := rfl
theorem zF_89 (X : zX) (i : Nat → Int32) (j : Nat → Int64) (r : Nat → Option Nat) : zF X 89 i j r = .inl (X.2.2.1 1, 40, .inr (.inl j)) := rfl
theorem zF_90 (X : zX) (i : Nat → Int32) (j : Nat → Int64) (r : Nat → Option Nat) : zF X 90 i j r = .inl (X.2.2.1 1, 40, .inr (.inl j)) := rfl
theorem zF_91 (X : zX) (i : Nat → Int32) (j : Nat → Int64) (r : Nat → Option Nat) : zF X 91 i j r = .inl (X.2.2.1 1, 40, .inr (.inl j)) := rfl
theorem zF_92 (X : zX) (i : Nat → Int32) (j : Nat → Int64) (r : Nat → Option Nat) : zF X 92 i j r = .inl (X.2.2.1 1, 760, .inr (.inl j)) := rfl
theorem zF_93 (X : zX) (i : Nat → Int32) (j : Nat → Int64) (r : Nat → Option Nat) : zF X 93 i j r = .inr (8, zf8 X 93 48 i j) := rfl
theorem zF_94 (X : zX) (i : Nat → Int32) (j : Nat → Int64) (r : Nat → Option Nat) : zF X 94 i j r = .inl (X.2.2.1 1, 40, .inr (.inl j)) := rfl
theorem zF_95 (X : zX) (i : Nat → Int32) (j : Nat → Int64) (r : Nat → Option Nat) : zF X 95 i j r = .inl (X.2.2.1 1, 40, .inr (.inl j)) := rfl
theorem zF_96 (X : zX) (i : Nat → Int32) (j : Nat → Int64) (r : Nat → Option Nat) : zF X 96 i j r = .inl (X.2.2.1 1, 40, .inr (.inl j)) := rfl
theorem zF_97 (X : zX) (i : Nat → Int32) (j : Nat → Int64) (r : Nat → Option Nat) : zF X 97 i j r = .inl (X.2.2.1 1, 40, .inr (.inl j)) := rfl
theorem zF_98 (X : zX) (i : Nat → Int32) (j : Nat → Int64) (r : Nat → Option Nat) : zF X 98 i j r = .inl (X.2.2.1 1, 40, .inr (.inl j)) := rfl
theorem zF_99 (X : zX) (i : Nat → Int32) (j : Nat → Int64) (r : Nat → Option Nat) : zF X 99 i j r = .inl (X.2.2.1 1, 760, .inr (.inl j)) := rfl
theorem zF_100 (X : zX) (i : Nat → Int32) (j : Nat → Int64) (r : Nat → Option Nat) : zF X 100 i j r = .inr (8, zf8 X 100 48 i j) := rfl
theorem zF_101 (X : zX) (i : Nat → Int32) (j : Nat → Int64) (r : Nat → Option Nat) : zF X 101 i j r = .inl (X.2.2.1 1, 40, .inr (.inl j)) := rfl
theorem zF_102 (X : zX) (i : Nat → Int32) (j : Nat → Int64) (r : Nat → Option Nat) : zF X 102 i j r = .inl (X.2.2.1 1, 40, .inr (.inl j)) := rfl
theorem zF_103 (X : zX) (i : Nat → Int32) (j : Nat → Int64) (r : Nat → Option Nat) : zF X 103 i j r = .inl (X.2.2.1 1, 40, .inr (.inl j)) := rfl
theorem zF_104 (X : zX) (i : Nat → Int32) (j : Nat → Int64) (r : Nat → Option Nat) : zF X 104 i j r = .inl (X.2.2.1 1, 40, .inr (.inl j)) := rfl
theorem zF_105 (X : zX) (i : Nat → Int32) (j : Nat → Int64) (r : Nat → Option Nat) : zF X 105 i j r = .inl (X.2.2.1 1, 40, .inr (.inl j)) := rfl
theorem zF_106 (X : zX) (i : Nat → Int32) (j : Nat → Int64) (r : Nat → Option Nat) : zF X 106 i j r = .inl (X.2.2.1 1, 760, .inr (.inl j)) := rfl
theorem zF_107 (X : zX) (i : Nat → Int32) (j : Nat → Int64) (r : Nat → Option Nat) : zF X 107 i j r = .inr (8, zf8 X 107 48 i j) := rfl
theorem zF_108 (X : zX) (i : Nat → Int32) (j : Nat → Int64) (r : Nat → Option Nat) : zF X 108 i j r = .inl (X.2.2.1 1, 40, .inr (.inl j)) := rfl
theorem zF_109 (X : zX) (i : Nat → Int32) (j : Nat → Int64) (r : Nat → Option Nat) : zF X 109 i j r = .inl (X.2.2.1 1, 40, .inr (.inl j)) := rfl
theorem zF_110 (X : zX) (i : Nat → Int32) (j : Nat → Int64) (r : Nat → Option Nat) : zF X 110 i j r = .inl (X.2.2.1 1, 40, .inr (.inl j)) := rfl
theorem zF_111 (X : zX) (i : Nat → Int32) (j : Nat → Int64) (r : Nat → Option Nat) : zF X 111 i j r = .inl (X.2.2.1 1, 40, .inr (.inl j)) := rfl
theorem zF_112 (X : zX) (i : Nat → Int32) (j : Nat → Int64) (r : Nat → Option Nat) : zF X 112 i j r = .inl (X.2.2.1 1, 40, .inr (.inl j)) := rfl
theorem zF_113 (X : zX) (i : Nat → Int32) (j : Nat → Int64) (r : Nat → Option Nat) : zF X 113 i j r = .inl (X.2.2.1 1, 760, .inr (.inl j)) := rfl
theorem zF_114 (X : zX) (i : Nat → Int32) (j : Nat → Int64) (r : Nat → Option Nat) : zF X 114 i j r = .inr (8, zf8 X 114 53 i j) := rfl
theorem zF_115 (X : zX) (i : Nat → Int32) (j : Nat → Int64) (r : Nat → Option Nat) : zF X 115 i j r = .inl (X.2.2.1 1, 40, .inr (.inl j)) := rfl
theorem zF_116 (X : zX) (i : Nat → Int32) (j : Nat → Int64) (r : Nat → Option Nat) : zF X 116 i j r = .inl (X.2.2.1 1, 40, .inr (.inl j)) := rfl
theorem zF_117 (X : zX) (i : Nat → Int32) (j : Nat → Int64) (r : Nat → Option Nat) : zF X 117 i j r = .inl (X.2.2.1 1, 40, .inr (.inl j)) := rfl
theorem zF_118 (X : zX) (i : Nat → Int32) (j : Nat → Int64) (r : Nat → Option Nat) : zF X 118 i j r = .inl (X.2.2.1 1, 40, .inr (.inl j)) := rfl
theorem zF_119 (X : zX) (i : Nat → Int32) (j : Nat → Int64) (r : Nat → Option Nat) : zF X 119 i j r = .inl (X.2.2.1 1, 40, .inr (.inl j)) := rfl
theorem zF_120 (X : zX) (i : Nat → Int32) (j : Nat → Int64) (r : Nat → Option Nat) : zF X 120 i j r = .inl (X.2.2.1 1, 760, .inr (.inl j)) := rfl
theorem zF_121 (X : zX) (i : Nat → Int32) (j : Nat → Int64) (r : Nat → Option Nat) : zF X 121 i j r = .inr (8, zf8 X 121 53 i j) := rfl
theorem zF_122 (X : zX) (i : Nat → Int32) (j : Nat → Int64) (r : Nat → Option Nat) : zF X 122 i j r = .inl (X.2.2.1 1, 40, .inr (.inl j)) := rfl
theorem zF_123 (X : zX) (i : Nat → Int32) (j : Nat → Int64) (r : Nat → Option Nat) : zF X 123 i j r = .inl (X.2.2.1 1, 40, .inr (.inl j)) := rfl
theorem zF_124 (X : zX) (i : Nat → Int32) (j : Nat → Int64) (r : Nat → Option Nat) : zF X 124 i j r = .inl (X.2.2.1 1, 40, .inr (.inl j)) := rfl
theorem zF_125 (X : zX) (i : Nat → Int32) (j : Nat → Int64) (r : Nat → Option Nat) : zF X 125 i j r = .inl (X.2.2.1 1, 40, .inr (.inl j)) := rfl
theorem zF_126 (X : zX) (i : Nat → Int32) (j : Nat → Int64) (r : Nat → Option Nat) : zF X 126 i j r = .inl (X.2.2.1 1, 40, .inr (.inl j)) := rfl
theorem zF_127 (X : zX) (i : Nat → Int32) (j : Nat → Int64) (r : Nat → Option Nat) : zF X 127 i j r = .inl (X.2.2.1 1, 760, .inr (.inl j)) := rfl
theorem zF_128 (X : zX) (i : Nat → Int32) (j : Nat → Int64) (r : Nat → Option Nat) : zF X 128 i j r = .inr (12, zf12 X i j) := rfl
theorem zF_129 (X : zX) (i : Nat → Int32) (j : Nat → Int64) (r : Nat → Option Nat) : zF X 129 i j r = .inl (X.2.2.1 0, 12, .inl i) := rfl
theorem zF_130 (X : zX) (i : Nat → Int32) (j : Nat → Int64) (r : Nat → Option Nat) : zF X 130 i j r = .inl (X.2.2.1 0, 13, .inl i) := rfl
theorem zF_131 (X : zX) (i : Nat → Int32) (j : Nat → Int64) (r : Nat → Option Nat) : zF X 131 i j r = .inl (X.2.2.1 0, 13, .inl i) := rfl
theorem zF_132 (X : zX) (i : Nat → Int32) (j : Nat → Int64) (r : Nat → Option Nat) : zF X 132 i j r = .inl (X.2.2.1 0, 13, .inl i) := rfl
theorem zF_133 (X : zX) (i : Nat → Int32) (j : Nat → Int64) (r : Nat → Option Nat) : zF X 133 i j r = .inl (X.2.2.1 0, 601, .inl i) := rfl
theorem zF_134 (X : zX) (i : Nat → Int32) (j : Nat → Int64) (r : Nat → Option Nat) : zF X 134 i j r = .inl (X.2.2.1 0, 601, .inl i) := rfl
theorem zF_135 (X : zX) (i : Nat → Int32) (j : Nat → Int64) (r : Nat → Option Nat) : zF X 135 i j r = .inl (X.2.2.1 0, 20, .inl i) := rfl
theorem zF_136 (X : zX) (i : Nat → Int32) (j : Nat → Int64) (r : Nat → Option Nat) : zF X 136 i j r = .inl (X.2.2.1 0, 240, .inl i) := rfl
theorem zF_137 (X : zX) (i : Nat → Int32) (j : Nat → Int64) (r : Nat → Option Nat) : zF X 137 i j r = .inl (X.2.2.1 0, 240, .inl i) := rfl
theorem zF_138 (X : zX) (i : Nat → Int32) (j : Nat → Int64) (r : Nat → Option Nat) : zF X 138 i j r = .inl (X.2.2.1 0, 6, .inl i) := rfl
theorem zF_139 (X : zX) (i : Nat → Int32) (j : Nat → Int64) (r : Nat → Option Nat) : zF X 139 i j r = .inl (X.2.2.1 0, 169, .inl i) := rfl
theorem zF_140 (X : zX) (i : Nat → Int32) (j : Nat → Int64) (r : Nat → Option Nat) : zF X 140 i j r = .inl (X.2.2.1 0, 11264, .inl i) := rfl
theorem zF_141 (X : zX) (i : Nat → Int32) (j : Nat → Int64) (r : Nat → Option Nat) : zF X 141 i j r = .inl (X.2.2.1 0, 10, .inl i) := rfl
theorem zF_142 (X : zX) (i : Nat → Int32) (j : Nat → Int64) (r : Nat → Option Nat) : zF X 142 i j r = .inl (X.2.2.1 0, 100, .inl i) := rfl
theorem zF_143 (X : zX) (i : Nat → Int32) (j : Nat → Int64) (r : Nat → Option Nat) : zF X 143 i j r = .inl (X.2.2.1 0, 600, .inl i) := rfl
theorem zF_144 (X : zX) (i : Nat → Int32) (j : Nat → Int64) (r : Nat → Option Nat) : zF X 144 i j r = .inl (X.2.2.1 2, 4, .inl i) := rfl
theorem zF_145 (X : zX) (i : Nat → Int32) (j : Nat → Int64) (r : Nat → Option Nat) : zF X 145 i j r = .inl (X.2.2.1 2, 8, .inl i) := rfl
theorem zF_146 (X : zX) (i : Nat → Int32) (j : Nat → Int64) (r : Nat → Option Nat) : zF X 146 i j r = .inl (X.2.2.1 2, 5, .inl i) := rfl
theorem zF_147 (X : zX) (i : Nat → Int32) (j : Nat → Int64) (r : Nat → Option Nat) : zF X 147 i j r = .inl (X.2.2.1 2, 6, .inl i) := rfl
theorem zF_148 (X : zX) (i : Nat → Int32) (j : Nat → Int64) (r : Nat → Option Nat) : zF X 148 i j r = .inl (X.2.2.1 2, 5, .inl i) := rfl
theorem zF_149 (X : zX) (i : Nat → Int32) (j : Nat → Int64) (r : Nat → Option Nat) : zF X 149 i j r = .inl (X.2.2.1 2, 2, .inl i) := rfl
theorem zF_150 (X : zX) (i : Nat → Int32) (j : Nat → Int64) (r : Nat → Option Nat) : zF X 150 i j r = .inl (X.2.2.1 2, 3, .inl i) := rfl
theorem zF_151 (X : zX) (i : Nat → Int32) (j : Nat → Int64) (r : Nat → Option Nat) : zF X 151 i j r = .inl (X.2.2.1 2, 2, .inl i) := rfl
theorem zF_152 (X : zX) (i : Nat → Int32) (j : Nat → Int64) (r : Nat → Option Nat) : zF X 152 i j r = .inl (X.2.2.1 2, 3, .inl i) := rfl
theorem zF_153 (X : zX) (i : Nat → Int32) (j : Nat → Int64) (r : Nat → Option Nat) : zF X 153 i j r = .inl (X.2.2.1 2, 3, .inl i) := rfl
theorem zF_154 (X : zX) (i : Nat → Int32) (j : Nat → Int64) (r : Nat → Option Nat) : zF X 154 i j r = .inl (X.2.2.1 2, 3, .inl i) := rfl
theorem zF_155 (X : zX) (i : Nat → Int32) (j : Nat → Int64) (r : Nat → Option Nat) : zF X 155 i j r = .inl (X.2.2.1 2, 5, .inl i) := rfl
theorem zF_156 (X : zX) (i : Nat → Int32) (j : Nat → Int64) (r : Nat → Option Nat) : zF X 156 i j r = .inl (X.2.2.1 2, 5, .inl i) := rfl
theorem zF_157 (X : zX) (i : Nat → Int32) (j : Nat → Int64) (r : Nat → Option Nat) : zF X 157 i j r = .inl (X.2.2.1 2, 9, .inl i) := rfl
theorem zF_158 (X : zX) (i : Nat → Int32) (j : Nat → Int64) (r : Nat → Option Nat) : zF X 158 i j r = .inl (X.2.2.1 2, 6, .inl i) := rfl
theorem zF_159 (X : zX) (i : Nat → Int32) (j : Nat → Int64) (r : Nat → Option Nat) : zF X 159 i j r = .inl (X.2.2.1 2, 4, .inl i) := rfl
theorem zF_160 (X : zX) (i : Nat → Int32) (j : Nat → Int64) (r : Nat → Option Nat) : zF X 160 i j r = .inl (X.2.2.1 2, 4, .inl i) := rfl
theorem zF_161 (X : zX) (i : Nat → Int32) (j : Nat → Int64) (r : Nat → Option Nat) : zF X 161 i j r = .inl (X.2.2.1 2, 4, .inl i) := rfl
theorem zF_162 (X : zX) (i : Nat → Int32) (j : Nat → Int64) (r : Nat → Option Nat) : zF X 162 i j r = .inl (X.2.2.1 2, 4, .inl i) := rfl
theorem zF_163 (X : zX) (i : Nat → Int32) (j : Nat → Int64) (r : Nat → Option Nat) : zF X 163 i j r = .inl (X.2.2.1 2, 3, .inl i) := rfl
theorem zF_164 (X : zX) (i : Nat → Int32) (j : Nat → Int64) (r : Nat → Option Nat) : zF X 164 i j r = .inl (X.2.2.1 2, 3, .inl i) := rfl
theorem zF_165 (X : zX) (i : Nat → Int32) (j : Nat → Int64) (r : Nat → Option Nat) : zF X 165 i j r = .inl (X.2.2.1 0, 201, .inl i) := rfl
theorem zF_166 (X : zX) (i : Nat → Int32) (j : Nat → Int64) (r : Nat → Option Nat) : zF X 166 i j r = .inl (X.2.2.1 0, 4824, .inl i) := rfl
theorem zF_167 (X : zX) (i : Nat → Int32) (j : Nat → Int64) (r : Nat → Option Nat) : zF X 167 i j r = .inl (X.2.2.1 3, 4824, .inl i) := rfl
theorem zF_168 (X : zX) (i : Nat → Int32) (j : Nat → Int64) (r : Nat → Option Nat) : zF X 168 i j r = .inl (X.2.2.1 0, 4824, .inl i) := rfl
theorem zF_169 (X : zX) (i : Nat → Int32) (j : Nat → Int64) (r : Nat → Option Nat) : zF X 169 i j r = .inl (X.2.2.1 0, 4824, .inl i) := rfl
theorem zF_170 (X : zX) (i : Nat → Int32) (j : Nat → Int64) (r : Nat → Option Nat) : zF X 170 i j r = .inl (X.2.2.1 0, 4824, .inl i) := rfl
theorem zF_171 (X : zX) (i : Nat → Int32) (j : Nat → Int64) (r : Nat → Option Nat) : zF X 171 i j r = .inl (X.2.2.1 0, 4824, .inl i) := rfl
theorem zF_172 (X : zX) (i : Nat → Int32) (j : Nat → Int64) (r : Nat → Option Nat) : zF X 172 i j r = .inl (X.2.2.1 0, 4824, .inl i) := rfl
theorem zF_173 (X : zX) (i : Nat → Int32) (j : Nat → Int64) (r : Nat → Option Nat) : zF X 173 i j r = .inl (X.2.2.1 0, 128640, .inl i) := rfl
theorem zF_174 (X : zX) (i : Nat → Int32) (j : Nat → Int64) (r : Nat → Option Nat) : zF X 174 i j r = .inl (X.2.2.1 0, 700, .inl i) := rfl
theorem zF_175 (X : zX) (i : Nat → Int32) (j : Nat → Int64) (r : Nat → Option Nat) : zF X 175 i j r = .inl (X.2.2.1 1, 700, .inr (.inl j)) := rfl
theorem zF_176 (X : zX) (i : Nat → Int32) (j : Nat → Int64) (r : Nat → Option Nat) : zF X 176 i j r = .inl (X.2.2.1 0, 201, .inl i) := rfl
theorem zF_177 (X : zX) (i : Nat → Int32) (j : Nat → Int64) (r : Nat → Option Nat) : zF X 177 i j r = .inl (X.2.2.1 0, 201, .inl i) := rfl
theorem zF_178 (X : zX) (i : Nat → Int32) (j : Nat → Int64) (r : Nat → Option Nat) : zF X 178 i j r = .inl (X.2.2.1 0, 201, .inl i) := rfl
theorem zF_179 (X : zX) (i : Nat → Int32) (j : Nat → Int64) (r : Nat → Option Nat) : zF X 179 i j r = .inl (X.2.2.1 0, 201, .inl i) := rfl
theorem zF_180 (X : zX) (i : Nat → Int32) (j : Nat → Int64) (r : Nat → Option Nat) : zF X 180 i j r = .inl (X.2.2.1 0, 201, .inl i) := rfl
theorem zF_181 (X : zX) (i : Nat → Int32) (j : Nat → Int64) (r : Nat → Option Nat) : zF X 181 i j r = .inl (X.2.2.1 1, 60, .inr (.inl j)) := rfl
def zW (X : zX) (S : zS) (H : Heap) : Prop := H.size = X.1 + 182 + S.2.2.2.1 ∧ (∀ k, k < 182 → va_at X.2.1 vwCl (X.1 + k, zF X k (S.1 k) (S.2.1 k) (S.2.2.1 k)) H) ∧ ∀ j, j < S.2.2.2.1 → va_at X.2.1 vwCl (X.1 + 182 + j, zDe X S.2.2.2 j) H
def zA (X : zX) : Nat → Prop := fun q => X.1 ≤ q
def zty (X : zX) : List (ClassId × FieldType) := [(X.2.2.1 0, .int), (X.2.2.1 1, .long), (X.2.2.1 2, .char), (X.2.2.1 3, .boolean), (X.2.2.1 4, .object RX8), (X.2.2.1 5, .object RX9), (X.2.2.1 6, .object RX10), (X.2.2.1 7, .array .long)]
def zN : List Cond := [(Cond.methodLinkNest "ChequeredCloth" (15 : Nat) ({ cls := "ChequeredCloth$Counters", name := "<init>", desc := "()V" } : MethodName) "ChequeredCloth"), (Cond.methodLinkNest "ChequeredCloth$Chest" (35 : Nat) ({ cls := "ChequeredCloth$Matcher", name := "<init>", desc := "()V" } : MethodName) "ChequeredCloth"), (Cond.methodLinkNest "ChequeredCloth" (29 : Nat) ({ cls := "ChequeredCloth$Reader", name := "<init>", desc := "()V" } : MethodName) "ChequeredCloth"), (Cond.methodLinkNest "ChequeredCloth" (36 : Nat) ({ cls := "ChequeredCloth$Acts", name := "<init>", desc := "()V" } : MethodName) "ChequeredCloth"), (Cond.fieldLinkNest "ChequeredCloth$Audit" (120 : Nat) "ChequeredCloth$Acts" "kinds" "[I" "ChequeredCloth"), (Cond.fieldLinkNest "ChequeredCloth$Known" (74 : Nat) "ChequeredCloth$Acts" "kinds" "[I" "ChequeredCloth"), (Cond.fieldLinkNest "ChequeredCloth$Roll" (180 : Nat) "ChequeredCloth$Acts" "kinds" "[I" "ChequeredCloth"), (Cond.fieldLinkNest "ChequeredCloth$Audit" (130 : Nat) "ChequeredCloth$Acts" "shires" "[I" "ChequeredCloth"), (Cond.fieldLinkNest "ChequeredCloth$Roll" (167 : Nat) "ChequeredCloth$Acts" "shires" "[I" "ChequeredCloth"), (Cond.fieldLinkNest "ChequeredCloth$Known" (50 : Nat) "ChequeredCloth$Acts" "terms" "[I" "ChequeredCloth"), (Cond.fieldLinkNest "ChequeredCloth$Audit" (109 : Nat) "ChequeredCloth$Acts" "terms" "[I" "ChequeredCloth"), (Cond.fieldLinkNest "ChequeredCloth$Known" (64 : Nat) "ChequeredCloth$Acts" "amounts" "[I" "ChequeredCloth"), (Cond.fieldLinkNest "ChequeredCloth$Roll" (177 : Nat) "ChequeredCloth$Acts" "amounts" "[I" "ChequeredCloth"), (Cond.fieldLinkNest "ChequeredCloth$Known" (61 : Nat) "ChequeredCloth$Acts" "writs" "[LChequeredCloth$Writ;" "ChequeredCloth"), (Cond.methodLinkNest "ChequeredCloth$Audit" (29 : Nat) ({ cls := "ChequeredCloth$Judge", name := "<init>", desc := "()V" } : MethodName) "ChequeredCloth"), (Cond.methodLinkNest "ChequeredCloth$Chest" (77 : Nat) ({ cls := "ChequeredCloth", name := "isStick", desc := "(I)Z" } : MethodName) "ChequeredCloth"), (Cond.methodLinkNest "ChequeredCloth$Matcher" (49 : Nat) ({ cls := "ChequeredCloth", name := "isStick", desc := "(I)Z" } : MethodName) "ChequeredCloth"), (Cond.methodLinkNest "ChequeredCloth$Reader" (72 : Nat) ({ cls := "ChequeredCloth$Statement", name := "<init>", desc := "()V" } : MethodName) "ChequeredCloth"), (Cond.fieldLinkNest "ChequeredCloth$Reader" (104 : Nat) "ChequeredCloth$Statement" "kind" "I" "ChequeredCloth"), (Cond.fieldLinkNest "ChequeredCloth$Roll" (118 : Nat) "ChequeredCloth$Statement" "kind" "I" "ChequeredCloth"), (Cond.fieldLinkNest "ChequeredCloth$Reader" (110 : Nat) "ChequeredCloth$Statement" "blanched" "Z" "ChequeredCloth"), (Cond.fieldLinkNest "ChequeredCloth$Roll" (151 : Nat) "ChequeredCloth$Statement" "blanched" "Z" "ChequeredCloth"), (Cond.fieldLinkNest "ChequeredCloth$Reader" (121 : Nat) "ChequeredCloth$Statement" "first" "I" "ChequeredCloth"), (Cond.fieldLinkNest "ChequeredCloth$Roll" (155 : Nat) "ChequeredCloth$Statement" "first" "I" "ChequeredCloth"), (Cond.fieldLinkNest "ChequeredCloth$Reader" (126 : Nat) "ChequeredCloth$Statement" "second" "I" "ChequeredCloth"), (Cond.fieldLinkNest "ChequeredCloth$Roll" (152 : Nat) "ChequeredCloth$Statement" "second" "I" "ChequeredCloth"), (Cond.fieldLinkNest "ChequeredCloth$Reader" (73 : Nat) "ChequeredCloth$Statement" "from" "I" "ChequeredCloth"), (Cond.fieldLinkNest "ChequeredCloth$Roll" (145 : Nat) "ChequeredCloth$Statement" "from" "I" "ChequeredCloth"), (Cond.fieldLinkNest "ChequeredCloth$Reader" (80 : Nat) "ChequeredCloth$Statement" "test" "I" "ChequeredCloth"), (Cond.fieldLinkNest "ChequeredCloth$Roll" (131 : Nat) "ChequeredCloth$Statement" "test" "I" "ChequeredCloth"), (Cond.fieldLinkNest "ChequeredCloth$Reader" (92 : Nat) "ChequeredCloth$Statement" "end" "I" "ChequeredCloth"), (Cond.fieldLinkNest "ChequeredCloth$Roll" (134 : Nat) "ChequeredCloth$Statement" "end" "I" "ChequeredCloth"), (Cond.fieldLinkNest "ChequeredCloth$Audit" (68 : Nat) "ChequeredCloth$Writ" "statements" "[LChequeredCloth$Statement;" "ChequeredCloth"), (Cond.fieldLinkNest "ChequeredCloth$Roll" (112 : Nat) "ChequeredCloth$Writ" "statements" "[LChequeredCloth$Statement;" "ChequeredCloth"), (Cond.fieldLinkNest "ChequeredCloth$Roll" (127 : Nat) "ChequeredCloth$Writ" "code" "[I" "ChequeredCloth"), (Cond.methodLinkNest "ChequeredCloth$Known" (57 : Nat) ({ cls := "ChequeredCloth", name := "isTerm", desc := "(I)Z" } : MethodName) "ChequeredCloth"), (Cond.methodLinkNest "ChequeredCloth$Audit" (74 : Nat) ({ cls := "ChequeredCloth", name := "isShire", desc := "(I)Z" } : MethodName) "ChequeredCloth"), (Cond.methodLinkNest "ChequeredCloth$Roll" (102 : Nat) ({ cls := "ChequeredCloth", name := "isTerm", desc := "(I)Z" } : MethodName) "ChequeredCloth")]
def zJ : List (Nat × String × Nat) := [(99, "farm", 0), (188, "pounds", 1), (190, "shillings", 2), (192, "pence", 3), (173, "min", 4), (178, "max", 5), (180, "term", 6), (182, "year", 7), (184, "debt", 8), (186, "paid", 9), (108, "blanched", 10), (113, "allow", 11), (115, "pardon", 12), (124, "in", 13), (129, "split", 14), (83, "for", 15), (147, "not", 16), (158, "all", 17), (160, "shire", 18), (145, "and", 19), (134, "or", 20)]
def zO (X : zX) (U : State) (H : Heap) : Prop := (va_Z RX3 "WORTHS" "[I" (.ref (X.2.2.2.1 0)) (zA X) U H ∧ va_T .int (X.2.2.2.1 0) 13 (fun j => .int (zc0.getD j 0)) (zA X) U H) ∧ (va_Z RX3 "RATIOS" "[I" (.ref (X.2.2.2.1 1)) (zA X) U H ∧ va_T .int (X.2.2.2.1 1) 12 (fun j => .int (zc1.getD j 0)) (zA X) U H) ∧ (va_Z RX2 "WORTHS" "[I" (.ref (X.2.2.2.1 2)) (zA X) U H ∧ va_T .int (X.2.2.2.1 2) 6 (fun j => .int (zc2.getD j 0)) (zA X) U H) ∧ vk_S 21 zlen zbyt X.2.2.2.2.1 X.2.2.2.2.2 (zA X) U H ∧ va_Z "java/lang/String" "COMPACT_STRINGS" "Z" (.int 1) (zA X) U H ∧ va_Zq "jdk/internal/util/Preconditions" "SIOOBE_FORMATTER" "Ljava/util/function/BiFunction;" (zA X) U H
def zK (X : zX) (U : State) : Prop := va_K X.2.1 vwCl (zty X) U ∧ (∀ w ∈ zN, va_Nw w U) ∧ (∀ q ∈ zJ, vk_R RX7 q.1 q.2.1 (X.2.2.2.2.1 q.2.2) U) ∧ zO X U U.heap ∧ X.1 ≤ U.heap.size ∧ va_AO RX9 U
def zM (X : zX) (S : zS) (U : State) : Prop := zW X S U.heap ∧ zK X U
def zT : List Cond := lw_tbl.filter goodWord
theorem zT_good {y : MethodName} {cc c2 : ByteArray} {n n2 : Nat} {r r2 : Option FieldType} {y2 : MethodName} (h : Cond.code y cc n r ∈ zT) : GoodIn (Cond.code y2 c2 n2 r2 :: zT) (Cond.code y cc n r :: zT) := by
  intro w hw
  have hz : w ∈ zT := by
    rcases List.mem_cons.mp hw with e | e
    · exact e ▸ h
    · exact e
  exact ⟨List.mem_cons_of_mem _ hz, good_of_word (List.mem_filter.mp hz).2⟩
theorem zT_of {w : Cond} (i : Nat) (h : tables_1[i]? = some w) (g : goodWord w = true) : w ∈ zT := List.mem_filter.mpr ⟨List.mem_append_right _ (List.mem_of_getElem? h), g⟩
theorem zT_sel {w : Cond} (i : Nat) (h : (k2_sels lw_privs)[i]? = some w) (g : goodWord w = true) : w ∈ zT := List.mem_filter.mpr ⟨List.mem_append_left _ (List.mem_of_getElem? h), g⟩
