set_option maxHeartbeats 4000000
set_option maxRecDepth 100000
/-! the world behind the two constructors -/
def eI (x : va_E) : Nat → Int32 := match x with
  | .inl (_, _, .inl f) => f
  | .inl _ => fun _ => 0
  | .inr (_, vs) => fun j => match vs.getD j .null with
    | .int v => v
    | _ => 0
def eJ (x : va_E) : Nat → Int64 := match x with
  | .inl (_, _, .inr (.inl f)) => f
  | .inl _ => fun _ => 0
  | .inr (_, vs) => fun j => match vs.getD j .null with
    | .long v => v
    | _ => 0
def eN : Nat → va_E := fun _ => .inr (0, [])
def e1 (_ : zX) : Nat → va_E := va_up eN 0 (.inr (11, [.null, .null, .null, .null, .null, .int 0]))
def e2 (X : zX) : Nat → va_E := (va_up (va_up (va_up (va_up (va_up (va_up (va_up (va_up (va_up (va_up (va_up (va_up (va_up (va_up (va_up (va_up (va_up (va_up (va_up (va_up (va_up (va_up (va_up (va_up (va_up (va_up (va_up (va_up (va_up (va_up (va_up (va_up (va_up (va_up (va_up (va_up (va_up (va_up (va_up (va_up (va_up (va_up (va_up (va_up (va_up (va_up (va_up (va_up (va_up (va_up (va_up (va_up (va_up (va_up (va_up (va_up (va_up (va_up (va_up (va_up (va_up (va_up (va_up (va_up (va_up (va_up (va_up (va_up (va_up (va_up (va_up (va_up (va_up (va_up (va_up (va_up (va_up (va_up (va_up (va_up (va_up (va_up (va_up (va_up (va_up (va_up (va_up (va_up (va_up (va_up (va_up (va_up (va_up (va_up (va_up (va_up (va_up (va_up (va_up (va_up (va_up (va_up (va_up (va_up (va_up (va_up (va_up (va_up (va_up (va_up (va_up (va_up (va_up (va_up (va_up (va_up (va_up (va_up (va_up (va_up (va_up (va_up (va_up (va_up (va_up (va_up (va_up (va_up (e1 X) 1 (.inr (3, [.ref (X.1 + 2), .ref (X.1 + 3), .ref (X.1 + 4)]))) 2 (.inl (X.2.2.1 0, 13, .inl (fun _ => 0)))) 3 (.inl (X.2.2.1 0, 13, .inl (fun _ => 0)))) 4 (.inl (X.2.2.1 0, 13, .inl (fun _ => 0)))) 5 (.inr (2, [.ref (X.1 + 6), .ref (X.1 + 7), .ref (X.1 + 8), .ref (X.1 + 9), .ref (X.1 + 10), .ref (X.1 + 11), .ref (X.1 + 12), .ref (X.1 + 13), .int 3, .int 8, .int 20, .int 0, .int 0]))) 6 (.inl (X.2.2.1 0, 240, .inl (fun _ => 0)))) 7 (.inl (X.2.2.1 0, 240, .inl (fun _ => 0)))) 8 (.inl (X.2.2.1 0, 20, .inl (fun _ => 0)))) 9 (.inl (X.2.2.1 0, 100, .inl (fun _ => (-2))))) 10 (.inl (X.2.2.1 0, 13, .inl (fun _ => 0)))) 11 (.inl (X.2.2.1 0, 13, .inl (fun _ => 0)))) 12 (.inl (X.2.2.1 0, 10, .inl (fun _ => 0)))) 13 (.inr (6, [.ref (X.1 + 14), .ref (X.1 + 26), .ref (X.1 + 27), .ref (X.1 + 28), .ref (X.1 + 29), .ref (X.1 + 30), .ref (X.1 + 31), .ref (X.1 + 32)]))) 14 (.inl (X.2.2.1 7, 11, .inr (.inr (.inr (.inr (fun i => if i < 11 then some (X.1 + (14 + 1 + i)) else none))))))) 15 (.inl (X.2.2.1 1, 21, .inr (.inl (fun _ => 0))))) 16 (.inl (X.2.2.1 1, 21, .inr (.inl (fun _ => 0))))) 17 (.inl (X.2.2.1 1, 21, .inr (.inl (fun _ => 0))))) 18 (.inl (X.2.2.1 1, 21, .inr (.inl (fun _ => 0))))) 19 (.inl (X.2.2.1 1, 21, .inr (.inl (fun _ => 0))))) 20 (.inl (X.2.2.1 1, 21, .inr (.inl (fun _ => 0))))) 21 (.inl (X.2.2.1 1, 21, .inr (.inl (fun _ => 0))))) 22 (.inl (X.2.2.1 1, 21, .inr (.inl (fun _ => 0))))) 23 (.inl (X.2.2.1 1, 21, .inr (.inl (fun _ => 0))))) 24 (.inl (X.2.2.1 1, 21, .inr (.inl (fun _ => 0))))) 25 (.inl (X.2.2.1 1, 21, .inr (.inl (fun _ => 0))))) 26 (.inl (X.2.2.1 1, 11, .inr (.inl (fun _ => 0))))) 27 (.inl (X.2.2.1 1, 21, .inr (.inl (fun _ => 0))))) 28 (.inl (X.2.2.1 1, 21, .inr (.inl (fun _ => 0))))) 29 (.inl (X.2.2.1 0, 21, .inl (fun _ => 0)))) 30 (.inl (X.2.2.1 0, 21, .inl (fun _ => 0)))) 31 (.inl (X.2.2.1 3, 21, .inl (fun _ => 0)))) 32 (.inl (X.2.2.1 0, 10, .inl (fun _ => 0)))) 33 (.inr (7, [.ref (X.1 + 34), .ref (X.1 + 35), .ref (X.1 + 36), .int 0, .int 0, .int 0, .int 0, .int 0, .int 0, .int 0, .int 0, .int (-1)]))) 34 (.inl (X.2.2.1 2, 600, .inl (fun _ => 0)))) 35 (.inl (X.2.2.1 0, 600, .inl (fun _ => 0)))) 36 (.inl (X.2.2.1 5, 24, .inr (.inr (.inr (.inr (fun _ => none))))))) 37 (.inr (0, [.ref (X.1 + 38), .ref (X.1 + 39), .ref (X.1 + 40), .ref (X.1 + 41), .ref (X.1 + 42), .ref (X.1 + 43), .int 0, .int 0]))) 38 (.inl (X.2.2.1 0, 201, .inl (fun _ => 0)))) 39 (.inl (X.2.2.1 0, 201, .inl (fun _ => 0)))) 40 (.inl (X.2.2.1 0, 201, .inl (fun _ => 0)))) 41 (.inl (X.2.2.1 0, 201, .inl (fun _ => 0)))) 42 (.inl (X.2.2.1 0, 201, .inl (fun _ => 0)))) 43 (.inl (X.2.2.1 6, 201, .inr (.inr (.inr (.inr (fun _ => none))))))) 44 (.inr (1, [.ref (X.1 + 37), .ref (X.1 + 5), .ref (X.1 + 48), .ref (X.1 + 53), .ref (X.1 + 45), .ref (X.1 + 114), .ref (X.1 + 121), .int (-1), .int (-1), .int (-1)]))) 45 (.inl (X.2.2.1 4, 8, .inr (.inr (.inr (.inr (va_up (va_up (va_up (va_up (va_up (va_up (va_up (va_up (fun _ => none) 0 (some (X.1 + 58))) 1 (some (X.1 + 65))) 2 (some (X.1 + 72))) 3 (some (X.1 + 79))) 4 (some (X.1 + 86))) 5 (some (X.1 + 93))) 6 (some (X.1 + 100))) 7 (some (X.1 + 107))))))))) 46 (.inr (4, [.ref (X.1 + 47), .int 0, .int 0, .long 0, .long 0]))) 47 (.inl (X.2.2.1 1, 64, .inr (.inl (fun _ => 0))))) 48 (.inr (5, [.ref (X.1 + 37), .ref (X.1 + 49), .ref (X.1 + 50), .ref (X.1 + 51), .ref (X.1 + 52)]))) 49 (.inl (X.2.2.1 0, 40, .inl (fun _ => 0)))) 50 (.inl (X.2.2.1 0, 40, .inl (fun _ => 0)))) 51 (.inl (X.2.2.1 0, 40, .inl (fun _ => 0)))) 52 (.inl (X.2.2.1 0, 201, .inl (fun _ => 0)))) 53 (.inr (5, [.ref (X.1 + 37), .ref (X.1 + 54), .ref (X.1 + 55), .ref (X.1 + 56), .ref (X.1 + 57)]))) 54 (.inl (X.2.2.1 0, 40, .inl (fun _ => 0)))) 55 (.inl (X.2.2.1 0, 40, .inl (fun _ => 0)))) 56 (.inl (X.2.2.1 0, 40, .inl (fun _ => 0)))) 57 (.inl (X.2.2.1 0, 201, .inl (fun _ => 0)))) 58 (.inr (8, [.ref (X.1 + 37), .ref (X.1 + 5), .ref (X.1 + 48), .ref (X.1 + 46), .ref (X.1 + 59), .ref (X.1 + 60), .ref (X.1 + 61), .ref (X.1 + 62), .ref (X.1 + 63), .ref (X.1 + 64), .int 0, .int 0, .long 0, .long 0, .int 0]))) 59 (.inl (X.2.2.1 1, 40, .inr (.inl (fun _ => 0))))) 60 (.inl (X.2.2.1 1, 40, .inr (.inl (fun _ => 0))))) 61 (.inl (X.2.2.1 1, 40, .inr (.inl (fun _ => 0))))) 62 (.inl (X.2.2.1 1, 40, .inr (.inl (fun _ => 0))))) 63 (.inl (X.2.2.1 1, 40, .inr (.inl (fun _ => 0))))) 64 (.inl (X.2.2.1 1, 760, .inr (.inl (fun _ => 0))))) 65 (.inr (8, [.ref (X.1 + 37), .ref (X.1 + 5), .ref (X.1 + 48), .ref (X.1 + 46), .ref (X.1 + 66), .ref (X.1 + 67), .ref (X.1 + 68), .ref (X.1 + 69), .ref (X.1 + 70), .ref (X.1 + 71), .int 0, .int 0, .long 0, .long 0, .int 0]))) 66 (.inl (X.2.2.1 1, 40, .inr (.inl (fun _ => 0))))) 67 (.inl (X.2.2.1 1, 40, .inr (.inl (fun _ => 0))))) 68 (.inl (X.2.2.1 1, 40, .inr (.inl (fun _ => 0))))) 69 (.inl (X.2.2.1 1, 40, .inr (.inl (fun _ => 0))))) 70 (.inl (X.2.2.1 1, 40, .inr (.inl (fun _ => 0))))) 71 (.inl (X.2.2.1 1, 760, .inr (.inl (fun _ => 0))))) 72 (.inr (8, [.ref (X.1 + 37), .ref (X.1 + 5), .ref (X.1 + 48), .ref (X.1 + 46), .ref (X.1 + 73), .ref (X.1 + 74), .ref (X.1 + 75), .ref (X.1 + 76), .ref (X.1 + 77), .ref (X.1 + 78), .int 0, .int 0, .long 0, .long 0, .int 0]))) 73 (.inl (X.2.2.1 1, 40, .inr (.inl (fun _ => 0))))) 74 (.inl (X.2.2.1 1, 40, .inr (.inl (fun _ => 0))))) 75 (.inl (X.2.2.1 1, 40, .inr (.inl (fun _ => 0))))) 76 (.inl (X.2.2.1 1, 40, .inr (.inl (fun _ => 0))))) 77 (.inl (X.2.2.1 1, 40, .inr (.inl (fun _ => 0))))) 78 (.inl (X.2.2.1 1, 760, .inr (.inl (fun _ => 0))))) 79 (.inr (8, [.ref (X.1 + 37), .ref (X.1 + 5), .ref (X.1 + 48), .ref (X.1 + 46), .ref (X.1 + 80), .ref (X.1 + 81), .ref (X.1 + 82), .ref (X.1 + 83), .ref (X.1 + 84), .ref (X.1 + 85), .int 0, .int 0, .long 0, .long 0, .int 0]))) 80 (.inl (X.2.2.1 1, 40, .inr (.inl (fun _ => 0))))) 81 (.inl (X.2.2.1 1, 40, .inr (.inl (fun _ => 0))))) 82 (.inl (X.2.2.1 1, 40, .inr (.inl (fun _ => 0))))) 83 (.inl (X.2.2.1 1, 40, .inr (.inl (fun _ => 0))))) 84 (.inl (X.2.2.1 1, 40, .inr (.inl (fun _ => 0))))) 85 (.inl (X.2.2.1 1, 760, .inr (.inl (fun _ => 0))))) 86 (.inr (8, [.ref (X.1 + 37), .ref (X.1 + 5), .ref (X.1 + 48), .ref (X.1 + 46), .ref (X.1 + 87), .ref (X.1 + 88), .ref (X.1 + 89), .ref (X.1 + 90), .ref (X.1 + 91), .ref (X.1 + 92), .int 0, .int 0, .long 0, .long 0, .int 0]))) 87 (.inl (X.2.2.1 1, 40, .inr (.inl (fun _ => 0))))) 88 (.inl (X.2.2.1 1, 40, .inr (.inl (fun _ => 0))))) 89 (.inl (X.2.2.1 1, 40, .inr (.inl (fun _ => 0))))) 90 (.inl (X.2.2.1 1, 40, .inr (.inl (fun _ => 0))))) 91 (.inl (X.2.2.1 1, 40, .inr (.inl (fun _ => 0))))) 92 (.inl (X.2.2.1 1, 760, .inr (.inl (fun _ => 0))))) 93 (.inr (8, [.ref (X.1 + 37), .ref (X.1 + 5), .ref (X.1 + 48), .ref (X.1 + 46), .ref (X.1 + 94), .ref (X.1 + 95), .ref (X.1 + 96), .ref (X.1 + 97), .ref (X.1 + 98), .ref (X.1 + 99), .int 0, .int 0, .long 0, .long 0, .int 0]))) 94 (.inl (X.2.2.1 1, 40, .inr (.inl (fun _ => 0))))) 95 (.inl (X.2.2.1 1, 40, .inr (.inl (fun _ => 0))))) 96 (.inl (X.2.2.1 1, 40, .inr (.inl (fun _ => 0))))) 97 (.inl (X.2.2.1 1, 40, .inr (.inl (fun _ => 0))))) 98 (.inl (X.2.2.1 1, 40, .inr (.inl (fun _ => 0))))) 99 (.inl (X.2.2.1 1, 760, .inr (.inl (fun _ => 0))))) 100 (.inr (8, [.ref (X.1 + 37), .ref (X.1 + 5), .ref (X.1 + 48), .ref (X.1 + 46), .ref (X.1 + 101), .ref (X.1 + 102), .ref (X.1 + 103), .ref (X.1 + 104), .ref (X.1 + 105), .ref (X.1 + 106), .int 0, .int 0, .long 0, .long 0, .int 0]))) 101 (.inl (X.2.2.1 1, 40, .inr (.inl (fun _ => 0))))) 102 (.inl (X.2.2.1 1, 40, .inr (.inl (fun _ => 0))))) 103 (.inl (X.2.2.1 1, 40, .inr (.inl (fun _ => 0))))) 104 (.inl (X.2.2.1 1, 40, .inr (.inl (fun _ => 0))))) 105 (.inl (X.2.2.1 1, 40, .inr (.inl (fun _ => 0))))) 106 (.inl (X.2.2.1 1, 760, .inr (.inl (fun _ => 0))))) 107 (.inr (8, [.ref (X.1 + 37), .ref (X.1 + 5), .ref (X.1 + 48), .ref (X.1 + 46), .ref (X.1 + 108), .ref (X.1 + 109), .ref (X.1 + 110), .ref (X.1 + 111), .ref (X.1 + 112), .ref (X.1 + 113), .int 0, .int 0, .long 0, .long 0, .int 0]))) 108 (.inl (X.2.2.1 1, 40, .inr (.inl (fun _ => 0))))) 109 (.inl (X.2.2.1 1, 40, .inr (.inl (fun _ => 0))))) 110 (.inl (X.2.2.1 1, 40, .inr (.inl (fun _ => 0))))) 111 (.inl (X.2.2.1 1, 40, .inr (.inl (fun _ => 0))))) 112 (.inl (X.2.2.1 1, 40, .inr (.inl (fun _ => 0))))) 113 (.inl (X.2.2.1 1, 760, .inr (.inl (fun _ => 0))))) 114 (.inr (8, [.ref (X.1 + 37), .ref (X.1 + 5), .ref (X.1 + 53), .ref (X.1 + 46), .ref (X.1 + 115), .ref (X.1 + 116), .ref (X.1 + 117), .ref (X.1 + 118), .ref (X.1 + 119), .ref (X.1 + 120), .int 0, .int 0, .long 0, .long 0, .int 0]))) 115 (.inl (X.2.2.1 1, 40, .inr (.inl (fun _ => 0))))) 116 (.inl (X.2.2.1 1, 40, .inr (.inl (fun _ => 0))))) 117 (.inl (X.2.2.1 1, 40, .inr (.inl (fun _ => 0))))) 118 (.inl (X.2.2.1 1, 40, .inr (.inl (fun _ => 0))))) 119 (.inl (X.2.2.1 1, 40, .inr (.inl (fun _ => 0))))) 120 (.inl (X.2.2.1 1, 760, .inr (.inl (fun _ => 0))))) 121 (.inr (8, [.ref (X.1 + 37), .ref (X.1 + 5), .ref (X.1 + 53), .ref (X.1 + 46), .ref (X.1 + 122), .ref (X.1 + 123), .ref (X.1 + 124), .ref (X.1 + 125), .ref (X.1 + 126), .ref (X.1 + 127), .int 0, .int 0, .long 0, .long 0, .int 0]))) 122 (.inl (X.2.2.1 1, 40, .inr (.inl (fun _ => 0))))) 123 (.inl (X.2.2.1 1, 40, .inr (.inl (fun _ => 0))))) 124 (.inl (X.2.2.1 1, 40, .inr (.inl (fun _ => 0))))) 125 (.inl (X.2.2.1 1, 40, .inr (.inl (fun _ => 0))))) 126 (.inl (X.2.2.1 1, 40, .inr (.inl (fun _ => 0))))) 127 (.inl (X.2.2.1 1, 760, .inr (.inl (fun _ => 0))))) 0 (.inr (11, [.ref (X.1 + 1), .ref (X.1 + 5), .ref (X.1 + 33), .ref (X.1 + 37), .ref (X.1 + 44), .int (-1)])))
def e3 (X : zX) : Nat → va_E := va_up (e2 X) 128 (.inr (12, [.null, .null, .null, .null, .null, .null, .null, .null, .null, .null, .int 0, .int 0, .int 0, .null, .null, .null, .null, .null, .int 0, .int 0, .int 0, .int 0, .int 0, .int 0, .int 0, .int 0, .null, .null, .null, .null, .null, .null, .null, .null, .null, .null, .null, .null, .null, .null, .null, .null, .null, .null, .null, .null, .null, .null, .null, .null, .null, .null, .null, .null, .null, .null, .int 0, .null, .int 0, .int 0, .int 0, .null, .int 0, .long 0, .long 0, .int 0, .int 0, .int 0, .null, .null, .null, .null, .null, .int 0, .int 0, .int 0, .int 0, .int 0, .null, .long 0, .long 0, .long 0, .long 0, .int 0, .int 0]))
def e9 (X : zX) : Nat → va_E := (va_up (va_up (va_up (va_up (va_up (va_up (va_up (va_up (va_up (va_up (va_up (va_up (va_up (va_up (va_up (va_up (va_up (va_up (va_up (va_up (va_up (va_up (va_up (va_up (va_up (va_up (va_up (va_up (va_up (va_up (va_up (va_up (va_up (va_up (va_up (va_up (va_up (va_up (va_up (va_up (va_up (va_up (va_up (va_up (va_up (va_up (va_up (va_up (va_up (va_up (va_up (va_up (va_up (va_up (e3 X) 129 (.inl (X.2.2.1 0, 12, .inl (upd (upd (upd (upd (upd (upd (upd (upd (upd (upd (upd (upd (fun _ => 0) 0 6) 1 2) 2 10) 3 2) 4 10) 5 2) 6 5) 7 5) 8 2) 9 5) 10 2) 11 5)))) 130 (.inl (X.2.2.1 0, 13, .inl (fun _ => 0)))) 131 (.inl (X.2.2.1 0, 13, .inl (fun _ => 0)))) 132 (.inl (X.2.2.1 0, 13, .inl (fun _ => 0)))) 133 (.inl (X.2.2.1 0, 601, .inl (fun _ => 0)))) 134 (.inl (X.2.2.1 0, 601, .inl (fun _ => 0)))) 135 (.inl (X.2.2.1 0, 20, .inl (fun _ => 0)))) 136 (.inl (X.2.2.1 0, 240, .inl (fun _ => 0)))) 137 (.inl (X.2.2.1 0, 240, .inl (fun _ => 0)))) 138 (.inl (X.2.2.1 0, 6, .inl (upd (upd (upd (upd (upd (upd (fun _ => 0) 0 1) 1 12) 2 240) 3 4800) 4 24000) 5 240000)))) 139 (.inl (X.2.2.1 0, 169, .inl (fun _ => 0)))) 140 (.inl (X.2.2.1 0, 11264, .inl (fun _ => 0)))) 141 (.inl (X.2.2.1 0, 10, .inl (fun _ => 0)))) 142 (.inl (X.2.2.1 0, 100, .inl (fun _ => 0)))) 143 (.inl (X.2.2.1 0, 600, .inl (fun _ => 0)))) 144 (.inl (X.2.2.1 2, 4, .inl (upd (upd (upd (upd (fun _ => 0) 0 102) 1 97) 2 114) 3 109)))) 145 (.inl (X.2.2.1 2, 8, .inl (upd (upd (upd (upd (upd (upd (upd (upd (fun _ => 0) 0 98) 1 108) 2 97) 3 110) 4 99) 5 104) 6 101) 7 100)))) 146 (.inl (X.2.2.1 2, 5, .inl (upd (upd (upd (upd (upd (fun _ => 0) 0 97) 1 108) 2 108) 3 111) 4 119)))) 147 (.inl (X.2.2.1 2, 6, .inl (upd (upd (upd (upd (upd (upd (fun _ => 0) 0 112) 1 97) 2 114) 3 100) 4 111) 5 110)))) 148 (.inl (X.2.2.1 2, 5, .inl (upd (upd (upd (upd (upd (fun _ => 0) 0 115) 1 112) 2 108) 3 105) 4 116)))) 149 (.inl (X.2.2.1 2, 2, .inl (upd (upd (fun _ => 0) 0 105) 1 110)))) 150 (.inl (X.2.2.1 2, 3, .inl (upd (upd (upd (fun _ => 0) 0 102) 1 111) 2 114)))) 151 (.inl (X.2.2.1 2, 2, .inl (upd (upd (fun _ => 0) 0 111) 1 114)))) 152 (.inl (X.2.2.1 2, 3, .inl (upd (upd (upd (fun _ => 0) 0 97) 1 110) 2 100)))) 153 (.inl (X.2.2.1 2, 3, .inl (upd (upd (upd (fun _ => 0) 0 110) 1 111) 2 116)))) 154 (.inl (X.2.2.1 2, 3, .inl (upd (upd (upd (fun _ => 0) 0 97) 1 108) 2 108)))) 155 (.inl (X.2.2.1 2, 5, .inl (upd (upd (upd (upd (upd (fun _ => 0) 0 115) 1 104) 2 105) 3 114) 4 101)))) 156 (.inl (X.2.2.1 2, 5, .inl (upd (upd (upd (upd (upd (fun _ => 0) 0 112) 1 101) 2 110) 3 99) 4 101)))) 157 (.inl (X.2.2.1 2, 9, .inl (upd (upd (upd (upd (upd (upd (upd (upd (upd (fun _ => 0) 0 115) 1 104) 2 105) 3 108) 4 108) 5 105) 6 110) 7 103) 8 115)))) 158 (.inl (X.2.2.1 2, 6, .inl (upd (upd (upd (upd (upd (upd (fun _ => 0) 0 112) 1 111) 2 117) 3 110) 4 100) 5 115)))) 159 (.inl (X.2.2.1 2, 4, .inl (upd (upd (upd (upd (fun _ => 0) 0 116) 1 101) 2 114) 3 109)))) 160 (.inl (X.2.2.1 2, 4, .inl (upd (upd (upd (upd (fun _ => 0) 0 121) 1 101) 2 97) 3 114)))) 161 (.inl (X.2.2.1 2, 4, .inl (upd (upd (upd (upd (fun _ => 0) 0 100) 1 101) 2 98) 3 116)))) 162 (.inl (X.2.2.1 2, 4, .inl (upd (upd (upd (upd (fun _ => 0) 0 112) 1 97) 2 105) 3 100)))) 163 (.inl (X.2.2.1 2, 3, .inl (upd (upd (upd (fun _ => 0) 0 109) 1 105) 2 110)))) 164 (.inl (X.2.2.1 2, 3, .inl (upd (upd (upd (fun _ => 0) 0 109) 1 97) 2 120)))) 165 (.inl (X.2.2.1 0, 201, .inl (fun _ => 0)))) 166 (.inl (X.2.2.1 0, 4824, .inl (fun _ => 0)))) 167 (.inl (X.2.2.1 3, 4824, .inl (fun _ => 0)))) 168 (.inl (X.2.2.1 0, 4824, .inl (fun _ => 0)))) 169 (.inl (X.2.2.1 0, 4824, .inl (fun _ => 0)))) 170 (.inl (X.2.2.1 0, 4824, .inl (fun _ => 0)))) 171 (.inl (X.2.2.1 0, 4824, .inl (fun _ => 0)))) 172 (.inl (X.2.2.1 0, 4824, .inl (fun _ => 0)))) 173 (.inl (X.2.2.1 0, 128640, .inl (fun _ => 0)))) 174 (.inl (X.2.2.1 0, 700, .inl (fun _ => 0)))) 175 (.inl (X.2.2.1 1, 700, .inr (.inl (fun _ => 0))))) 176 (.inl (X.2.2.1 0, 201, .inl (fun _ => 0)))) 177 (.inl (X.2.2.1 0, 201, .inl (fun _ => 0)))) 178 (.inl (X.2.2.1 0, 201, .inl (fun _ => 0)))) 179 (.inl (X.2.2.1 0, 201, .inl (fun _ => 0)))) 180 (.inl (X.2.2.1 0, 201, .inl (fun _ => 0)))) 181 (.inl (X.2.2.1 1, 60, .inr (.inl (fun _ => 0))))) 128 (.inr (12, [.ref (X.1 + 129), .ref (X.1 + 130), .ref (X.1 + 131), .ref (X.1 + 132), .ref (X.1 + 133), .ref (X.1 + 134), .ref (X.1 + 135), .ref (X.1 + 136), .ref (X.1 + 137), .ref (X.1 + 138), .int 3, .int 8, .int 20, .ref (X.1 + 139), .ref (X.1 + 140), .ref (X.1 + 141), .ref (X.1 + 142), .ref (X.1 + 143), .int 0, .int 0, .int 0, .int 0, .int 0, .int 0, .int 0, .int (-1), .ref (X.1 + 144), .ref (X.1 + 145), .ref (X.1 + 146), .ref (X.1 + 147), .ref (X.1 + 148), .ref (X.1 + 149), .ref (X.1 + 150), .ref (X.1 + 151), .ref (X.1 + 152), .ref (X.1 + 153), .ref (X.1 + 154), .ref (X.1 + 155), .ref (X.1 + 156), .ref (X.1 + 157), .ref (X.1 + 158), .ref (X.1 + 159), .ref (X.1 + 160), .ref (X.1 + 161), .ref (X.1 + 162), .ref (X.1 + 163), .ref (X.1 + 164), .ref (X.1 + 165), .ref (X.1 + 166), .ref (X.1 + 167), .ref (X.1 + 168), .ref (X.1 + 169), .ref (X.1 + 170), .ref (X.1 + 171), .ref (X.1 + 172), .ref (X.1 + 173), .int 0, .ref (X.1 + 174), .int 0, .int 0, .int 0, .ref (X.1 + 175), .int 0, .long 0, .long 0, .int 0, .int 0, .int 0, .ref (X.1 + 176), .ref (X.1 + 177), .ref (X.1 + 178), .ref (X.1 + 179), .ref (X.1 + 180), .int (-1), .int 0, .int 0, .int 0, .int 0, .ref (X.1 + 181), .long 0, .long 0, .long 0, .long 0, .int 0, .int (-1)])))
def eD : zD := (0, fun _ => 0, fun _ => 0, fun _ _ => 0, fun _ _ => none)
theorem in_f45 (X : zX) : ((va_up (va_up (va_up (va_up (va_up (va_up (va_up (va_up (fun _ => none) 0 (some (X.1 + 58))) 1 (some (X.1 + 65))) 2 (some (X.1 + 72))) 3 (some (X.1 + 79))) 4 (some (X.1 + 86))) 5 (some (X.1 + 93))) 6 (some (X.1 + 100))) 7 (some (X.1 + 107))) : Nat → Option Nat) = fun q => if q < 8 then some (X.1 + (58 + 7 * q)) else none := by
  funext q
  by_cases h : q < 8
  · rw [if_pos h]
    obtain rfl | rfl | rfl | rfl | rfl | rfl | rfl | rfl : q = 0 ∨ q = 1 ∨ q = 2 ∨ q = 3 ∨ q = 4 ∨ q = 5 ∨ q = 6 ∨ q = 7 := by omega
    all_goals rfl
  · rw [if_neg h]
    repeat rw [zup_n (by omega)]
theorem in_45 (X : zX) : e9 X 45 = zF X 45 (eI (e9 X 45)) (eJ (e9 X 45)) (fun _ => none) := by
  show (Sum.inl (X.2.2.1 4, 8, .inr (.inr (.inr (.inr (va_up (va_up (va_up (va_up (va_up (va_up (va_up (va_up (fun _ => none) 0 (some (X.1 + 58))) 1 (some (X.1 + 65))) 2 (some (X.1 + 72))) 3 (some (X.1 + 79))) 4 (some (X.1 + 86))) 5 (some (X.1 + 93))) 6 (some (X.1 + 100))) 7 (some (X.1 + 107))))))) : va_E) = Sum.inl (X.2.2.1 4, 8, .inr (.inr (.inr (.inr (fun q => if q < 8 then some (X.1 + (58 + 7 * q)) else none)))))
  rw [in_f45]
theorem in_0 (X : zX) : e9 X 0 = zF X 0 (eI (e9 X 0)) (eJ (e9 X 0)) (fun _ => none) := rfl
theorem in_1 (X : zX) : e9 X 1 = zF X 1 (eI (e9 X 1)) (eJ (e9 X 1)) (fun _ => none) := rfl
theorem in_2 (X : zX) : e9 X 2 = zF X 2 (eI (e9 X 2)) (eJ (e9 X 2)) (fun _ => none) := rfl
theorem in_3 (X : zX) : e9 X 3 = zF X 3 (eI (e9 X 3)) (eJ (e9 X 3)) (fun _ => none) := rfl
theorem in_4 (X : zX) : e9 X 4 = zF X 4 (eI (e9 X 4)) (eJ (e9 X 4)) (fun _ => none) := rfl
theorem in_5 (X : zX) : e9 X 5 = zF X 5 (eI (e9 X 5)) (eJ (e9 X 5)) (fun _ => none) := rfl
theorem in_6 (X : zX) : e9 X 6 = zF X 6 (eI (e9 X 6)) (eJ (e9 X 6)) (fun _ => none) := rfl
theorem in_7 (X : zX) : e9 X 7 = zF X 7 (eI (e9 X 7)) (eJ (e9 X 7)) (fun _ => none) := rfl
theorem in_8 (X : zX) : e9 X 8 = zF X 8 (eI (e9 X 8)) (eJ (e9 X 8)) (fun _ => none) := rfl
theorem in_9 (X : zX) : e9 X 9 = zF X 9 (eI (e9 X 9)) (eJ (e9 X 9)) (fun _ => none) := rfl
theorem in_10 (X : zX) : e9 X 10 = zF X 10 (eI (e9 X 10)) (eJ (e9 X 10)) (fun _ => none) := rfl
theorem in_11 (X : zX) : e9 X 11 = zF X 11 (eI (e9 X 11)) (eJ (e9 X 11)) (fun _ => none) := rfl
theorem in_12 (X : zX) : e9 X 12 = zF X 12 (eI (e9 X 12)) (eJ (e9 X 12)) (fun _ => none) := rfl
theorem in_13 (X : zX) : e9 X 13 = zF X 13 (eI (e9 X 13)) (eJ (e9 X 13)) (fun _ => none) := rfl
theorem in_14 (X : zX) : e9 X 14 = zF X 14 (eI (e9 X 14)) (eJ (e9 X 14)) (fun _ => none) := rfl
theorem in_15 (X : zX) : e9 X 15 = zF X 15 (eI (e9 X 15)) (eJ (e9 X 15)) (fun _ => none) := rfl
theorem in_16 (X : zX) : e9 X 16 = zF X 16 (eI (e9 X 16)) (eJ (e9 X 16)) (fun _ => none) := rfl
theorem in_17 (X : zX) : e9 X 17 = zF X 17 (eI (e9 X 17)) (eJ (e9 X 17)) (fun _ => none) := rfl
theorem in_18 (X : zX) : e9 X 18 = zF X 18 (eI (e9 X 18)) (eJ (e9 X 18)) (fun _ => none) := rfl
theorem in_19 (X : zX) : e9 X 19 = zF X 19 (eI (e9 X 19)) (eJ (e9 X 19)) (fun _ => none) := rfl
theorem in_20 (X : zX) : e9 X 20 = zF X 20 (eI (e9 X 20)) (eJ (e9 X 20)) (fun _ => none) := rfl
theorem in_21 (X : zX) : e9 X 21 = zF X 21 (eI (e9 X 21)) (eJ (e9 X 21)) (fun _ => none) := rfl
theorem in_22 (X : zX) : e9 X 22 = zF X 22 (eI (e9 X 22)) (eJ (e9 X 22)) (fun _ => none) := rfl
theorem in_23 (X : zX) : e9 X 23 = zF X 23 (eI (e9 X 23)) (eJ (e9 X 23)) (fun _ => none) := rfl
theorem in_24 (X : zX) : e9 X 24 = zF X 24 (eI (e9 X 24)) (eJ (e9 X 24)) (fun _ => none) := rfl
theorem in_25 (X : zX) : e9 X 25 = zF X 25 (eI (e9 X 25)) (eJ (e9 X 25)) (fun _ => none) := rfl
theorem in_26 (X : zX) : e9 X 26 = zF X 26 (eI (e9 X 26)) (eJ (e9 X 26)) (fun _ => none) := rfl
theorem in_27 (X : zX) : e9 X 27 = zF X 27 (eI (e9 X 27)) (eJ (e9 X 27)) (fun _ => none) := rfl
theorem in_28 (X : zX) : e9 X 28 = zF X 28 (eI (e9 X 28)) (eJ (e9 X 28)) (fun _ => none) := rfl
theorem in_29 (X : zX) : e9 X 29 = zF X 29 (eI (e9 X 29)) (eJ (e9 X 29)) (fun _ => none) := rfl
theorem in_30 (X : zX) : e9 X 30 = zF X 30 (eI (e9 X 30)) (eJ (e9 X 30)) (fun _ => none) := rfl
theorem in_31 (X : zX) : e9 X 31 = zF X 31 (eI (e9 X 31)) (eJ (e9 X 31)) (fun _ => none) := rfl
theorem in_32 (X : zX) : e9 X 32 = zF X 32 (eI (e9 X 32)) (eJ (e9 X 32)) (fun _ => none) := rfl
theorem in_33 (X : zX) : e9 X 33 = zF X 33 (eI (e9 X 33)) (eJ (e9 X 33)) (fun _ => none) := rfl
theorem in_34 (X : zX) : e9 X 34 = zF X 34 (eI (e9 X 34)) (eJ (e9 X 34)) (fun _ => none) := rfl
theorem in_35 (X : zX) : e9 X 35 = zF X 35 (eI (e9 X 35)) (eJ (e9 X 35)) (fun _ => none) := rfl
theorem in_36 (X : zX) : e9 X 36 = zF X 36 (eI (e9 X 36)) (eJ (e9 X 36)) (fun _ => none) := rfl
theorem in_37 (X : zX) : e9 X 37 = zF X 37 (eI (e9 X 37)) (eJ (e9 X 37)) (fun _ => none) := rfl
theorem in_38 (X : zX) : e9 X 38 = zF X 38 (eI (e9 X 38)) (eJ (e9 X 38)) (fun _ => none) := rfl
theorem in_39 (X : zX) : e9 X 39 = zF X 39 (eI (e9 X 39)) (eJ (e9 X 39)) (fun _ => none) := rfl
theorem in_40 (X : zX) : e9 X 40 = zF X 40 (eI (e9 X 40)) (eJ (e9 X 40)) (fun _ => none) := rfl
theorem in_41 (X : zX) : e9 X 41 = zF X 41 (eI (e9 X 41)) (eJ (e9 X 41)) (fun _ => none) := rfl
theorem in_42 (X : zX) : e9 X 42 = zF X 42 (eI (e9 X 42)) (eJ (e9 X 42)) (fun _ => none) := rfl
theorem in_43 (X : zX) : e9 X 43 = zF X 43 (eI (e9 X 43)) (eJ (e9 X 43)) (fun _ => none) := rfl
theorem in_44 (X : zX) : e9 X 44 = zF X 44 (eI (e9 X 44)) (eJ (e9 X 44)) (fun _ => none) := rfl
theorem in_46 (X : zX) : e9 X 46 = zF X 46 (eI (e9 X 46)) (eJ (e9 X 46)) (fun _ => none) := rfl
theorem in_47 (X : zX) : e9 X 47 = zF X 47 (eI (e9 X 47)) (eJ (e9 X 47)) (fun _ => none) := rfl
theorem in_48 (X : zX) : e9 X 48 = zF X 48 (eI (e9 X 48)) (eJ (e9 X 48)) (fun _ => none) := rfl
theorem in_49 (X : zX) : e9 X 49 = zF X 49 (eI (e9 X 49)) (eJ (e9 X 49)) (fun _ => none) := rfl
theorem in_50 (X : zX) : e9 X 50 = zF X 50 (eI (e9 X 50)) (eJ (e9 X 50)) (fun _ => none) := rfl
theorem in_51 (X : zX) : e9 X 51 = zF X 51 (eI (e9 X 51)) (eJ (e9 X 51)) (fun _ => none) := rfl
theorem in_52 (X : zX) : e9 X 52 = zF X 52 (eI (e9 X 52)) (eJ (e9 X 52)) (fun _ => none) := rfl
theorem in_53 (X : zX) : e9 X 53 = zF X 53 (eI (e9 X 53)) (eJ (e9 X 53)) (fun _ => none) := rfl
theorem in_54 (X : zX) : e9 X 54 = zF X 54 (eI (e9 X 54)) (eJ (e9 X 54)) (fun _ => none) := rfl
theorem in_55 (X : zX) : e9 X 55 = zF X 55 (eI (e9 X 55)) (eJ (e9 X 55)) (fun _ => none) := rfl
theorem in_56 (X : zX) : e9 X 56 = zF X 56 (eI (e9 X 56)) (eJ (e9 X 56)) (fun _ => none) := rfl
theorem in_57 (X : zX) : e9 X 57 = zF X 57 (eI (e9 X 57)) (eJ (e9 X 57)) (fun _ => none) := rfl
theorem in_58 (X : zX) : e9 X 58 = zF X 58 (eI (e9 X 58)) (eJ (e9 X 58)) (fun _ => none) := rfl
theorem in_59 (X : zX) : e9 X 59 = zF X 59 (eI (e9 X 59)) (eJ (e9 X 59)) (fun _ => none) := rfl
theorem in_60 (X : zX) : e9 X 60 = zF X 60 (eI (e9 X 60)) (eJ (e9 X 60)) (fun _ => none) := rfl
theorem in_61 (X : zX) : e9 X 61 = zF X 61 (eI (e9 X 61)) (eJ (e9 X 61)) (fun _ => none) := rfl
theorem in_62 (X : zX) : e9 X 62 = zF X 62 (eI (e9 X 62)) (eJ (e9 X 62)) (fun _ => none) := rfl
theorem in_63 (X : zX) : e9 X 63 = zF X 63 (eI (e9 X 63)) (eJ (e9 X 63)) (fun _ => none) := rfl
theorem in_64 (X : zX) : e9 X 64 = zF X 64 (eI (e9 X 64)) (eJ (e9 X 64)) (fun _ => none) := rfl
theorem in_65 (X : zX) : e9 X 65 = zF X 65 (eI (e9 X 65)) (eJ (e9 X 65)) (fun _ => none) := rfl
theorem in_66 (X : zX) : e9 X 66 = zF X 66 (eI (e9 X 66)) (eJ (e9 X 66)) (fun _ => none) := rfl
theorem in_67 (X : zX) : e9 X 67 = zF X 67 (eI (e9 X 67)) (eJ (e9 X 67)) (fun _ => none) := rfl
theorem in_68 (X : zX) : e9 X 68 = zF X 68 (eI (e9 X 68)) (eJ (e9 X 68)) (fun _ => none) := rfl
theorem in_69 (X : zX) : e9 X 69 = zF X 69 (eI (e9 X 69)) (eJ (e9 X 69)) (fun _ => none) := rfl
theorem in_70 (X : zX) : e9 X 70 = zF X 70 (eI (e9 X 70)) (eJ (e9 X 70)) (fun _ => none) := rfl
theorem in_71 (X : zX) : e9 X 71 = zF X 71 (eI (e9 X 71)) (eJ (e9 X 71)) (fun _ => none) := rfl
theorem in_72 (X : zX) : e9 X 72 = zF X 72 (eI (e9 X 72)) (eJ (e9 X 72)) (fun _ => none) := rfl
theorem in_73 (X : zX) : e9 X 73 = zF X 73 (eI (e9 X 73)) (eJ (e9 X 73)) (fun _ => none) := rfl
theorem in_74 (X : zX) : e9 X 74 = zF X 74 (eI (e9 X 74)) (eJ (e9 X 74)) (fun _ => none) := rfl
theorem in_75 (X : zX) : e9 X 75 = zF X 75 (eI (e9 X 75)) (eJ (e9 X 75)) (fun _ => none) := rfl
theorem in_76 (X : zX) : e9 X 76 = zF X 76 (eI (e9 X 76)) (eJ (e9 X 76)) (fun _ => none) := rfl
theorem in_77 (X : zX) : e9 X 77 = zF X 77 (eI (e9 X 77)) (eJ (e9 X 77)) (fun _ => none) := rfl
theorem in_78 (X : zX) : e9 X 78 = zF X 78 (eI (e9 X 78)) (eJ (e9 X 78)) (fun _ => none) := rfl
theorem in_79 (X : zX) : e9 X 79 = zF X 79 (eI (e9 X 79)) (eJ (e9 X 79)) (fun _ => none) := rfl
theorem in_80 (X : zX) : e9 X 80 = zF X 80 (eI (e9 X 80)) (eJ (e9 X 80)) (fun _ => none) := rfl
theorem in_81 (X : zX) : e9 X 81 = zF X 81 (eI (e9 X 81)) (eJ (e9 X 81)) (fun _ => none) := rfl
theorem in_82 (X : zX) : e9 X 82 = zF X 82 (eI (e9 X 82)) (eJ (e9 X 82)) (fun _ => none) := rfl
theorem in_83 (X : zX) : e9 X 83 = zF X 83 (eI (e9 X 83)) (eJ (e9 X 83)) (fun _ => none) := rfl
theorem in_84 (X : zX) : e9 X 84 = zF X 84 (eI (e9 X 84)) (eJ (e9 X 84)) (fun _ => none) := rfl
theorem in_85 (X : zX) : e9 X 85 = zF X 85 (eI (e9 X 85)) (eJ (e9 X 85)) (fun _ => none) := rfl
theorem in_86 (X : zX) : e9 X 86 = zF X 86 (eI (e9 X 86)) (eJ (e9 X 86)) (fun _ => none) := rfl
theorem in_87 (X : zX) : e9 X 87 = zF X 87 (eI (e9 X 87)) (eJ (e9 X 87)) (fun _ => none) := rfl
theorem in_88 (X : zX) : e9 X 88 = zF X 88 (eI (e9 X 88)) (eJ (e9 X 88)) (fun _ => none) := rfl
theorem in_89 (X : zX) : e9 X 89 = zF X 89 (eI (e9 X 89)) (eJ (e9 X 89)) (fun _ => none) := rfl
theorem in_90 (X : zX) : e9 X 90 = zF X 90 (eI (e9 X 90)) (eJ (e9 X 90)) (fun _ => none) := rfl
theorem in_91 (X : zX) : e9 X 91 = zF X 91 (eI (e9 X 91)) (eJ (e9 X 91)) (fun _ => none) := rfl
theorem in_92 (X : zX) : e9 X 92 = zF X 92 (eI (e9 X 92)) (eJ (e9 X 92)) (fun _ => none) := rfl
theorem in_93 (X : zX) : e9 X 93 = zF X 93 (eI (e9 X 93)) (eJ (e9 X 93)) (fun _ => none) := rfl
theorem in_94 (X : zX) : e9 X 94 = zF X 94 (eI (e9 X 94)) (eJ (e9 X 94)) (fun _ => none) := rfl
theorem in_95 (X : zX) : e9 X 95 = zF X 95 (eI (e9 X 95)) (eJ (e9 X 95)) (fun _ => none) := rfl
theorem in_96 (X : zX) : e9 X 96 = zF X 96 (eI (e9 X 96)) (eJ (e9 X 96)) (fun _ => none) := rfl
theorem in_97 (X : zX) : e9 X 97 = zF X 97 (eI (e9 X 97)) (eJ (e9 X 97)) (fun _ => none) := rfl
theorem in_98 (X : zX) : e9 X 98 = zF X 98 (eI (e9 X 98)) (eJ (e9 X 98)) (fun _ => none) := rfl
theorem in_99 (X : zX) : e9 X 99 = zF X 99 (eI (e9 X 99)) (eJ (e9 X 99)) (fun _ => none) := rfl
theorem in_100 (X : zX) : e9 X 100 = zF X 100 (eI (e9 X 100)) (eJ (e9 X 100)) (fun _ => none) := rfl
theorem in_101 (X : zX) : e9 X 101 = zF X 101 (eI (e9 X 101)) (eJ (e9 X 101)) (fun _ => none) := rfl
theorem in_102 (X : zX) : e9 X 102 = zF X 102 (eI (e9 X 102)) (eJ (e9 X 102)) (fun _ => none) := rfl
theorem in_103 (X : zX) : e9 X 103 = zF X 103 (eI (e9 X 103)) (eJ (e9 X 103)) (fun _ => none) := rfl
theorem in_104 (X : zX) : e9 X 104 = zF X 104 (eI (e9 X 104)) (eJ (e9 X 104)) (fun _ => none) := rfl
theorem in_105 (X : zX) : e9 X 105 = zF X 105 (eI (e9 X 105)) (eJ (e9 X 105)) (fun _ => none) := rfl
theorem in_106 (X : zX) : e9 X 106 = zF X 106 (eI (e9 X 106)) (eJ (e9 X 106)) (fun _ => none) := rfl
theorem in_107 (X : zX) : e9 X 107 = zF X 107 (eI (e9 X 107)) (eJ (e9 X 107)) (fun _ => none) := rfl
theorem in_108 (X : zX) : e9 X 108 = zF X 108 (eI (e9 X 108)) (eJ (e9 X 108)) (fun _ => none) := rfl
theorem in_109 (X : zX) : e9 X 109 = zF X 109 (eI (e9 X 109)) (eJ (e9 X 109)) (fun _ => none) := rfl
theorem in_110 (X : zX) : e9 X 110 = zF X 110 (eI (e9 X 110)) (eJ (e9 X 110)) (fun _ => none) := rfl
theorem in_111 (X : zX) : e9 X 111 = zF X 111 (eI (e9 X 111)) (eJ (e9 X 111)) (fun _ => none) := rfl
theorem in_112 (X : zX) : e9 X 112 = zF X 112 (eI (e9 X 112)) (eJ (e9 X 112)) (fun _ => none) := rfl
theorem in_113 (X : zX) : e9 X 113 = zF X 113 (eI (e9 X 113)) (eJ (e9 X 113)) (fun _ => none) := rfl
theorem in_114 (X : zX) : e9 X 114 = zF X 114 (eI (e9 X 114)) (eJ (e9 X 114)) (fun _ => none) := rfl
theorem in_115 (X : zX) : e9 X 115 = zF X 115 (eI (e9 X 115)) (eJ (e9 X 115)) (fun _ => none) := rfl
theorem in_116 (X : zX) : e9 X 116 = zF X 116 (eI (e9 X 116)) (eJ (e9 X 116)) (fun _ => none) := rfl
theorem in_117 (X : zX) : e9 X 117 = zF X 117 (eI (e9 X 117)) (eJ (e9 X 117)) (fun _ => none) := rfl
theorem in_118 (X : zX) : e9 X 118 = zF X 118 (eI (e9 X 118)) (eJ (e9 X 118)) (fun _ => none) := rfl
theorem in_119 (X : zX) : e9 X 119 = zF X 119 (eI (e9 X 119)) (eJ (e9 X 119)) (fun _ => none) := rfl
theorem in_120 (X : zX) : e9 X 120 = zF X 120 (eI (e9 X 120)) (eJ (e9 X 120)) (fun _ => none) := rfl
theorem in_121 (X : zX) : e9 X 121 = zF X 121 (eI (e9 X 121)) (eJ (e9 X 121)) (fun _ => none) := rfl
theorem in_122 (X : zX) : e9 X 122 = zF X 122 (eI (e9 X 122)) (eJ (e9 X 122)) (fun _ => none) := rfl
theorem in_123 (X : zX) : e9 X 123 = zF X 123 (eI (e9 X 123)) (eJ (e9 X 123)) (fun _ => none) := rfl
theorem in_124 (X : zX) : e9 X 124 = zF X 124 (eI (e9 X 124)) (eJ (e9 X 124)) (fun _ => none) := rfl
theorem in_125 (X : zX) : e9 X 125 = zF X 125 (eI (e9 X 125)) (eJ (e9 X 125)) (fun _ => none) := rfl
theorem in_126 (X : zX) : e9 X 126 = zF X 126 (eI (e9 X 126)) (eJ (e9 X 126)) (fun _ => none) := rfl
theorem in_127 (X : zX) : e9 X 127 = zF X 127 (eI (e9 X 127)) (eJ (e9 X 127)) (fun _ => none) := rfl
theorem in_128 (X : zX) : e9 X 128 = zF X 128 (eI (e9 X 128)) (eJ (e9 X 128)) (fun _ => none) := rfl
theorem in_129 (X : zX) : e9 X 129 = zF X 129 (eI (e9 X 129)) (eJ (e9 X 129)) (fun _ => none) := rfl
theorem in_130 (X : zX) : e9 X 130 = zF X 130 (eI (e9 X 130)) (eJ (e9 X 130)) (fun _ => none) := rfl
theorem in_131 (X : zX) : e9 X 131 = zF X 131 (eI (e9 X 131)) (eJ (e9 X 131)) (fun _ => none) := rfl
theorem in_132 (X : zX) : e9 X 132 = zF X 132 (eI (e9 X 132)) (eJ (e9 X 132)) (fun _ => none) := rfl
theorem in_133 (X : zX) : e9 X 133 = zF X 133 (eI (e9 X 133)) (eJ (e9 X 133)) (fun _ => none) := rfl
theorem in_134 (X : zX) : e9 X 134 = zF X 134 (eI (e9 X 134)) (eJ (e9 X 134)) (fun _ => none) := rfl
theorem in_135 (X : zX) : e9 X 135 = zF X 135 (eI (e9 X 135)) (eJ (e9 X 135)) (fun _ => none) := rfl
theorem in_136 (X : zX) : e9 X 136 = zF X 136 (eI (e9 X 136)) (eJ (e9 X 136)) (fun _ => none) := rfl
theorem in_137 (X : zX) : e9 X 137 = zF X 137 (eI (e9 X 137)) (eJ (e9 X 137)) (fun _ => none) := rfl
theorem in_138 (X : zX) : e9 X 138 = zF X 138 (eI (e9 X 138)) (eJ (e9 X 138)) (fun _ => none) := rfl
theorem in_139 (X : zX) : e9 X 139 = zF X 139 (eI (e9 X 139)) (eJ (e9 X 139)) (fun _ => none) := rfl
theorem in_140 (X : zX) : e9 X 140 = zF X 140 (eI (e9 X 140)) (eJ (e9 X 140)) (fun _ => none) := rfl
theorem in_141 (X : zX) : e9 X 141 = zF X 141 (eI (e9 X 141)) (eJ (e9 X 141)) (fun _ => none) := rfl
theorem in_142 (X : zX) : e9 X 142 = zF X 142 (eI (e9 X 142)) (eJ (e9 X 142)) (fun _ => none) := rfl
theorem in_143 (X : zX) : e9 X 143 = zF X 143 (eI (e9 X 143)) (eJ (e9 X 143)) (fun _ => none) := rfl
theorem in_144 (X : zX) : e9 X 144 = zF X 144 (eI (e9 X 144)) (eJ (e9 X 144)) (fun _ => none) := rfl
theorem in_145 (X : zX) : e9 X 145 = zF X 145 (eI (e9 X 145)) (eJ (e9 X 145)) (fun _ => none) := rfl
theorem in_146 (X : zX) : e9 X 146 = zF X 146 (eI (e9 X 146)) (eJ (e9 X 146)) (fun _ => none) := rfl
theorem in_147 (X : zX) : e9 X 147 = zF X 147 (eI (e9 X 147)) (eJ (e9 X 147)) (fun _ => none) := rfl
theorem in_148 (X : zX) : e9 X 148 = zF X 148 (eI (e9 X 148)) (eJ (e9 X 148)) (fun _ => none) := rfl
theorem in_149 (X : zX) : e9 X 149 = zF X 149 (eI (e9 X 149)) (eJ (e9 X 149)) (fun _ => none) := rfl
theorem in_150 (X : zX) : e9 X 150 = zF X 150 (eI (e9 X 150)) (eJ (e9 X 150)) (fun _ => none) := rfl
theorem in_151 (X : zX) : e9 X 151 = zF X 151 (eI (e9 X 151)) (eJ (e9 X 151)) (fun _ => none) := rfl
theorem in_152 (X : zX) : e9 X 152 = zF X 152 (eI (e9 X 152)) (eJ (e9 X 152)) (fun _ => none) := rfl
theorem in_153 (X : zX) : e9 X 153 = zF X 153 (eI (e9 X 153)) (eJ (e9 X 153)) (fun _ => none) := rfl
theorem in_154 (X : zX) : e9 X 154 = zF X 154 (eI (e9 X 154)) (eJ (e9 X 154)) (fun _ => none) := rfl
theorem in_155 (X : zX) : e9 X 155 = zF X 155 (eI (e9 X 155)) (eJ (e9 X 155)) (fun _ => none) := rfl
theorem in_156 (X : zX) : e9 X 156 = zF X 156 (eI (e9 X 156)) (eJ (e9 X 156)) (fun _ => none) := rfl
theorem in_157 (X : zX) : e9 X 157 = zF X 157 (eI (e9 X 157)) (eJ (e9 X 157)) (fun _ => none) := rfl
theorem in_158 (X : zX) : e9 X 158 = zF X 158 (eI (e9 X 158)) (eJ (e9 X 158)) (fun _ => none) := rfl
theorem in_159 (X : zX) : e9 X 159 = zF X 159 (eI (e9 X 159)) (eJ (e9 X 159)) (fun _ => none) := rfl
theorem in_160 (X : zX) : e9 X 160 = zF X 160 (eI (e9 X 160)) (eJ (e9 X 160)) (fun _ => none) := rfl
theorem in_161 (X : zX) : e9 X 161 = zF X 161 (eI (e9 X 161)) (eJ (e9 X 161)) (fun _ => none) := rfl
theorem in_162 (X : zX) : e9 X 162 = zF X 162 (eI (e9 X 162)) (eJ (e9 X 162)) (fun _ => none) := rfl
theorem in_163 (X : zX) : e9 X 163 = zF X 163 (eI (e9 X 163)) (eJ (e9 X 163)) (fun _ => none) := rfl
theorem in_164 (X : zX) : e9 X 164 = zF X 164 (eI (e9 X 164)) (eJ (e9 X 164)) (fun _ => none) := rfl
theorem in_165 (X : zX) : e9 X 165 = zF X 165 (eI (e9 X 165)) (eJ (e9 X 165)) (fun _ => none) := rfl
theorem in_166 (X : zX) : e9 X 166 = zF X 166 (eI (e9 X 166)) (eJ (e9 X 166)) (fun _ => none) := rfl
theorem in_167 (X : zX) : e9 X 167 = zF X 167 (eI (e9 X 167)) (eJ (e9 X 167)) (fun _ => none) := rfl
theorem in_168 (X : zX) : e9 X 168 = zF X 168 (eI (e9 X 168)) (eJ (e9 X 168)) (fun _ => none) := rfl
theorem in_169 (X : zX) : e9 X 169 = zF X 169 (eI (e9 X 169)) (eJ (e9 X 169)) (fun _ => none) := rfl
theorem in_170 (X : zX) : e9 X 170 = zF X 170 (eI (e9 X 170)) (eJ (e9 X 170)) (fun _ => none) := rfl
theorem in_171 (X : zX) : e9 X 171 = zF X 171 (eI (e9 X 171)) (eJ (e9 X 171)) (fun _ => none) := rfl
theorem in_172 (X : zX) : e9 X 172 = zF X 172 (eI (e9 X 172)) (eJ (e9 X 172)) (fun _ => none) := rfl
theorem in_173 (X : zX) : e9 X 173 = zF X 173 (eI (e9 X 173)) (eJ (e9 X 173)) (fun _ => none) := rfl
theorem in_174 (X : zX) : e9 X 174 = zF X 174 (eI (e9 X 174)) (eJ (e9 X 174)) (fun _ => none) := rfl
theorem in_175 (X : zX) : e9 X 175 = zF X 175 (eI (e9 X 175)) (eJ (e9 X 175)) (fun _ => none) := rfl
theorem in_176 (X : zX) : e9 X 176 = zF X 176 (eI (e9 X 176)) (eJ (e9 X 176)) (fun _ => none) := rfl
theorem in_177 (X : zX) : e9 X 177 = zF X 177 (eI (e9 X 177)) (eJ (e9 X 177)) (fun _ => none) := rfl
theorem in_178 (X : zX) : e9 X 178 = zF X 178 (eI (e9 X 178)) (eJ (e9 X 178)) (fun _ => none) := rfl
theorem in_179 (X : zX) : e9 X 179 = zF X 179 (eI (e9 X 179)) (eJ (e9 X 179)) (fun _ => none) := rfl
theorem in_180 (X : zX) : e9 X 180 = zF X 180 (eI (e9 X 180)) (eJ (e9 X 180)) (fun _ => none) := rfl
theorem in_181 (X : zX) : e9 X 181 = zF X 181 (eI (e9 X 181)) (eJ (e9 X 181)) (fun _ => none) := rfl
theorem in_all (X : zX) : ∀ k, k < 182 → e9 X k = zF X k (eI (e9 X k)) (eJ (e9 X k)) (fun _ => none) := by
  intro k hk
  match k, hk with
  | 0, _ => exact in_0 X
  | 1, _ => exact in_1 X
  | 2, _ => exact in_2 X
  | 3, _ => exact in_3 X
  | 4, _ => exact in_4 X
  | 5, _ => exact in_5 X
  | 6, _ => exact in_6 X
  | 7, _ => exact in_7 X
  | 8, _ => exact in_8 X
  | 9, _ => exact in_9 X
  | 10, _ => exact in_10 X
  | 11, _ => exact in_11 X
  | 12, _ => exact in_12 X
  | 13, _ => exact in_13 X
  | 14, _ => exact in_14 X
  | 15, _ => exact in_15 X
  | 16, _ => exact in_16 X
  | 17, _ => exact in_17 X
  | 18, _ => exact in_18 X
  | 19, _ => exact in_19 X
  | 20, _ => exact in_20 X
  | 21, _ => exact in_21 X
  | 22, _ => exact in_22 X
  | 23, _ => exact in_23 X
  | 24, _ => exact in_24 X
  | 25, _ => exact in_25 X
  | 26, _ => exact in_26 X
  | 27, _ => exact in_27 X
  | 28, _ => exact in_28 X
  | 29, _ => exact in_29 X
  | 30, _ => exact in_30 X
  | 31, _ => exact in_31 X
  | 32, _ => exact in_32 X
  | 33, _ => exact in_33 X
  | 34, _ => exact in_34 X
  | 35, _ => exact in_35 X
  | 36, _ => exact in_36 X
  | 37, _ => exact in_37 X
  | 38, _ => exact in_38 X
  | 39, _ => exact in_39 X
  | 40, _ => exact in_40 X
  | 41, _ => exact in_41 X
  | 42, _ => exact in_42 X
  | 43, _ => exact in_43 X
  | 44, _ => exact in_44 X
  | 45, _ => exact in_45 X
  | 46, _ => exact in_46 X
  | 47, _ => exact in_47 X
  | 48, _ => exact in_48 X
  | 49, _ => exact in_49 X
  | 50, _ => exact in_50 X
  | 51, _ => exact in_51 X
  | 52, _ => exact in_52 X
  | 53, _ => exact in_53 X
  | 54, _ => exact in_54 X
  | 55, _ => exact in_55 X
  | 56, _ => exact in_56 X
  | 57, _ => exact in_57 X
  | 58, _ => exact in_58 X
  | 59, _ => exact in_59 X
  | 60, _ => exact in_60 X
  | 61, _ => exact in_61 X
  | 62, _ => exact in_62 X
  | 63, _ => exact in_63 X
  | 64, _ => exact in_64 X
  | 65, _ => exact in_65 X
  | 66, _ => exact in_66 X
  | 67, _ => exact in_67 X
  | 68, _ => exact in_68 X
  | 69, _ => exact in_69 X
  | 70, _ => exact in_70 X
  | 71, _ => exact in_71 X
  | 72, _ => exact in_72 X
  | 73, _ => exact in_73 X
  | 74, _ => exact in_74 X
  | 75, _ => exact in_75 X
  | 76, _ => exact in_76 X
  | 77, _ => exact in_77 X
  | 78, _ => exact in_78 X
  | 79, _ => exact in_79 X
  | 80, _ => exact in_80 X
  | 81, _ => exact in_81 X
  | 82, _ => exact in_82 X
  | 83, _ => exact in_83 X
  | 84, _ => exact in_84 X
  | 85, _ => exact in_85 X
  | 86, _ => exact in_86 X
  | 87, _ => exact in_87 X
  | 88, _ => exact in_88 X
  | 89, _ => exact in_89 X
  | 90, _ => exact in_90 X
  | 91, _ => exact in_91 X
  | 92, _ => exact in_92 X
  | 93, _ => exact in_93 X
  | 94, _ => exact in_94 X
  | 95, _ => exact in_95 X
  | 96, _ => exact in_96 X
  | 97, _ => exact in_97 X
  | 98, _ => exact in_98 X
  | 99, _ => exact in_99 X
  | 100, _ => exact in_100 X
  | 101, _ => exact in_101 X
  | 102, _ => exact in_102 X
  | 103, _ => exact in_103 X
  | 104, _ => exact in_104 X
  | 105, _ => exact in_105 X
  | 106, _ => exact in_106 X
  | 107, _ => exact in_107 X
  | 108, _ => exact in_108 X
  | 109, _ => exact in_109 X
  | 110, _ => exact in_110 X
  | 111, _ => exact in_111 X
  | 112, _ => exact in_112 X
  | 113, _ => exact in_113 X
  | 114, _ => exact in_114 X
  | 115, _ => exact in_115 X
  | 116, _ => exact in_116 X
  | 117, _ => exact in_117 X
  | 118, _ => exact in_118 X
  | 119, _ => exact in_119 X
  | 120, _ => exact in_120 X
  | 121, _ => exact in_121 X
  | 122, _ => exact in_122 X
  | 123, _ => exact in_123 X
  | 124, _ => exact in_124 X
  | 125, _ => exact in_125 X
  | 126, _ => exact in_126 X
  | 127, _ => exact in_127 X
  | 128, _ => exact in_128 X
  | 129, _ => exact in_129 X
  | 130, _ => exact in_130 X
  | 131, _ => exact in_131 X
  | 132, _ => exact in_132 X
  | 133, _ => exact in_133 X
  | 134, _ => exact in_134 X
  | 135, _ => exact in_135 X
  | 136, _ => exact in_136 X
  | 137, _ => exact in_137 X
  | 138, _ => exact in_138 X
  | 139, _ => exact in_139 X
  | 140, _ => exact in_140 X
  | 141, _ => exact in_141 X
  | 142, _ => exact in_142 X
  | 143, _ => exact in_143 X
  | 144, _ => exact in_144 X
  | 145, _ => exact in_145 X
  | 146, _ => exact in_146 X
  | 147, _ => exact in_147 X
  | 148, _ => exact in_148 X
  | 149, _ => exact in_149 X
  | 150, _ => exact in_150 X
  | 151, _ => exact in_151 X
  | 152, _ => exact in_152 X
  | 153, _ => exact in_153 X
  | 154, _ => exact in_154 X
  | 155, _ => exact in_155 X
  | 156, _ => exact in_156 X
  | 157, _ => exact in_157 X
  | 158, _ => exact in_158 X
  | 159, _ => exact in_159 X
  | 160, _ => exact in_160 X
  | 161, _ => exact in_161 X
  | 162, _ => exact in_162 X
  | 163, _ => exact in_163 X
  | 164, _ => exact in_164 X
  | 165, _ => exact in_165 X
  | 166, _ => exact in_166 X
  | 167, _ => exact in_167 X
  | 168, _ => exact in_168 X
  | 169, _ => exact in_169 X
  | 170, _ => exact in_170 X
  | 171, _ => exact in_171 X
  | 172, _ => exact in_172 X
  | 173, _ => exact in_173 X
  | 174, _ => exact in_174 X
  | 175, _ => exact in_175 X
  | 176, _ => exact in_176 X
  | 177, _ => exact in_177 X
  | 178, _ => exact in_178 X
  | 179, _ => exact in_179 X
  | 180, _ => exact in_180 X
  | 181, _ => exact in_181 X
  | k + 182, hk => exact absurd hk (by omega)
theorem zb_of_e {C : zC} {cs : Nat × Nat} {pc : Nat} {lv : List (Nat × Value)} {st : List Value} (kk : zB C cs pc lv st (fun k => eI (e9 C.X k), fun k => eJ (e9 C.X k), fun _ _ => none, eD)) : zBe C cs pc lv st (182, e9 C.X) := fun H locs ls hl hW hS => kk H locs ls hl ⟨hW.1, fun k hk => by
    have h := hW.2 k hk
    have h2 : va_at C.X.2.1 vwCl (C.X.1 + k, e9 C.X k) H := h
    rw [in_all C.X k hk] at h2
    exact h2, fun j hj => absurd hj (Nat.not_lt_zero j)⟩ hS
