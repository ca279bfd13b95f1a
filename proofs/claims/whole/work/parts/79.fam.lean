set_option maxHeartbeats 4000000
set_option maxRecDepth 100000
/-! the family of rolls: one roll's cells written behind all others -/
theorem z_two {α : Type} {f : Nat → α} {j k : Nat} {a b c d : α} (h : j ≠ k) : va_up (va_up (va_up (va_up f j a) k b) j c) k d = va_up (va_up f j c) k d := by
  funext n
  by_cases h1 : n = k
  · subst h1
    rw [zup_s, zup_s]
  · rw [zup_n h1, zup_n h1]
    by_cases h2 : n = j
    · subst h2
      rw [zup_s, zup_s]
    · rw [zup_n h2, zup_n h1, zup_n h2, zup_n h2]
theorem z_famI0 {α : Type} {i : Nat} {Z Z2 : Nat → α} {w u u2 a1 a2 a3 a4 a5 a6 a7 a8 a9 a10 a11 a12 a13 a14 a15 : α} (hi : i < 8) (hZ : va_up Z (58 + 7 * i) w = Z2) (hu : u = u2) : va_up (va_up (va_up (va_up (va_up (va_up (va_up (va_up (va_up (va_up (va_up (va_up (va_up (va_up (va_up (va_up (va_up Z (48 + 1) a1) (48 + 2) a2) (48 + 3) a3) (48 + 4) a4) 10 a5) 11 a6) 12 a7) 29 a8) 30 a9) 31 a10) 32 a11) 44 a12) 46 a13) 5 a14) 9 a15) (58 + 7 * i) w) 46 u = (va_up (va_up (va_up (va_up (va_up (va_up (va_up (va_up (va_up (va_up (va_up (va_up (va_up (va_up (va_up Z2 (48 + 1) a1) (48 + 2) a2) (48 + 3) a3) (48 + 4) a4) 10 a5) 11 a6) 12 a7) 29 a8) 30 a9) 31 a10) 32 a11) 44 a12) 46 u2) 5 a14) 9 a15) := by
  subst hZ hu
  funext n
  by_cases h1 : n = 46
  · subst h1
    rw [zup_s, zup_n (by decide), zup_n (by decide), zup_s]
  · rw [zup_n h1]
    by_cases h2 : n = 58 + 7 * i
    · subst h2
      rw [zup_s]
      repeat rw [zup_n (by omega)]
      rw [zup_s]
    · rw [zup_n h2]
      simp only [va_up, h1, h2, if_false]
theorem z_famI {i : Nat} {I : Nat → Nat → Int32} {F F2 : Nat → (Nat → Int32) → (Nat → Int32)} {w u u2 a1 a2 a3 a4 a5 a6 a7 a8 a9 a10 a11 a12 a13 a14 a15 : Nat → Int32} (hi : i < 8) (hw : w = F2 i (I (58 + 7 * i))) (ho : ∀ q a, q ≠ i → F2 q a = F q a) (hu : u = u2) : va_up (va_up (va_up (va_up (va_up (va_up (va_up (va_up (va_up (va_up (va_up (va_up (va_up (va_up (va_up (va_up (va_up (zR 0 I F) (48 + 1) a1) (48 + 2) a2) (48 + 3) a3) (48 + 4) a4) 10 a5) 11 a6) 12 a7) 29 a8) 30 a9) 31 a10) 32 a11) 44 a12) 46 a13) 5 a14) 9 a15) (58 + 7 * i) w) 46 u = (va_up (va_up (va_up (va_up (va_up (va_up (va_up (va_up (va_up (va_up (va_up (va_up (va_up (va_up (va_up (zR 0 I F2) (48 + 1) a1) (48 + 2) a2) (48 + 3) a3) (48 + 4) a4) 10 a5) 11 a6) 12 a7) 29 a8) 30 a9) 31 a10) 32 a11) 44 a12) 46 u2) 5 a14) 9 a15) := z_famI0 hi (zR_up0 hi trivial hw ho) hu
theorem z_famJ0 {α : Type} {i : Nat} {Z Z2 : Nat → α} {w0 w1 w2 w3 w4 w5 w6 u u2 t b1 b2 b3 b4 b5 : α} (hi : i < 8) (hZ : (va_up (va_up (va_up (va_up (va_up (va_up (va_up Z (58 + 7 * i + 1) w1) (58 + 7 * i + 2) w2) (58 + 7 * i + 3) w3) (58 + 7 * i + 4) w4) (58 + 7 * i + 5) w5) (58 + 7 * i + 6) w6) (58 + 7 * i) w0) = Z2) (hu : u = u2) : va_up (va_up (va_up (va_up (va_up (va_up (va_up (va_up (va_up (va_up (va_up (va_up (va_up (va_up Z 26 b1) 27 b2) 28 b3) 46 b4) 47 b5) (58 + 7 * i + 1) w1) (58 + 7 * i + 2) w2) (58 + 7 * i + 3) w3) (58 + 7 * i + 4) w4) (58 + 7 * i + 5) w5) (58 + 7 * i + 6) w6) (58 + 7 * i) w0) 46 u) 47 t = (va_up (va_up (va_up (va_up (va_up Z2 26 b1) 27 b2) 28 b3) 46 u2) 47 t) := by
  subst hZ hu
  funext n
  by_cases h1 : n = 47
  · subst h1
    rw [zup_s, zup_s]
  · by_cases h2 : n = 46
    · subst h2
      rw [zup_n h1, zup_s, zup_n h1, zup_s]
    · rw [zup_n h1, zup_n h2, zup_n h1, zup_n h2]
      by_cases h3 : n < 58
      · have e0 : ¬ n = 58 + 7 * i := by omega
        have e1 : ¬ n = 58 + 7 * i + 1 := by omega
        have e2 : ¬ n = 58 + 7 * i + 2 := by omega
        have e3 : ¬ n = 58 + 7 * i + 3 := by omega
        have e4 : ¬ n = 58 + 7 * i + 4 := by omega
        have e5 : ¬ n = 58 + 7 * i + 5 := by omega
        have e6 : ¬ n = 58 + 7 * i + 6 := by omega
        simp only [va_up, h1, h2, e0, e1, e2, e3, e4, e5, e6, if_false]
      · have e0 : ¬ n = 26 := by omega
        have e1 : ¬ n = 27 := by omega
        have e2 : ¬ n = 28 := by omega
        simp only [va_up, h1, h2, e0, e1, e2, if_false]
theorem z_fam7 {i : Nat} {J : Nat → Nat → Int64} {F F2 : Nat → (Nat → Int64) → (Nat → Int64)} {D1 D2 D3 D4 D5 D6 E1 E2 E3 E4 E5 E6 : Nat → Nat → Int64} {w0 w1 w2 w3 w4 w5 w6 : Nat → Int64} (hi : i < 8) (h0 : w0 = F2 i (J (58 + 7 * i))) (o0 : ∀ q a, q ≠ i → F2 q a = F q a) (h1 : w1 = E1 i) (o1 : ∀ q, q ≠ i → E1 q = D1 q) (h2 : w2 = E2 i) (o2 : ∀ q, q ≠ i → E2 q = D2 q) (h3 : w3 = E3 i) (o3 : ∀ q, q ≠ i → E3 q = D3 q) (h4 : w4 = E4 i) (o4 : ∀ q, q ≠ i → E4 q = D4 q) (h5 : w5 = E5 i) (o5 : ∀ q, q ≠ i → E5 q = D5 q) (h6 : w6 = E6 i) (o6 : ∀ q, q ≠ i → E6 q = D6 q) : (va_up (va_up (va_up (va_up (va_up (va_up (va_up (zR 6 (zR 5 (zR 4 (zR 3 (zR 2 (zR 1 (zR 0 J F) (fun q _ => D1 q)) (fun q _ => D2 q)) (fun q _ => D3 q)) (fun q _ => D4 q)) (fun q _ => D5 q)) (fun q _ => D6 q)) (58 + 7 * i + 1) w1) (58 + 7 * i + 2) w2) (58 + 7 * i + 3) w3) (58 + 7 * i + 4) w4) (58 + 7 * i + 5) w5) (58 + 7 * i + 6) w6) (58 + 7 * i) w0) = (zR 6 (zR 5 (zR 4 (zR 3 (zR 2 (zR 1 (zR 0 J F2) (fun q _ => E1 q)) (fun q _ => E2 q)) (fun q _ => E3 q)) (fun q _ => E4 q)) (fun q _ => E5 q)) (fun q _ => E6 q)) := by
  rw [zR_c (c := 6) (k := 58 + 7 * i + 1) (by omega)]
  rw [zR_c (c := 6) (k := 58 + 7 * i + 2) (by omega)]
  rw [zR_c (c := 6) (k := 58 + 7 * i + 3) (by omega)]
  rw [zR_c (c := 6) (k := 58 + 7 * i + 4) (by omega)]
  rw [zR_c (c := 6) (k := 58 + 7 * i + 5) (by omega)]
  rw [zR_up (c := 6) (h2 := fun q _ => E6 q) hi (by decide) h6 (fun q a hq => o6 q hq)]
  rw [zR_c (c := 6) (k := 58 + 7 * i) (by omega)]
  rw [zR_c (c := 5) (k := 58 + 7 * i + 1) (by omega)]
  rw [zR_c (c := 5) (k := 58 + 7 * i + 2) (by omega)]
  rw [zR_c (c := 5) (k := 58 + 7 * i + 3) (by omega)]
  rw [zR_c (c := 5) (k := 58 + 7 * i + 4) (by omega)]
  rw [zR_up (c := 5) (h2 := fun q _ => E5 q) hi (by decide) h5 (fun q a hq => o5 q hq)]
  rw [zR_c (c := 5) (k := 58 + 7 * i) (by omega)]
  rw [zR_c (c := 4) (k := 58 + 7 * i + 1) (by omega)]
  rw [zR_c (c := 4) (k := 58 + 7 * i + 2) (by omega)]
  rw [zR_c (c := 4) (k := 58 + 7 * i + 3) (by omega)]
  rw [zR_up (c := 4) (h2 := fun q _ => E4 q) hi (by decide) h4 (fun q a hq => o4 q hq)]
  rw [zR_c (c := 4) (k := 58 + 7 * i) (by omega)]
  rw [zR_c (c := 3) (k := 58 + 7 * i + 1) (by omega)]
  rw [zR_c (c := 3) (k := 58 + 7 * i + 2) (by omega)]
  rw [zR_up (c := 3) (h2 := fun q _ => E3 q) hi (by decide) h3 (fun q a hq => o3 q hq)]
  rw [zR_c (c := 3) (k := 58 + 7 * i) (by omega)]
  rw [zR_c (c := 2) (k := 58 + 7 * i + 1) (by omega)]
  rw [zR_up (c := 2) (h2 := fun q _ => E2 q) hi (by decide) h2 (fun q a hq => o2 q hq)]
  rw [zR_c (c := 2) (k := 58 + 7 * i) (by omega)]
  rw [zR_up (c := 1) (h2 := fun q _ => E1 q) hi (by decide) h1 (fun q a hq => o1 q hq)]
  rw [zR_c (c := 1) (k := 58 + 7 * i) (by omega)]
  rw [zR_up0 hi trivial h0 o0]
theorem z_famJ {i : Nat} {J : Nat → Nat → Int64} {F F2 : Nat → (Nat → Int64) → (Nat → Int64)} {D1 D2 D3 D4 D5 D6 E1 E2 E3 E4 E5 E6 : Nat → Nat → Int64} {w0 w1 w2 w3 w4 w5 w6 u u2 t b1 b2 b3 b4 b5 : Nat → Int64} (hi : i < 8) (h0 : w0 = F2 i (J (58 + 7 * i))) (o0 : ∀ q a, q ≠ i → F2 q a = F q a) (h1 : w1 = E1 i) (o1 : ∀ q, q ≠ i → E1 q = D1 q) (h2 : w2 = E2 i) (o2 : ∀ q, q ≠ i → E2 q = D2 q) (h3 : w3 = E3 i) (o3 : ∀ q, q ≠ i → E3 q = D3 q) (h4 : w4 = E4 i) (o4 : ∀ q, q ≠ i → E4 q = D4 q) (h5 : w5 = E5 i) (o5 : ∀ q, q ≠ i → E5 q = D5 q) (h6 : w6 = E6 i) (o6 : ∀ q, q ≠ i → E6 q = D6 q) (hu : u = u2) : va_up (va_up (va_up (va_up (va_up (va_up (va_up (va_up (va_up (va_up (va_up (va_up (va_up (va_up (zR 6 (zR 5 (zR 4 (zR 3 (zR 2 (zR 1 (zR 0 J F) (fun q _ => D1 q)) (fun q _ => D2 q)) (fun q _ => D3 q)) (fun q _ => D4 q)) (fun q _ => D5 q)) (fun q _ => D6 q)) 26 b1) 27 b2) 28 b3) 46 b4) 47 b5) (58 + 7 * i + 1) w1) (58 + 7 * i + 2) w2) (58 + 7 * i + 3) w3) (58 + 7 * i + 4) w4) (58 + 7 * i + 5) w5) (58 + 7 * i + 6) w6) (58 + 7 * i) w0) 46 u) 47 t = (va_up (va_up (va_up (va_up (va_up (zR 6 (zR 5 (zR 4 (zR 3 (zR 2 (zR 1 (zR 0 J F2) (fun q _ => E1 q)) (fun q _ => E2 q)) (fun q _ => E3 q)) (fun q _ => E4 q)) (fun q _ => E5 q)) (fun q _ => E6 q)) 26 b1) 27 b2) 28 b3) 46 u2) 47 t) := z_famJ0 hi (z_fam7 hi h0 o0 h1 o1 h2 o2 h3 o3 h4 o4 h5 o5 h6 o6) hu
