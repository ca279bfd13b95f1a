set_option maxHeartbeats 4000000
set_option maxRecDepth 100000
/-! the tape -/
theorem and255 (z : Int32) : (z &&& 255).toInt = ((z.toBitVec.toNat % 256 : Nat) : Int) := by
  have h : (z &&& 255).toBitVec.toNat = z.toBitVec.toNat % 256 := by
    show (z.toBitVec &&& 255#32).toNat = _
    rw [BitVec.toNat_and]
    exact Nat.and_two_pow_sub_one_eq_mod z.toBitVec.toNat 8
  show (z &&& 255).toBitVec.toInt = _
  rw [BitVec.toInt_eq_toNat_cond, h]
  rw [if_pos (by omega)]
theorem nat_of (z : Int32) : (z.toBitVec.toNat : Int) = if 0 ≤ z.toInt then z.toInt else z.toInt + 4294967296 := by
  have h : z.toInt = z.toBitVec.toInt := rfl
  rw [h, BitVec.toInt_eq_toNat_cond]
  have l := z.toBitVec.isLt
  split <;> split <;> omega
theorem ofI {a : Int} (h : -2147483648 ≤ a ∧ a < 2147483648) : (Int32.ofInt a).toInt = a := Int32.toInt_ofInt_of_le (by omega) (by omega)
theorem shr_by {a : Int} (h : -2147483648 ≤ a ∧ a < 2147483648) (s : Int) (k d : Nat) (hk : ((Int32.ofInt s &&& 31).toBitVec.smod 32).toNat = k) (hd : 2 ^ k = d) (hk2 : d = 1 ∨ d = 256 ∨ d = 65536 ∨ d = 16777216) : jand (jshr a s) 255 = (a / (d : Int)) % 256 := by
  unfold jand
  rw [show Int32.ofInt (jshr a s) = Int32.ofInt a >>> (Int32.ofInt s &&& 31) from Int32.ofInt_toInt _, show Int32.ofInt 255 = (255 : Int32) from rfl, and255]
  have e := pk_shr (Int32.ofInt a) (Int32.ofInt s &&& 31) k hk
  have n := nat_of (Int32.ofInt a >>> (Int32.ofInt s &&& 31))
  rw [ofI h, Int.shiftRight_eq_div_pow] at e
  rw [e, show ((2 ^ k : Nat) : Int) = (d : Int) by rw [hd]] at n
  generalize (Int32.ofInt a >>> (Int32.ofInt s &&& 31)).toBitVec.toNat = q at *
  rcases hk2 with r | r | r | r <;> subst r <;> split at n <;> omega
theorem ush_by {a : Int} (h : -2147483648 ≤ a ∧ a < 2147483648) (s : Int) (k d : Nat) (hk : (((Int32.ofInt s).toUInt32 &&& Int32.toUInt32 31).toBitVec % 32).toNat = k) (hd : 2 ^ k = d) (hk2 : d = 1 ∨ d = 256 ∨ d = 65536 ∨ d = 16777216) : jn16 (jand (jush a s) 255) = (a / (d : Int)) % 256 := by
  unfold jn16 jand
  rw [show Int32.ofInt (jush a s) = iush (Int32.ofInt a) (Int32.ofInt s) from Int32.ofInt_toInt _, show Int32.ofInt 255 = (255 : Int32) from rfl]
  rw [show Int32.ofInt ((iush (Int32.ofInt a) (Int32.ofInt s) &&& 255).toInt) = iush (Int32.ofInt a) (Int32.ofInt s) &&& 255 from Int32.ofInt_toInt _]
  have c : nC (i2c (iush (Int32.ofInt a) (Int32.ofInt s) &&& 255)) = iush (Int32.ofInt a) (Int32.ofInt s) &&& 255 := by
    show vp_nar .char ((iush (Int32.ofInt a) (Int32.ofInt s) &&& 255).toUInt32 % 65536).toInt32 = _
    rw [pk_vc, sc_c2]
  rw [c, and255]
  have e := pk_ushr (Int32.ofInt a) (Int32.ofInt s) k hk
  have n := nat_of (Int32.ofInt a)
  rw [ofI h] at n
  have e2 : (iush (Int32.ofInt a) (Int32.ofInt s)).toBitVec.toNat = (Int32.ofInt a).toBitVec.toNat / d := by rw [← hd]; exact e
  rw [e2]
  generalize (Int32.ofInt a).toBitVec.toNat = q at *
  rcases hk2 with r | r | r | r <;> subst r <;> split at n <;> omega
def tDv (q : Nat) : Nat := if q = 0 then 16777216 else if q = 1 then 65536 else if q = 2 then 256 else 1
def tBy (a : Int) (q : Nat) : Int := (a / (tDv q : Int)) % 256
def tFd (A : Nat → Int) (tp : Nat → Int) (L : Nat) : Nat → Nat → Int
  | 0 => tp
  | m + 1 => va_up (tFd A tp L m) (L + m) (tBy (A (m / 4)) (m % 4))
def tIn (a : Int) : Prop := -2147483648 ≤ a ∧ a < 2147483648
theorem tBy_sh {a : Int} (h : tIn a) : ∀ q : Nat, q < 4 → jand (jshr a (8 * (3 - (q : Int)))) 255 = tBy a q := by
  intro q hq
  match q, hq with
  | 0, _ => exact shr_by h (8 * (3 - ((0 : Nat) : Int))) 24 16777216 (by decide) (by decide) (by omega)
  | 1, _ => exact shr_by h (8 * (3 - ((1 : Nat) : Int))) 16 65536 (by decide) (by decide) (by omega)
  | 2, _ => exact shr_by h (8 * (3 - ((2 : Nat) : Int))) 8 256 (by decide) (by decide) (by omega)
  | 3, _ => exact shr_by h (8 * (3 - ((3 : Nat) : Int))) 0 1 (by decide) (by decide) (by omega)
theorem tBy_us {a : Int} (h : tIn a) : ∀ q : Nat, q < 4 → jn16 (jand (jush a (24 - 8 * (q : Int))) 255) = tBy a q := by
  intro q hq
  match q, hq with
  | 0, _ => exact ush_by h (24 - 8 * ((0 : Nat) : Int)) 24 16777216 (by decide) (by decide) (by omega)
  | 1, _ => exact ush_by h (24 - 8 * ((1 : Nat) : Int)) 16 65536 (by decide) (by decide) (by omega)
  | 2, _ => exact ush_by h (24 - 8 * ((2 : Nat) : Int)) 8 256 (by decide) (by decide) (by omega)
  | 3, _ => exact ush_by h (24 - 8 * ((3 : Nat) : Int)) 0 1 (by decide) (by decide) (by omega)
theorem w_append {N : Nat} (hN : 5000 ≤ N) {a : Int} {A tp : Nat → Int} {L i : Nat} (ha : tIn a) (hA : A i = a) (hL : L + 4 * i + 4 ≤ 600) : wp (iReader_append N a ((L + 4 * i : Nat) : Int) (tFd A tp L (4 * i))) (fun r => r.1 = ((L + 4 * i + 4 : Nat) : Int) ∧ r.2.1 = ((L + 4 * i + 4 : Nat) : Int) ∧ r.2.2 = tFd A tp L (4 * i + 4)) := by
  unfold iReader_append iReader_append_b3
  refine wp_zlp3 (fun (k : Nat) (x2 le : Int) (t : Nat → Int) => ∃ q : Nat, q + k = 4 ∧ x2 = 24 - 8 * (q : Int) ∧ le = ((L + 4 * i + q : Nat) : Int) ∧ t = tFd A tp L (4 * i + q)) ?_ N 4 24 _ _ (by omega) ⟨0, rfl, by omega, rfl, rfl⟩
  intro self k x2 le t ⟨q, e1, e2, e3, e4⟩ ih
  subst e2
  subst e3
  unfold iReader_append_b3_F
  cases k with
  | zero =>
    have q4 : q = 4 := by omega
    subst q4
    rw [if_pos (by omega)]
    show wp (iReader_append_b50 N a _ t) _
    unfold iReader_append_b50
    rw [wp_some]
    exact ⟨rfl, rfl, e4⟩
  | succ k =>
    have el : ((L + 4 * i + q : Nat) : Int).toNat = L + 4 * i + q := rfl
    rw [if_neg (by omega), if_neg (by omega), wp_gd, wp_gd, wp_gd, el, tBy_us ha q (by omega)]
    refine ⟨jb_iff.mpr (by omega), jr_iff.mpr (by omega), jr_iff.mpr (by omega), ih k _ _ _ (Nat.lt_succ_self k) ⟨q + 1, by omega, by omega, by omega, ?_⟩⟩
    rw [e4]
    show _ = va_up (tFd A tp L (4 * i + q)) (L + (4 * i + q)) (tBy (A ((4 * i + q) / 4)) ((4 * i + q) % 4))
    rw [show (4 * i + q) / 4 = i by omega, show (4 * i + q) % 4 = q by omega, hA, show L + (4 * i + q) = L + 4 * i + q by omega]
/-- the tape's length and bytes -/
def IT (le : Int) (tp : Nat → Int) : Prop := (0 ≤ le ∧ le ≤ 600) ∧ ∀ k, 0 ≤ tp k ∧ tp k ≤ 255
theorem tFd_b {A tp : Nat → Int} {L : Nat} (h : ∀ k, 0 ≤ tp k ∧ tp k ≤ 255) : ∀ m k, 0 ≤ tFd A tp L m k ∧ tFd A tp L m k ≤ 255
  | 0, k => h k
  | m + 1, k => by
    show 0 ≤ va_up (tFd A tp L m) (L + m) (tBy (A (m / 4)) (m % 4)) k ∧ va_up (tFd A tp L m) (L + m) (tBy (A (m / 4)) (m % 4)) k ≤ 255
    by_cases e : k = L + m
    · rw [e, va_up_self]
      unfold tBy
      omega
    · rw [va_up_ne _ _ e]
      exact tFd_b h m k
theorem ag_feed {N : Nat} (hN : 5000 ≤ N) {a b c d e le : Int} {tp : Nat → Int} (ha : tIn a) (hb : tIn b) (hc : tIn c) (hd : tIn d) (he : tIn e) (h : IT le tp) : wp (iK_feed N a b c d e le tp) (fun r => wp (iM_feed N a b c d e le tp) (fun q => r.1 = q.1 ∧ q.2.1 = r.2.1 ∧ q.2.2 = r.2.2 ∧ IT r.2.1 r.2.2)) := by
  obtain ⟨L, rfl⟩ : ∃ L : Nat, le = L := ⟨le.toNat, by have := h.1; omega⟩
  have h1 := h.1
  unfold iK_feed iReader_hasRoom
  rw [wp_bd1, wp_gd, wp_ite]
  refine ⟨jr_iff.mpr (by omega), fun x => ?_, fun x => ?_⟩
  · rw [wp_some, if_pos rfl, wp_some]
    unfold iM_feed
    rw [wp_gd, if_neg (by omega), wp_some]
    exact ⟨jr_iff.mpr (by omega), rfl, rfl, rfl, h⟩
  · rw [wp_some, if_neg (by decide)]
    have hA : ∃ A : Nat → Int, A 0 = a ∧ A 1 = b ∧ A 2 = c ∧ A 3 = d ∧ A 4 = e := ⟨fun i => if i = 0 then a else if i = 1 then b else if i = 2 then c else if i = 3 then d else e, rfl, rfl, rfl, rfl, rfl⟩
    obtain ⟨A, A0, A1, A2, A3, A4⟩ := hA
    rw [wp_bd3]
    refine wp_mono (w_append hN (A := A) (tp := tp) (L := L) (i := 0) ha A0 (by omega)) (fun r0 ⟨_, p0, q0⟩ => ?_)
    rw [wp_bd3, p0, q0]
    refine wp_mono (w_append hN (A := A) (tp := tp) (L := L) (i := 1) hb A1 (by omega)) (fun r1 ⟨_, p1, q1⟩ => ?_)
    rw [wp_bd3, p1, q1]
    refine wp_mono (w_append hN (A := A) (tp := tp) (L := L) (i := 2) hc A2 (by omega)) (fun r2 ⟨_, p2, q2⟩ => ?_)
    rw [wp_bd3, p2, q2]
    refine wp_mono (w_append hN (A := A) (tp := tp) (L := L) (i := 3) hd A3 (by omega)) (fun r3 ⟨_, p3, q3⟩ => ?_)
    rw [wp_bd3, p3, q3]
    refine wp_mono (w_append hN (A := A) (tp := tp) (L := L) (i := 4) he A4 (by omega)) (fun r4 ⟨o4, p4, q4⟩ => ?_)
    rw [wp_some]
    unfold iM_feed
    rw [wp_gd, if_pos (by omega)]
    refine ⟨jr_iff.mpr (by omega), ?_⟩
    unfold iM_feed_b18
    refine wp_zlp3 (fun (k : Nat) (x6 le : Int) (t : Nat → Int) => ∃ m : Nat, m + k = 20 ∧ x6 = m ∧ le = ((L + m : Nat) : Int) ∧ t = tFd A tp L m) ?_ N 20 0 _ _ (by omega) ⟨0, rfl, rfl, rfl, rfl⟩
    intro self k x6 le t ⟨m, e1, e2, e3, e4⟩ ih
    subst e2
    subst e3
    unfold iM_feed_b18_F
    cases k with
    | zero =>
      have m20 : m = 20 := by omega
      subst m20
      rw [if_pos (by omega), wp_some]
      refine ⟨?_, ?_, ?_, ⟨?_, ?_⟩, ?_⟩
      · show r4.1 = _
        rw [o4]
      · show _ = r4.2.1
        rw [p4]
      · show t = r4.2.2
        rw [q4, e4]
      · show 0 ≤ r4.2.1
        rw [p4]
        omega
      · show r4.2.1 ≤ 600
        rw [p4]
        omega
      · show ∀ k, 0 ≤ r4.2.2 k ∧ r4.2.2 k ≤ 255
        rw [q4]
        exact tFd_b h.2 _
    | succ k =>
      have go : ∀ w : Int, tIn w → A (m / 4) = w → wp (iM_feed_b71 N a b c d e self m w ((L + m : Nat) : Int) t) (fun q => (r4.1, r4.2.1, r4.2.2).1 = q.1 ∧ q.2.1 = (r4.1, r4.2.1, r4.2.2).2.1 ∧ q.2.2 = (r4.1, r4.2.1, r4.2.2).2.2 ∧ IT (r4.1, r4.2.1, r4.2.2).2.1 (r4.1, r4.2.1, r4.2.2).2.2) := fun w hw hA => by
        have el : ((L + m : Nat) : Int).toNat = L + m := rfl
        have em : (m : Int).tmod 4 = ((m % 4 : Nat) : Int) := by
          rw [Int.tmod_eq_emod_of_nonneg (by omega)]
          omega
        unfold iM_feed_b71
        rw [em, wp_gd, wp_gd, wp_gd, wp_gd, wp_gd, el, tBy_sh hw (m % 4) (by omega)]
        refine ⟨jb_iff.mpr (by omega), jr_iff.mpr (by omega), jr_iff.mpr (by omega), jr_iff.mpr (by omega), jr_iff.mpr (by omega), ih k _ _ _ (Nat.lt_succ_self k) ⟨m + 1, by omega, by omega, by omega, ?_⟩⟩
        rw [e4]
        show _ = va_up (tFd A tp L m) (L + m) (tBy (A (m / 4)) (m % 4))
        rw [hA]
      rw [if_neg (by omega), wp_ite]
      refine ⟨fun c4 => ?_, fun c4 => go a ha (by rw [show m / 4 = 0 by omega]; exact A0)⟩
      rw [wp_ite]
      refine ⟨fun c8 => ?_, fun c8 => go b hb (by rw [show m / 4 = 1 by omega]; exact A1)⟩
      rw [wp_ite]
      refine ⟨fun c12 => ?_, fun c12 => go c hc (by rw [show m / 4 = 2 by omega]; exact A2)⟩
      rw [wp_ite]
      exact ⟨fun c16 => go e he (by rw [show m / 4 = 4 by omega]; exact A4), fun c16 => go d hd (by rw [show m / 4 = 3 by omega]; exact A3)⟩
theorem ag_end {a le : Int} {tp : Nat → Int} (h : IT le tp) : wp (iK_end a le) (fun r => wp (iM_end a le) (fun q => r.1 = q.1 ∧ q.2 = r.2 ∧ IT r.2 tp)) := by
  have h1 := h.1
  unfold iK_end iReader_shorten iM_end
  rw [wp_bd2, wp_ite]
  refine ⟨fun x => ?_, fun x => ?_⟩
  · rw [wp_some, wp_gd, wp_some, if_pos x, wp_some]
    exact ⟨jB_iff.mpr (Or.inl rfl), rfl, rfl, h⟩
  · rw [wp_ite]
    refine ⟨fun y => ?_, fun y => ?_⟩
    · rw [wp_some, wp_gd, wp_some, if_neg x, if_pos y, wp_some]
      exact ⟨jB_iff.mpr (Or.inr rfl), rfl, rfl, by show 0 ≤ a ∧ a ≤ 600; omega, h.2⟩
    · rw [wp_some, wp_gd, wp_some, if_neg x, if_neg y, wp_some]
      exact ⟨jB_iff.mpr (Or.inl rfl), rfl, rfl, h⟩
theorem ag_fault {a f p : Int} : wp (iK_fault a f p) (fun r => wp (iM_fault a f p) (fun q => r = q)) := by
  unfold iK_fault iM_fault iReader_faultFound iReader_faultPlace
  rw [wp_ite]
  refine ⟨fun x => ?_, fun x => ?_⟩
  · rw [wp_bd1, wp_some, wp_some, if_pos x, wp_some]
  · rw [wp_ite]
    refine ⟨fun y => ?_, fun y => ?_⟩
    · rw [wp_bd1, wp_some, wp_some, if_neg x, if_pos y, wp_some]
    · rw [wp_some, if_neg x, if_neg y, wp_some]
