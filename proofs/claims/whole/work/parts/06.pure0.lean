abbrev ix (i : Int32) : Nat := i.toNatClampNeg
def ib (i : Int32) (n : Nat) : Bool := decide (0 ≤ i.toInt ∧ i.toInt < n)
def isB (b : Int32) : Bool := b == 0 || b == 1
def gd {R : Type} (c : Bool) (x : Option R) : Option R := if c = true then x else none
theorem gd_s {R : Type} {c : Bool} {x : Option R} {r : R} (h : gd c x = some r) : c = true ∧ x = some r := by
  cases c with
  | false => cases h
  | true => exact ⟨rfl, h⟩
def opn {R : Type} (o : Option Nat) (a : Option R) (f : Nat → Option R) : Option R := match o with | none => a | some y => f y
theorem if_t {R : Type} {c : Prop} [Decidable c] {x y : Option R} {r : R} (h : (if c then x else y) = some r) (hc : c) : x = some r := by rwa [if_pos hc] at h
theorem if_f {R : Type} {c : Prop} [Decidable c] {x y : Option R} {r : R} (h : (if c then x else y) = some r) (hc : ¬ c) : y = some r := by rwa [if_neg hc] at h
def bd0 {R : Type} (x : Option Unit) (f : Option R) : Option R := match x with | none => none | some _ => f
theorem bd0_s {R : Type} {x : Option Unit} {f : Option R} {r : R} (h : bd0 x f = some r) : x = some () ∧ f = some r := by
  cases x with
  | none => cases h
  | some u => exact ⟨rfl, h⟩
def bd1 {A0 R : Type} (x : Option (A0)) (f : A0 → Option R) : Option R := match x with | none => none | some a0 => f a0
theorem bd1_s {A0 R : Type} {x : Option (A0)} {f : A0 → Option R} {r : R} (h : bd1 x f = some r) : ∃ a0 : A0, x = some a0 ∧ f a0 = some r := by
  cases x with
  | none => cases h
  | some u => exact ⟨u, rfl, h⟩
def zlp1 {A0 R : Type} (F : (A0 → Option R) → A0 → Option R) : Nat → A0 → Option R
  | 0, _ => none
  | n + 1, a0 => F (zlp1 F n) a0
theorem zlp1_ind {A0 R : Type} {F : (A0 → Option R) → A0 → Option R} {r : R} {P : A0 → Prop} (h : ∀ self : A0 → Option R, (∀ (a0 : A0), self a0 = some r → P a0) → ∀ (a0 : A0), F self a0 = some r → P a0) : ∀ (n : Nat) (a0 : A0), zlp1 F n a0 = some r → P a0
  | 0, _, e => nomatch e
  | n + 1, a0, e => h (zlp1 F n) (zlp1_ind h n) a0 e
theorem zlp1_s {A0 R : Type} (F : (A0 → Option R) → A0 → Option R) (n : Nat) (a0 : A0) : zlp1 F (n + 1) a0 = F (zlp1 F n) a0 := rfl
def gr1 {A0 R : Type} (F : (Nat → A0 → Option R) → Nat → A0 → Option R) : Nat → Nat → A0 → Option R
  | 0, _, _ => none
  | d + 1, t, a0 => F (gr1 F d) t a0
def bd2 {A0 A1 R : Type} (x : Option (A0 × A1)) (f : A0 → A1 → Option R) : Option R := match x with | none => none | some (a0, a1) => f a0 a1
theorem bd2_s {A0 A1 R : Type} {x : Option (A0 × A1)} {f : A0 → A1 → Option R} {r : R} (h : bd2 x f = some r) : ∃ a0 : A0, ∃ a1 : A1, x = some (a0, a1) ∧ f a0 a1 = some r := by
  cases x with
  | none => cases h
  | some u => obtain ⟨a0, a1⟩ := u; exact ⟨a0, a1, rfl, h⟩
def zlp2 {A0 A1 R : Type} (F : (A0 → A1 → Option R) → A0 → A1 → Option R) : Nat → A0 → A1 → Option R
  | 0, _, _ => none
  | n + 1, a0, a1 => F (zlp2 F n) a0 a1
theorem zlp2_ind {A0 A1 R : Type} {F : (A0 → A1 → Option R) → A0 → A1 → Option R} {r : R} {P : A0 → A1 → Prop} (h : ∀ self : A0 → A1 → Option R, (∀ (a0 : A0) (a1 : A1), self a0 a1 = some r → P a0 a1) → ∀ (a0 : A0) (a1 : A1), F self a0 a1 = some r → P a0 a1) : ∀ (n : Nat) (a0 : A0) (a1 : A1), zlp2 F n a0 a1 = some r → P a0 a1
  | 0, _, _, e => nomatch e
  | n + 1, a0, a1, e => h (zlp2 F n) (zlp2_ind h n) a0 a1 e
theorem zlp2_s {A0 A1 R : Type} (F : (A0 → A1 → Option R) → A0 → A1 → Option R) (n : Nat) (a0 : A0) (a1 : A1) : zlp2 F (n + 1) a0 a1 = F (zlp2 F n) a0 a1 := rfl
def gr2 {A0 A1 R : Type} (F : (Nat → A0 → A1 → Option R) → Nat → A0 → A1 → Option R) : Nat → Nat → A0 → A1 → Option R
  | 0, _, _, _ => none
  | d + 1, t, a0, a1 => F (gr2 F d) t a0 a1
def bd3 {A0 A1 A2 R : Type} (x : Option (A0 × A1 × A2)) (f : A0 → A1 → A2 → Option R) : Option R := match x with | none => none | some (a0, a1, a2) => f a0 a1 a2
theorem bd3_s {A0 A1 A2 R : Type} {x : Option (A0 × A1 × A2)} {f : A0 → A1 → A2 → Option R} {r : R} (h : bd3 x f = some r) : ∃ a0 : A0, ∃ a1 : A1, ∃ a2 : A2, x = some (a0, a1, a2) ∧ f a0 a1 a2 = some r := by
  cases x with
  | none => cases h
  | some u => obtain ⟨a0, a1, a2⟩ := u; exact ⟨a0, a1, a2, rfl, h⟩
def zlp3 {A0 A1 A2 R : Type} (F : (A0 → A1 → A2 → Option R) → A0 → A1 → A2 → Option R) : Nat → A0 → A1 → A2 → Option R
  | 0, _, _, _ => none
  | n + 1, a0, a1, a2 => F (zlp3 F n) a0 a1 a2
theorem zlp3_ind {A0 A1 A2 R : Type} {F : (A0 → A1 → A2 → Option R) → A0 → A1 → A2 → Option R} {r : R} {P : A0 → A1 → A2 → Prop} (h : ∀ self : A0 → A1 → A2 → Option R, (∀ (a0 : A0) (a1 : A1) (a2 : A2), self a0 a1 a2 = some r → P a0 a1 a2) → ∀ (a0 : A0) (a1 : A1) (a2 : A2), F self a0 a1 a2 = some r → P a0 a1 a2) : ∀ (n : Nat) (a0 : A0) (a1 : A1) (a2 : A2), zlp3 F n a0 a1 a2 = some r → P a0 a1 a2
  | 0, _, _, _, e => nomatch e
  | n + 1, a0, a1, a2, e => h (zlp3 F n) (zlp3_ind h n) a0 a1 a2 e
theorem zlp3_s {A0 A1 A2 R : Type} (F : (A0 → A1 → A2 → Option R) → A0 → A1 → A2 → Option R) (n : Nat) (a0 : A0) (a1 : A1) (a2 : A2) : zlp3 F (n + 1) a0 a1 a2 = F (zlp3 F n) a0 a1 a2 := rfl
def gr3 {A0 A1 A2 R : Type} (F : (Nat → A0 → A1 → A2 → Option R) → Nat → A0 → A1 → A2 → Option R) : Nat → Nat → A0 → A1 → A2 → Option R
  | 0, _, _, _, _ => none
  | d + 1, t, a0, a1, a2 => F (gr3 F d) t a0 a1 a2
def bd4 {A0 A1 A2 A3 R : Type} (x : Option (A0 × A1 × A2 × A3)) (f : A0 → A1 → A2 → A3 → Option R) : Option R := match x with | none => none | some (a0, a1, a2, a3) => f a0 a1 a2 a3
theorem bd4_s {A0 A1 A2 A3 R : Type} {x : Option (A0 × A1 × A2 × A3)} {f : A0 → A1 → A2 → A3 → Option R} {r : R} (h : bd4 x f = some r) : ∃ a0 : A0, ∃ a1 : A1, ∃ a2 : A2, ∃ a3 : A3, x = some (a0, a1, a2, a3) ∧ f a0 a1 a2 a3 = some r := by
  cases x with
  | none => cases h
  | some u => obtain ⟨a0, a1, a2, a3⟩ := u; exact ⟨a0, a1, a2, a3, rfl, h⟩
def zlp4 {A0 A1 A2 A3 R : Type} (F : (A0 → A1 → A2 → A3 → Option R) → A0 → A1 → A2 → A3 → Option R) : Nat → A0 → A1 → A2 → A3 → Option R
  | 0, _, _, _, _ => none
  | n + 1, a0, a1, a2, a3 => F (zlp4 F n) a0 a1 a2 a3
theorem zlp4_ind {A0 A1 A2 A3 R : Type} {F : (A0 → A1 → A2 → A3 → Option R) → A0 → A1 → A2 → A3 → Option R} {r : R} {P : A0 → A1 → A2 → A3 → Prop} (h : ∀ self : A0 → A1 → A2 → A3 → Option R, (∀ (a0 : A0) (a1 : A1) (a2 : A2) (a3 : A3), self a0 a1 a2 a3 = some r → P a0 a1 a2 a3) → ∀ (a0 : A0) (a1 : A1) (a2 : A2) (a3 : A3), F self a0 a1 a2 a3 = some r → P a0 a1 a2 a3) : ∀ (n : Nat) (a0 : A0) (a1 : A1) (a2 : A2) (a3 : A3), zlp4 F n a0 a1 a2 a3 = some r → P a0 a1 a2 a3
  | 0, _, _, _, _, e => nomatch e
  | n + 1, a0, a1, a2, a3, e => h (zlp4 F n) (zlp4_ind h n) a0 a1 a2 a3 e
theorem zlp4_s {A0 A1 A2 A3 R : Type} (F : (A0 → A1 → A2 → A3 → Option R) → A0 → A1 → A2 → A3 → Option R) (n : Nat) (a0 : A0) (a1 : A1) (a2 : A2) (a3 : A3) : zlp4 F (n + 1) a0 a1 a2 a3 = F (zlp4 F n) a0 a1 a2 a3 := rfl
def gr4 {A0 A1 A2 A3 R : Type} (F : (Nat → A0 → A1 → A2 → A3 → Option R) → Nat → A0 → A1 → A2 → A3 → Option R) : Nat → Nat → A0 → A1 → A2 → A3 → Option R
  | 0, _, _, _, _, _ => none
  | d + 1, t, a0, a1, a2, a3 => F (gr4 F d) t a0 a1 a2 a3
def bd5 {A0 A1 A2 A3 A4 R : Type} (x : Option (A0 × A1 × A2 × A3 × A4)) (f : A0 → A1 → A2 → A3 → A4 → Option R) : Option R := match x with | none => none | some (a0, a1, a2, a3, a4) => f a0 a1 a2 a3 a4
theorem bd5_s {A0 A1 A2 A3 A4 R : Type} {x : Option (A0 × A1 × A2 × A3 × A4)} {f : A0 → A1 → A2 → A3 → A4 → Option R} {r : R} (h : bd5 x f = some r) : ∃ a0 : A0, ∃ a1 : A1, ∃ a2 : A2, ∃ a3 : A3, ∃ a4 : A4, x = some (a0, a1, a2, a3, a4) ∧ f a0 a1 a2 a3 a4 = some r := by
  cases x with
  | none => cases h
  | some u => obtain ⟨a0, a1, a2, a3, a4⟩ := u; exact ⟨a0, a1, a2, a3, a4, rfl, h⟩
def zlp5 {A0 A1 A2 A3 A4 R : Type} (F : (A0 → A1 → A2 → A3 → A4 → Option R) → A0 → A1 → A2 → A3 → A4 → Option R) : Nat → A0 → A1 → A2 → A3 → A4 → Option R
  | 0, _, _, _, _, _ => none
  | n + 1, a0, a1, a2, a3, a4 => F (zlp5 F n) a0 a1 a2 a3 a4
theorem zlp5_ind {A0 A1 A2 A3 A4 R : Type} {F : (A0 → A1 → A2 → A3 → A4 → Option R) → A0 → A1 → A2 → A3 → A4 → Option R} {r : R} {P : A0 → A1 → A2 → A3 → A4 → Prop} (h : ∀ self : A0 → A1 → A2 → A3 → A4 → Option R, (∀ (a0 : A0) (a1 : A1) (a2 : A2) (a3 : A3) (a4 : A4), self a0 a1 a2 a3 a4 = some r → P a0 a1 a2 a3 a4) → ∀ (a0 : A0) (a1 : A1) (a2 : A2) (a3 : A3) (a4 : A4), F self a0 a1 a2 a3 a4 = some r → P a0 a1 a2 a3 a4) : ∀ (n : Nat) (a0 : A0) (a1 : A1) (a2 : A2) (a3 : A3) (a4 : A4), zlp5 F n a0 a1 a2 a3 a4 = some r → P a0 a1 a2 a3 a4
  | 0, _, _, _, _, _, e => nomatch e
  | n + 1, a0, a1, a2, a3, a4, e => h (zlp5 F n) (zlp5_ind h n) a0 a1 a2 a3 a4 e
theorem zlp5_s {A0 A1 A2 A3 A4 R : Type} (F : (A0 → A1 → A2 → A3 → A4 → Option R) → A0 → A1 → A2 → A3 → A4 → Option R) (n : Nat) (a0 : A0) (a1 : A1) (a2 : A2) (a3 : A3) (a4 : A4) : zlp5 F (n + 1) a0 a1 a2 a3 a4 = F (zlp5 F n) a0 a1 a2 a3 a4 := rfl
def gr5 {A0 A1 A2 A3 A4 R : Type} (F : (Nat → A0 → A1 → A2 → A3 → A4 → Option R) → Nat → A0 → A1 → A2 → A3 → A4 → Option R) : Nat → Nat → A0 → A1 → A2 → A3 → A4 → Option R
  | 0, _, _, _, _, _, _ => none
  | d + 1, t, a0, a1, a2, a3, a4 => F (gr5 F d) t a0 a1 a2 a3 a4
def bd6 {A0 A1 A2 A3 A4 A5 R : Type} (x : Option (A0 × A1 × A2 × A3 × A4 × A5)) (f : A0 → A1 → A2 → A3 → A4 → A5 → Option R) : Option R := match x with | none => none | some (a0, a1, a2, a3, a4, a5) => f a0 a1 a2 a3 a4 a5
theorem bd6_s {A0 A1 A2 A3 A4 A5 R : Type} {x : Option (A0 × A1 × A2 × A3 × A4 × A5)} {f : A0 → A1 → A2 → A3 → A4 → A5 → Option R} {r : R} (h : bd6 x f = some r) : ∃ a0 : A0, ∃ a1 : A1, ∃ a2 : A2, ∃ a3 : A3, ∃ a4 : A4, ∃ a5 : A5, x = some (a0, a1, a2, a3, a4, a5) ∧ f a0 a1 a2 a3 a4 a5 = some r := by
  cases x with
  | none => cases h
  | some u => obtain ⟨a0, a1, a2, a3, a4, a5⟩ := u; exact ⟨a0, a1, a2, a3, a4, a5, rfl, h⟩
def zlp6 {A0 A1 A2 A3 A4 A5 R : Type} (F : (A0 → A1 → A2 → A3 → A4 → A5 → Option R) → A0 → A1 → A2 → A3 → A4 → A5 → Option R) : Nat → A0 → A1 → A2 → A3 → A4 → A5 → Option R
  | 0, _, _, _, _, _, _ => none
  | n + 1, a0, a1, a2, a3, a4, a5 => F (zlp6 F n) a0 a1 a2 a3 a4 a5
theorem zlp6_ind {A0 A1 A2 A3 A4 A5 R : Type} {F : (A0 → A1 → A2 → A3 → A4 → A5 → Option R) → A0 → A1 → A2 → A3 → A4 → A5 → Option R} {r : R} {P : A0 → A1 → A2 → A3 → A4 → A5 → Prop} (h : ∀ self : A0 → A1 → A2 → A3 → A4 → A5 → Option R, (∀ (a0 : A0) (a1 : A1) (a2 : A2) (a3 : A3) (a4 : A4) (a5 : A5), self a0 a1 a2 a3 a4 a5 = some r → P a0 a1 a2 a3 a4 a5) → ∀ (a0 : A0) (a1 : A1) (a2 : A2) (a3 : A3) (a4 : A4) (a5 : A5), F self a0 a1 a2 a3 a4 a5 = some r → P a0 a1 a2 a3 a4 a5) : ∀ (n : Nat) (a0 : A0) (a1 : A1) (a2 : A2) (a3 : A3) (a4 : A4) (a5 : A5), zlp6 F n a0 a1 a2 a3 a4 a5 = some r → P a0 a1 a2 a3 a4 a5
  | 0, _, _, _, _, _, _, e => nomatch e
  | n + 1, a0, a1, a2, a3, a4, a5, e => h (zlp6 F n) (zlp6_ind h n) a0 a1 a2 a3 a4 a5 e
theorem zlp6_s {A0 A1 A2 A3 A4 A5 R : Type} (F : (A0 → A1 → A2 → A3 → A4 → A5 → Option R) → A0 → A1 → A2 → A3 → A4 → A5 → Option R) (n : Nat) (a0 : A0) (a1 : A1) (a2 : A2) (a3 : A3) (a4 : A4) (a5 : A5) : zlp6 F (n + 1) a0 a1 a2 a3 a4 a5 = F (zlp6 F n) a0 a1 a2 a3 a4 a5 := rfl
def gr6 {A0 A1 A2 A3 A4 A5 R : Type} (F : (Nat → A0 → A1 → A2 → A3 → A4 → A5 → Option R) → Nat → A0 → A1 → A2 → A3 → A4 → A5 → Option R) : Nat → Nat → A0 → A1 → A2 → A3 → A4 → A5 → Option R
  | 0, _, _, _, _, _, _, _ => none
  | d + 1, t, a0, a1, a2, a3, a4, a5 => F (gr6 F d) t a0 a1 a2 a3 a4 a5
def bd7 {A0 A1 A2 A3 A4 A5 A6 R : Type} (x : Option (A0 × A1 × A2 × A3 × A4 × A5 × A6)) (f : A0 → A1 → A2 → A3 → A4 → A5 → A6 → Option R) : Option R := match x with | none => none | some (a0, a1, a2, a3, a4, a5, a6) => f a0 a1 a2 a3 a4 a5 a6
theorem bd7_s {A0 A1 A2 A3 A4 A5 A6 R : Type} {x : Option (A0 × A1 × A2 × A3 × A4 × A5 × A6)} {f : A0 → A1 → A2 → A3 → A4 → A5 → A6 → Option R} {r : R} (h : bd7 x f = some r) : ∃ a0 : A0, ∃ a1 : A1, ∃ a2 : A2, ∃ a3 : A3, ∃ a4 : A4, ∃ a5 : A5, ∃ a6 : A6, x = some (a0, a1, a2, a3, a4, a5, a6) ∧ f a0 a1 a2 a3 a4 a5 a6 = some r := by
  cases x with
  | none => cases h
  | some u => obtain ⟨a0, a1, a2, a3, a4, a5, a6⟩ := u; exact ⟨a0, a1, a2, a3, a4, a5, a6, rfl, h⟩
def zlp7 {A0 A1 A2 A3 A4 A5 A6 R : Type} (F : (A0 → A1 → A2 → A3 → A4 → A5 → A6 → Option R) → A0 → A1 → A2 → A3 → A4 → A5 → A6 → Option R) : Nat → A0 → A1 → A2 → A3 → A4 → A5 → A6 → Option R
  | 0, _, _, _, _, _, _, _ => none
  | n + 1, a0, a1, a2, a3, a4, a5, a6 => F (zlp7 F n) a0 a1 a2 a3 a4 a5 a6
theorem zlp7_ind {A0 A1 A2 A3 A4 A5 A6 R : Type} {F : (A0 → A1 → A2 → A3 → A4 → A5 → A6 → Option R) → A0 → A1 → A2 → A3 → A4 → A5 → A6 → Option R} {r : R} {P : A0 → A1 → A2 → A3 → A4 → A5 → A6 → Prop} (h : ∀ self : A0 → A1 → A2 → A3 → A4 → A5 → A6 → Option R, (∀ (a0 : A0) (a1 : A1) (a2 : A2) (a3 : A3) (a4 : A4) (a5 : A5) (a6 : A6), self a0 a1 a2 a3 a4 a5 a6 = some r → P a0 a1 a2 a3 a4 a5 a6) → ∀ (a0 : A0) (a1 : A1) (a2 : A2) (a3 : A3) (a4 : A4) (a5 : A5) (a6 : A6), F self a0 a1 a2 a3 a4 a5 a6 = some r → P a0 a1 a2 a3 a4 a5 a6) : ∀ (n : Nat) (a0 : A0) (a1 : A1) (a2 : A2) (a3 : A3) (a4 : A4) (a5 : A5) (a6 : A6), zlp7 F n a0 a1 a2 a3 a4 a5 a6 = some r → P a0 a1 a2 a3 a4 a5 a6
  | 0, _, _, _, _, _, _, _, e => nomatch e
  | n + 1, a0, a1, a2, a3, a4, a5, a6, e => h (zlp7 F n) (zlp7_ind h n) a0 a1 a2 a3 a4 a5 a6 e
theorem zlp7_s {A0 A1 A2 A3 A4 A5 A6 R : Type} (F : (A0 → A1 → A2 → A3 → A4 → A5 → A6 → Option R) → A0 → A1 → A2 → A3 → A4 → A5 → A6 → Option R) (n : Nat) (a0 : A0) (a1 : A1) (a2 : A2) (a3 : A3) (a4 : A4) (a5 : A5) (a6 : A6) : zlp7 F (n + 1) a0 a1 a2 a3 a4 a5 a6 = F (zlp7 F n) a0 a1 a2 a3 a4 a5 a6 := rfl
def gr7 {A0 A1 A2 A3 A4 A5 A6 R : Type} (F : (Nat → A0 → A1 → A2 → A3 → A4 → A5 → A6 → Option R) → Nat → A0 → A1 → A2 → A3 → A4 → A5 → A6 → Option R) : Nat → Nat → A0 → A1 → A2 → A3 → A4 → A5 → A6 → Option R
  | 0, _, _, _, _, _, _, _, _ => none
  | d + 1, t, a0, a1, a2, a3, a4, a5, a6 => F (gr7 F d) t a0 a1 a2 a3 a4 a5 a6
def bd8 {A0 A1 A2 A3 A4 A5 A6 A7 R : Type} (x : Option (A0 × A1 × A2 × A3 × A4 × A5 × A6 × A7)) (f : A0 → A1 → A2 → A3 → A4 → A5 → A6 → A7 → Option R) : Option R := match x with | none => none | some (a0, a1, a2, a3, a4, a5, a6, a7) => f a0 a1 a2 a3 a4 a5 a6 a7
theorem bd8_s {A0 A1 A2 A3 A4 A5 A6 A7 R : Type} {x : Option (A0 × A1 × A2 × A3 × A4 × A5 × A6 × A7)} {f : A0 → A1 → A2 → A3 → A4 → A5 → A6 → A7 → Option R} {r : R} (h : bd8 x f = some r) : ∃ a0 : A0, ∃ a1 : A1, ∃ a2 : A2, ∃ a3 : A3, ∃ a4 : A4, ∃ a5 : A5, ∃ a6 : A6, ∃ a7 : A7, x = some (a0, a1, a2, a3, a4, a5, a6, a7) ∧ f a0 a1 a2 a3 a4 a5 a6 a7 = some r := by
  cases x with
  | none => cases h
  | some u => obtain ⟨a0, a1, a2, a3, a4, a5, a6, a7⟩ := u; exact ⟨a0, a1, a2, a3, a4, a5, a6, a7, rfl, h⟩
def zlp8 {A0 A1 A2 A3 A4 A5 A6 A7 R : Type} (F : (A0 → A1 → A2 → A3 → A4 → A5 → A6 → A7 → Option R) → A0 → A1 → A2 → A3 → A4 → A5 → A6 → A7 → Option R) : Nat → A0 → A1 → A2 → A3 → A4 → A5 → A6 → A7 → Option R
  | 0, _, _, _, _, _, _, _, _ => none
  | n + 1, a0, a1, a2, a3, a4, a5, a6, a7 => F (zlp8 F n) a0 a1 a2 a3 a4 a5 a6 a7
theorem zlp8_ind {A0 A1 A2 A3 A4 A5 A6 A7 R : Type} {F : (A0 → A1 → A2 → A3 → A4 → A5 → A6 → A7 → Option R) → A0 → A1 → A2 → A3 → A4 → A5 → A6 → A7 → Option R} {r : R} {P : A0 → A1 → A2 → A3 → A4 → A5 → A6 → A7 → Prop} (h : ∀ self : A0 → A1 → A2 → A3 → A4 → A5 → A6 → A7 → Option R, (∀ (a0 : A0) (a1 : A1) (a2 : A2) (a3 : A3) (a4 : A4) (a5 : A5) (a6 : A6) (a7 : A7), self a0 a1 a2 a3 a4 a5 a6 a7 = some r → P a0 a1 a2 a3 a4 a5 a6 a7) → ∀ (a0 : A0) (a1 : A1) (a2 : A2) (a3 : A3) (a4 : A4) (a5 : A5) (a6 : A6) (a7 : A7), F self a0 a1 a2 a3 a4 a5 a6 a7 = some r → P a0 a1 a2 a3 a4 a5 a6 a7) : ∀ (n : Nat) (a0 : A0) (a1 : A1) (a2 : A2) (a3 : A3) (a4 : A4) (a5 : A5) (a6 : A6) (a7 : A7), zlp8 F n a0 a1 a2 a3 a4 a5 a6 a7 = some r → P a0 a1 a2 a3 a4 a5 a6 a7
  | 0, _, _, _, _, _, _, _, _, e => nomatch e
  | n + 1, a0, a1, a2, a3, a4, a5, a6, a7, e => h (zlp8 F n) (zlp8_ind h n) a0 a1 a2 a3 a4 a5 a6 a7 e
theorem zlp8_s {A0 A1 A2 A3 A4 A5 A6 A7 R : Type} (F : (A0 → A1 → A2 → A3 → A4 → A5 → A6 → A7 → Option R) → A0 → A1 → A2 → A3 → A4 → A5 → A6 → A7 → Option R) (n : Nat) (a0 : A0) (a1 : A1) (a2 : A2) (a3 : A3) (a4 : A4) (a5 : A5) (a6 : A6) (a7 : A7) : zlp8 F (n + 1) a0 a1 a2 a3 a4 a5 a6 a7 = F (zlp8 F n) a0 a1 a2 a3 a4 a5 a6 a7 := rfl
def gr8 {A0 A1 A2 A3 A4 A5 A6 A7 R : Type} (F : (Nat → A0 → A1 → A2 → A3 → A4 → A5 → A6 → A7 → Option R) → Nat → A0 → A1 → A2 → A3 → A4 → A5 → A6 → A7 → Option R) : Nat → Nat → A0 → A1 → A2 → A3 → A4 → A5 → A6 → A7 → Option R
  | 0, _, _, _, _, _, _, _, _, _ => none
  | d + 1, t, a0, a1, a2, a3, a4, a5, a6, a7 => F (gr8 F d) t a0 a1 a2 a3 a4 a5 a6 a7
def bd9 {A0 A1 A2 A3 A4 A5 A6 A7 A8 R : Type} (x : Option (A0 × A1 × A2 × A3 × A4 × A5 × A6 × A7 × A8)) (f : A0 → A1 → A2 → A3 → A4 → A5 → A6 → A7 → A8 → Option R) : Option R := match x with | none => none | some (a0, a1, a2, a3, a4, a5, a6, a7, a8) => f a0 a1 a2 a3 a4 a5 a6 a7 a8
theorem bd9_s {A0 A1 A2 A3 A4 A5 A6 A7 A8 R : Type} {x : Option (A0 × A1 × A2 × A3 × A4 × A5 × A6 × A7 × A8)} {f : A0 → A1 → A2 → A3 → A4 → A5 → A6 → A7 → A8 → Option R} {r : R} (h : bd9 x f = some r) : ∃ a0 : A0, ∃ a1 : A1, ∃ a2 : A2, ∃ a3 : A3, ∃ a4 : A4, ∃ a5 : A5, ∃ a6 : A6, ∃ a7 : A7, ∃ a8 : A8, x = some (a0, a1, a2, a3, a4, a5, a6, a7, a8) ∧ f a0 a1 a2 a3 a4 a5 a6 a7 a8 = some r := by
  cases x with
  | none => cases h
  | some u => obtain ⟨a0, a1, a2, a3, a4, a5, a6, a7, a8⟩ := u; exact ⟨a0, a1, a2, a3, a4, a5, a6, a7, a8, rfl, h⟩
def zlp9 {A0 A1 A2 A3 A4 A5 A6 A7 A8 R : Type} (F : (A0 → A1 → A2 → A3 → A4 → A5 → A6 → A7 → A8 → Option R) → A0 → A1 → A2 → A3 → A4 → A5 → A6 → A7 → A8 → Option R) : Nat → A0 → A1 → A2 → A3 → A4 → A5 → A6 → A7 → A8 → Option R
  | 0, _, _, _, _, _, _, _, _, _ => none
  | n + 1, a0, a1, a2, a3, a4, a5, a6, a7, a8 => F (zlp9 F n) a0 a1 a2 a3 a4 a5 a6 a7 a8
theorem zlp9_ind {A0 A1 A2 A3 A4 A5 A6 A7 A8 R : Type} {F : (A0 → A1 → A2 → A3 → A4 → A5 → A6 → A7 → A8 → Option R) → A0 → A1 → A2 → A3 → A4 → A5 → A6 → A7 → A8 → Option R} {r : R} {P : A0 → A1 → A2 → A3 → A4 → A5 → A6 → A7 → A8 → Prop} (h : ∀ self : A0 → A1 → A2 → A3 → A4 → A5 → A6 → A7 → A8 → Option R, (∀ (a0 : A0) (a1 : A1) (a2 : A2) (a3 : A3) (a4 : A4) (a5 : A5) (a6 : A6) (a7 : A7) (a8 : A8), self a0 a1 a2 a3 a4 a5 a6 a7 a8 = some r → P a0 a1 a2 a3 a4 a5 a6 a7 a8) → ∀ (a0 : A0) (a1 : A1) (a2 : A2) (a3 : A3) (a4 : A4) (a5 : A5) (a6 : A6) (a7 : A7) (a8 : A8), F self a0 a1 a2 a3 a4 a5 a6 a7 a8 = some r → P a0 a1 a2 a3 a4 a5 a6 a7 a8) : ∀ (n : Nat) (a0 : A0) (a1 : A1) (a2 : A2) (a3 : A3) (a4 : A4) (a5 : A5) (a6 : A6) (a7 : A7) (a8 : A8), zlp9 F n a0 a1 a2 a3 a4 a5 a6 a7 a8 = some r → P a0 a1 a2 a3 a4 a5 a6 a7 a8
  | 0, _, _, _, _, _, _, _, _, _, e => nomatch e
  | n + 1, a0, a1, a2, a3, a4, a5, a6, a7, a8, e => h (zlp9 F n) (zlp9_ind h n) a0 a1 a2 a3 a4 a5 a6 a7 a8 e
theorem zlp9_s {A0 A1 A2 A3 A4 A5 A6 A7 A8 R : Type} (F : (A0 → A1 → A2 → A3 → A4 → A5 → A6 → A7 → A8 → Option R) → A0 → A1 → A2 → A3 → A4 → A5 → A6 → A7 → A8 → Option R) (n : Nat) (a0 : A0) (a1 : A1) (a2 : A2) (a3 : A3) (a4 : A4) (a5 : A5) (a6 : A6) (a7 : A7) (a8 : A8) : zlp9 F (n + 1) a0 a1 a2 a3 a4 a5 a6 a7 a8 = F (zlp9 F n) a0 a1 a2 a3 a4 a5 a6 a7 a8 := rfl
def gr9 {A0 A1 A2 A3 A4 A5 A6 A7 A8 R : Type} (F : (Nat → A0 → A1 → A2 → A3 → A4 → A5 → A6 → A7 → A8 → Option R) → Nat → A0 → A1 → A2 → A3 → A4 → A5 → A6 → A7 → A8 → Option R) : Nat → Nat → A0 → A1 → A2 → A3 → A4 → A5 → A6 → A7 → A8 → Option R
  | 0, _, _, _, _, _, _, _, _, _, _ => none
  | d + 1, t, a0, a1, a2, a3, a4, a5, a6, a7, a8 => F (gr9 F d) t a0 a1 a2 a3 a4 a5 a6 a7 a8
def bd10 {A0 A1 A2 A3 A4 A5 A6 A7 A8 A9 R : Type} (x : Option (A0 × A1 × A2 × A3 × A4 × A5 × A6 × A7 × A8 × A9)) (f : A0 → A1 → A2 → A3 → A4 → A5 → A6 → A7 → A8 → A9 → Option R) : Option R := match x with | none => none | some (a0, a1, a2, a3, a4, a5, a6, a7, a8, a9) => f a0 a1 a2 a3 a4 a5 a6 a7 a8 a9
theorem bd10_s {A0 A1 A2 A3 A4 A5 A6 A7 A8 A9 R : Type} {x : Option (A0 × A1 × A2 × A3 × A4 × A5 × A6 × A7 × A8 × A9)} {f : A0 → A1 → A2 → A3 → A4 → A5 → A6 → A7 → A8 → A9 → Option R} {r : R} (h : bd10 x f = some r) : ∃ a0 : A0, ∃ a1 : A1, ∃ a2 : A2, ∃ a3 : A3, ∃ a4 : A4, ∃ a5 : A5, ∃ a6 : A6, ∃ a7 : A7, ∃ a8 : A8, ∃ a9 : A9, x = some (a0, a1, a2, a3, a4, a5, a6, a7, a8, a9) ∧ f a0 a1 a2 a3 a4 a5 a6 a7 a8 a9 = some r := by
  cases x with
  | none => cases h
  | some u => obtain ⟨a0, a1, a2, a3, a4, a5, a6, a7, a8, a9⟩ := u; exact ⟨a0, a1, a2, a3, a4, a5, a6, a7, a8, a9, rfl, h⟩
def zlp10 {A0 A1 A2 A3 A4 A5 A6 A7 A8 A9 R : Type} (F : (A0 → A1 → A2 → A3 → A4 → A5 → A6 → A7 → A8 → A9 → Option R) → A0 → A1 → A2 → A3 → A4 → A5 → A6 → A7 → A8 → A9 → Option R) : Nat → A0 → A1 → A2 → A3 → A4 → A5 → A6 → A7 → A8 → A9 → Option R
  | 0, _, _, _, _, _, _, _, _, _, _ => none
  | n + 1, a0, a1, a2, a3, a4, a5, a6, a7, a8, a9 => F (zlp10 F n) a0 a1 a2 a3 a4 a5 a6 a7 a8 a9
theorem zlp10_ind {A0 A1 A2 A3 A4 A5 A6 A7 A8 A9 R : Type} {F : (A0 → A1 → A2 → A3 → A4 → A5 → A6 → A7 → A8 → A9 → Option R) → A0 → A1 → A2 → A3 → A4 → A5 → A6 → A7 → A8 → A9 → Option R} {r : R} {P : A0 → A1 → A2 → A3 → A4 → A5 → A6 → A7 → A8 → A9 → Prop} (h : ∀ self : A0 → A1 → A2 → A3 → A4 → A5 → A6 → A7 → A8 → A9 → Option R, (∀ (a0 : A0) (a1 : A1) (a2 : A2) (a3 : A3) (a4 : A4) (a5 : A5) (a6 : A6) (a7 : A7) (a8 : A8) (a9 : A9), self a0 a1 a2 a3 a4 a5 a6 a7 a8 a9 = some r → P a0 a1 a2 a3 a4 a5 a6 a7 a8 a9) → ∀ (a0 : A0) (a1 : A1) (a2 : A2) (a3 : A3) (a4 : A4) (a5 : A5) (a6 : A6) (a7 : A7) (a8 : A8) (a9 : A9), F self a0 a1 a2 a3 a4 a5 a6 a7 a8 a9 = some r → P a0 a1 a2 a3 a4 a5 a6 a7 a8 a9) : ∀ (n : Nat) (a0 : A0) (a1 : A1) (a2 : A2) (a3 : A3) (a4 : A4) (a5 : A5) (a6 : A6) (a7 : A7) (a8 : A8) (a9 : A9), zlp10 F n a0 a1 a2 a3 a4 a5 a6 a7 a8 a9 = some r → P a0 a1 a2 a3 a4 a5 a6 a7 a8 a9
  | 0, _, _, _, _, _, _, _, _, _, _, e => nomatch e
  | n + 1, a0, a1, a2, a3, a4, a5, a6, a7, a8, a9, e => h (zlp10 F n) (zlp10_ind h n) a0 a1 a2 a3 a4 a5 a6 a7 a8 a9 e
theorem zlp10_s {A0 A1 A2 A3 A4 A5 A6 A7 A8 A9 R : Type} (F : (A0 → A1 → A2 → A3 → A4 → A5 → A6 → A7 → A8 → A9 → Option R) → A0 → A1 → A2 → A3 → A4 → A5 → A6 → A7 → A8 → A9 → Option R) (n : Nat) (a0 : A0) (a1 : A1) (a2 : A2) (a3 : A3) (a4 : A4) (a5 : A5) (a6 : A6) (a7 : A7) (a8 : A8) (a9 : A9) : zlp10 F (n + 1) a0 a1 a2 a3 a4 a5 a6 a7 a8 a9 = F (zlp10 F n) a0 a1 a2 a3 a4 a5 a6 a7 a8 a9 := rfl
def gr10 {A0 A1 A2 A3 A4 A5 A6 A7 A8 A9 R : Type} (F : (Nat → A0 → A1 → A2 → A3 → A4 → A5 → A6 → A7 → A8 → A9 → Option R) → Nat → A0 → A1 → A2 → A3 → A4 → A5 → A6 → A7 → A8 → A9 → Option R) : Nat → Nat → A0 → A1 → A2 → A3 → A4 → A5 → A6 → A7 → A8 → A9 → Option R
  | 0, _, _, _, _, _, _, _, _, _, _, _ => none
  | d + 1, t, a0, a1, a2, a3, a4, a5, a6, a7, a8, a9 => F (gr10 F d) t a0 a1 a2 a3 a4 a5 a6 a7 a8 a9
def bd11 {A0 A1 A2 A3 A4 A5 A6 A7 A8 A9 A10 R : Type} (x : Option (A0 × A1 × A2 × A3 × A4 × A5 × A6 × A7 × A8 × A9 × A10)) (f : A0 → A1 → A2 → A3 → A4 → A5 → A6 → A7 → A8 → A9 → A10 → Option R) : Option R := match x with | none => none | some (a0, a1, a2, a3, a4, a5, a6, a7, a8, a9, a10) => f a0 a1 a2 a3 a4 a5 a6 a7 a8 a9 a10
theorem bd11_s {A0 A1 A2 A3 A4 A5 A6 A7 A8 A9 A10 R : Type} {x : Option (A0 × A1 × A2 × A3 × A4 × A5 × A6 × A7 × A8 × A9 × A10)} {f : A0 → A1 → A2 → A3 → A4 → A5 → A6 → A7 → A8 → A9 → A10 → Option R} {r : R} (h : bd11 x f = some r) : ∃ a0 : A0, ∃ a1 : A1, ∃ a2 : A2, ∃ a3 : A3, ∃ a4 : A4, ∃ a5 : A5, ∃ a6 : A6, ∃ a7 : A7, ∃ a8 : A8, ∃ a9 : A9, ∃ a10 : A10, x = some (a0, a1, a2, a3, a4, a5, a6, a7, a8, a9, a10) ∧ f a0 a1 a2 a3 a4 a5 a6 a7 a8 a9 a10 = some r := by
  cases x with
  | none => cases h
  | some u => obtain ⟨a0, a1, a2, a3, a4, a5, a6, a7, a8, a9, a10⟩ := u; exact ⟨a0, a1, a2, a3, a4, a5, a6, a7, a8, a9, a10, rfl, h⟩
def zlp11 {A0 A1 A2 A3 A4 A5 A6 A7 A8 A9 A10 R : Type} (F : (A0 → A1 → A2 → A3 → A4 → A5 → A6 → A7 → A8 → A9 → A10 → Option R) → A0 → A1 → A2 → A3 → A4 → A5 → A6 → A7 → A8 → A9 → A10 → Option R) : Nat → A0 → A1 → A2 → A3 → A4 → A5 → A6 → A7 → A8 → A9 → A10 → Option R
  | 0, _, _, _, _, _, _, _, _, _, _, _ => none
  | n + 1, a0, a1, a2, a3, a4, a5, a6, a7, a8, a9, a10 => F (zlp11 F n) a0 a1 a2 a3 a4 a5 a6 a7 a8 a9 a10
theorem zlp11_ind {A0 A1 A2 A3 A4 A5 A6 A7 A8 A9 A10 R : Type} {F : (A0 → A1 → A2 → A3 → A4 → A5 → A6 → A7 → A8 → A9 → A10 → Option R) → A0 → A1 → A2 → A3 → A4 → A5 → A6 → A7 → A8 → A9 → A10 → Option R} {r : R} {P : A0 → A1 → A2 → A3 → A4 → A5 → A6 → A7 → A8 → A9 → A10 → Prop} (h : ∀ self : A0 → A1 → A2 → A3 → A4 → A5 → A6 → A7 → A8 → A9 → A10 → Option R, (∀ (a0 : A0) (a1 : A1) (a2 : A2) (a3 : A3) (a4 : A4) (a5 : A5) (a6 : A6) (a7 : A7) (a8 : A8) (a9 : A9) (a10 : A10), self a0 a1 a2 a3 a4 a5 a6 a7 a8 a9 a10 = some r → P a0 a1 a2 a3 a4 a5 a6 a7 a8 a9 a10) → ∀ (a0 : A0) (a1 : A1) (a2 : A2) (a3 : A3) (a4 : A4) (a5 : A5) (a6 : A6) (a7 : A7) (a8 : A8) (a9 : A9) (a10 : A10), F self a0 a1 a2 a3 a4 a5 a6 a7 a8 a9 a10 = some r → P a0 a1 a2 a3 a4 a5 a6 a7 a8 a9 a10) : ∀ (n : Nat) (a0 : A0) (a1 : A1) (a2 : A2) (a3 : A3) (a4 : A4) (a5 : A5) (a6 : A6) (a7 : A7) (a8 : A8) (a9 : A9) (a10 : A10), zlp11 F n a0 a1 a2 a3 a4 a5 a6 a7 a8 a9 a10 = some r → P a0 a1 a2 a3 a4 a5 a6 a7 a8 a9 a10
  | 0, _, _, _, _, _, _, _, _, _, _, _, e => nomatch e
  | n + 1, a0, a1, a2, a3, a4, a5, a6, a7, a8, a9, a10, e => h (zlp11 F n) (zlp11_ind h n) a0 a1 a2 a3 a4 a5 a6 a7 a8 a9 a10 e
theorem zlp11_s {A0 A1 A2 A3 A4 A5 A6 A7 A8 A9 A10 R : Type} (F : (A0 → A1 → A2 → A3 → A4 → A5 → A6 → A7 → A8 → A9 → A10 → Option R) → A0 → A1 → A2 → A3 → A4 → A5 → A6 → A7 → A8 → A9 → A10 → Option R) (n : Nat) (a0 : A0) (a1 : A1) (a2 : A2) (a3 : A3) (a4 : A4) (a5 : A5) (a6 : A6) (a7 : A7) (a8 : A8) (a9 : A9) (a10 : A10) : zlp11 F (n + 1) a0 a1 a2 a3 a4 a5 a6 a7 a8 a9 a10 = F (zlp11 F n) a0 a1 a2 a3 a4 a5 a6 a7 a8 a9 a10 := rfl
def gr11 {A0 A1 A2 A3 A4 A5 A6 A7 A8 A9 A10 R : Type} (F : (Nat → A0 → A1 → A2 → A3 → A4 → A5 → A6 → A7 → A8 → A9 → A10 → Option R) → Nat → A0 → A1 → A2 → A3 → A4 → A5 → A6 → A7 → A8 → A9 → A10 → Option R) : Nat → Nat → A0 → A1 → A2 → A3 → A4 → A5 → A6 → A7 → A8 → A9 → A10 → Option R
  | 0, _, _, _, _, _, _, _, _, _, _, _, _ => none
  | d + 1, t, a0, a1, a2, a3, a4, a5, a6, a7, a8, a9, a10 => F (gr11 F d) t a0 a1 a2 a3 a4 a5 a6 a7 a8 a9 a10
def bd12 {A0 A1 A2 A3 A4 A5 A6 A7 A8 A9 A10 A11 R : Type} (x : Option (A0 × A1 × A2 × A3 × A4 × A5 × A6 × A7 × A8 × A9 × A10 × A11)) (f : A0 → A1 → A2 → A3 → A4 → A5 → A6 → A7 → A8 → A9 → A10 → A11 → Option R) : Option R := match x with | none => none | some (a0, a1, a2, a3, a4, a5, a6, a7, a8, a9, a10, a11) => f a0 a1 a2 a3 a4 a5 a6 a7 a8 a9 a10 a11
theorem bd12_s {A0 A1 A2 A3 A4 A5 A6 A7 A8 A9 A10 A11 R : Type} {x : Option (A0 × A1 × A2 × A3 × A4 × A5 × A6 × A7 × A8 × A9 × A10 × A11)} {f : A0 → A1 → A2 → A3 → A4 → A5 → A6 → A7 → A8 → A9 → A10 → A11 → Option R} {r : R} (h : bd12 x f = some r) : ∃ a0 : A0, ∃ a1 : A1, ∃ a2 : A2, ∃ a3 : A3, ∃ a4 : A4, ∃ a5 : A5, ∃ a6 : A6, ∃ a7 : A7, ∃ a8 : A8, ∃ a9 : A9, ∃ a10 : A10, ∃ a11 : A11, x = some (a0, a1, a2, a3, a4, a5, a6, a7, a8, a9, a10, a11) ∧ f a0 a1 a2 a3 a4 a5 a6 a7 a8 a9 a10 a11 = some r := by
  cases x with
  | none => cases h
  | some u => obtain ⟨a0, a1, a2, a3, a4, a5, a6, a7, a8, a9, a10, a11⟩ := u; exact ⟨a0, a1, a2, a3, a4, a5, a6, a7, a8, a9, a10, a11, rfl, h⟩
def zlp12 {A0 A1 A2 A3 A4 A5 A6 A7 A8 A9 A10 A11 R : Type} (F : (A0 → A1 → A2 → A3 → A4 → A5 → A6 → A7 → A8 → A9 → A10 → A11 → Option R) → A0 → A1 → A2 → A3 → A4 → A5 → A6 → A7 → A8 → A9 → A10 → A11 → Option R) : Nat → A0 → A1 → A2 → A3 → A4 → A5 → A6 → A7 → A8 → A9 → A10 → A11 → Option R
  | 0, _, _, _, _, _, _, _, _, _, _, _, _ => none
  | n + 1, a0, a1, a2, a3, a4, a5, a6, a7, a8, a9, a10, a11 => F (zlp12 F n) a0 a1 a2 a3 a4 a5 a6 a7 a8 a9 a10 a11
theorem zlp12_ind {A0 A1 A2 A3 A4 A5 A6 A7 A8 A9 A10 A11 R : Type} {F : (A0 → A1 → A2 → A3 → A4 → A5 → A6 → A7 → A8 → A9 → A10 → A11 → Option R) → A0 → A1 → A2 → A3 → A4 → A5 → A6 → A7 → A8 → A9 → A10 → A11 → Option R} {r : R} {P : A0 → A1 → A2 → A3 → A4 → A5 → A6 → A7 → A8 → A9 → A10 → A11 → Prop} (h : ∀ self : A0 → A1 → A2 → A3 → A4 → A5 → A6 → A7 → A8 → A9 → A10 → A11 → Option R, (∀ (a0 : A0) (a1 : A1) (a2 : A2) (a3 : A3) (a4 : A4) (a5 : A5) (a6 : A6) (a7 : A7) (a8 : A8) (a9 : A9) (a10 : A10) (a11 : A11), self a0 a1 a2 a3 a4 a5 a6 a7 a8 a9 a10 a11 = some r → P a0 a1 a2 a3 a4 a5 a6 a7 a8 a9 a10 a11) → ∀ (a0 : A0) (a1 : A1) (a2 : A2) (a3 : A3) (a4 : A4) (a5 : A5) (a6 : A6) (a7 : A7) (a8 : A8) (a9 : A9) (a10 : A10) (a11 : A11), F self a0 a1 a2 a3 a4 a5 a6 a7 a8 a9 a10 a11 = some r → P a0 a1 a2 a3 a4 a5 a6 a7 a8 a9 a10 a11) : ∀ (n : Nat) (a0 : A0) (a1 : A1) (a2 : A2) (a3 : A3) (a4 : A4) (a5 : A5) (a6 : A6) (a7 : A7) (a8 : A8) (a9 : A9) (a10 : A10) (a11 : A11), zlp12 F n a0 a1 a2 a3 a4 a5 a6 a7 a8 a9 a10 a11 = some r → P a0 a1 a2 a3 a4 a5 a6 a7 a8 a9 a10 a11
  | 0, _, _, _, _, _, _, _, _, _, _, _, _, e => nomatch e
  | n + 1, a0, a1, a2, a3, a4, a5, a6, a7, a8, a9, a10, a11, e => h (zlp12 F n) (zlp12_ind h n) a0 a1 a2 a3 a4 a5 a6 a7 a8 a9 a10 a11 e
theorem zlp12_s {A0 A1 A2 A3 A4 A5 A6 A7 A8 A9 A10 A11 R : Type} (F : (A0 → A1 → A2 → A3 → A4 → A5 → A6 → A7 → A8 → A9 → A10 → A11 → Option R) → A0 → A1 → A2 → A3 → A4 → A5 → A6 → A7 → A8 → A9 → A10 → A11 → Option R) (n : Nat) (a0 : A0) (a1 : A1) (a2 : A2) (a3 : A3) (a4 : A4) (a5 : A5) (a6 : A6) (a7 : A7) (a8 : A8) (a9 : A9) (a10 : A10) (a11 : A11) : zlp12 F (n + 1) a0 a1 a2 a3 a4 a5 a6 a7 a8 a9 a10 a11 = F (zlp12 F n) a0 a1 a2 a3 a4 a5 a6 a7 a8 a9 a10 a11 := rfl
def gr12 {A0 A1 A2 A3 A4 A5 A6 A7 A8 A9 A10 A11 R : Type} (F : (Nat → A0 → A1 → A2 → A3 → A4 → A5 → A6 → A7 → A8 → A9 → A10 → A11 → Option R) → Nat → A0 → A1 → A2 → A3 → A4 → A5 → A6 → A7 → A8 → A9 → A10 → A11 → Option R) : Nat → Nat → A0 → A1 → A2 → A3 → A4 → A5 → A6 → A7 → A8 → A9 → A10 → A11 → Option R
  | 0, _, _, _, _, _, _, _, _, _, _, _, _, _ => none
  | d + 1, t, a0, a1, a2, a3, a4, a5, a6, a7, a8, a9, a10, a11 => F (gr12 F d) t a0 a1 a2 a3 a4 a5 a6 a7 a8 a9 a10 a11
def bd13 {A0 A1 A2 A3 A4 A5 A6 A7 A8 A9 A10 A11 A12 R : Type} (x : Option (A0 × A1 × A2 × A3 × A4 × A5 × A6 × A7 × A8 × A9 × A10 × A11 × A12)) (f : A0 → A1 → A2 → A3 → A4 → A5 → A6 → A7 → A8 → A9 → A10 → A11 → A12 → Option R) : Option R := match x with | none => none | some (a0, a1, a2, a3, a4, a5, a6, a7, a8, a9, a10, a11, a12) => f a0 a1 a2 a3 a4 a5 a6 a7 a8 a9 a10 a11 a12
theorem bd13_s {A0 A1 A2 A3 A4 A5 A6 A7 A8 A9 A10 A11 A12 R : Type} {x : Option (A0 × A1 × A2 × A3 × A4 × A5 × A6 × A7 × A8 × A9 × A10 × A11 × A12)} {f : A0 → A1 → A2 → A3 → A4 → A5 → A6 → A7 → A8 → A9 → A10 → A11 → A12 → Option R} {r : R} (h : bd13 x f = some r) : ∃ a0 : A0, ∃ a1 : A1, ∃ a2 : A2, ∃ a3 : A3, ∃ a4 : A4, ∃ a5 : A5, ∃ a6 : A6, ∃ a7 : A7, ∃ a8 : A8, ∃ a9 : A9, ∃ a10 : A10, ∃ a11 : A11, ∃ a12 : A12, x = some (a0, a1, a2, a3, a4, a5, a6, a7, a8, a9, a10, a11, a12) ∧ f a0 a1 a2 a3 a4 a5 a6 a7 a8 a9 a10 a11 a12 = some r := by
  cases x with
  | none => cases h
  | some u => obtain ⟨a0, a1, a2, a3, a4, a5, a6, a7, a8, a9, a10, a11, a12⟩ := u; exact ⟨a0, a1, a2, a3, a4, a5, a6, a7, a8, a9, a10, a11, a12, rfl, h⟩
def zlp13 {A0 A1 A2 A3 A4 A5 A6 A7 A8 A9 A10 A11 A12 R : Type} (F : (A0 → A1 → A2 → A3 → A4 → A5 → A6 → A7 → A8 → A9 → A10 → A11 → A12 → Option R) → A0 → A1 → A2 → A3 → A4 → A5 → A6 → A7 → A8 → A9 → A10 → A11 → A12 → Option R) : Nat → A0 → A1 → A2 → A3 → A4 → A5 → A6 → A7 → A8 → A9 → A10 → A11 → A12 → Option R
  | 0, _, _, _, _, _, _, _, _, _, _, _, _, _ => none
  | n + 1, a0, a1, a2, a3, a4, a5, a6, a7, a8, a9, a10, a11, a12 => F (zlp13 F n) a0 a1 a2 a3 a4 a5 a6 a7 a8 a9 a10 a11 a12
theorem zlp13_ind {A0 A1 A2 A3 A4 A5 A6 A7 A8 A9 A10 A11 A12 R : Type} {F : (A0 → A1 → A2 → A3 → A4 → A5 → A6 → A7 → A8 → A9 → A10 → A11 → A12 → Option R) → A0 → A1 → A2 → A3 → A4 → A5 → A6 → A7 → A8 → A9 → A10 → A11 → A12 → Option R} {r : R} {P : A0 → A1 → A2 → A3 → A4 → A5 → A6 → A7 → A8 → A9 → A10 → A11 → A12 → Prop} (h : ∀ self : A0 → A1 → A2 → A3 → A4 → A5 → A6 → A7 → A8 → A9 → A10 → A11 → A12 → Option R, (∀ (a0 : A0) (a1 : A1) (a2 : A2) (a3 : A3) (a4 : A4) (a5 : A5) (a6 : A6) (a7 : A7) (a8 : A8) (a9 : A9) (a10 : A10) (a11 : A11) (a12 : A12), self a0 a1 a2 a3 a4 a5 a6 a7 a8 a9 a10 a11 a12 = some r → P a0 a1 a2 a3 a4 a5 a6 a7 a8 a9 a10 a11 a12) → ∀ (a0 : A0) (a1 : A1) (a2 : A2) (a3 : A3) (a4 : A4) (a5 : A5) (a6 : A6) (a7 : A7) (a8 : A8) (a9 : A9) (a10 : A10) (a11 : A11) (a12 : A12), F self a0 a1 a2 a3 a4 a5 a6 a7 a8 a9 a10 a11 a12 = some r → P a0 a1 a2 a3 a4 a5 a6 a7 a8 a9 a10 a11 a12) : ∀ (n : Nat) (a0 : A0) (a1 : A1) (a2 : A2) (a3 : A3) (a4 : A4) (a5 : A5) (a6 : A6) (a7 : A7) (a8 : A8) (a9 : A9) (a10 : A10) (a11 : A11) (a12 : A12), zlp13 F n a0 a1 a2 a3 a4 a5 a6 a7 a8 a9 a10 a11 a12 = some r → P a0 a1 a2 a3 a4 a5 a6 a7 a8 a9 a10 a11 a12
  | 0, _, _, _, _, _, _, _, _, _, _, _, _, _, e => nomatch e
  | n + 1, a0, a1, a2, a3, a4, a5, a6, a7, a8, a9, a10, a11, a12, e => h (zlp13 F n) (zlp13_ind h n) a0 a1 a2 a3 a4 a5 a6 a7 a8 a9 a10 a11 a12 e
theorem zlp13_s {A0 A1 A2 A3 A4 A5 A6 A7 A8 A9 A10 A11 A12 R : Type} (F : (A0 → A1 → A2 → A3 → A4 → A5 → A6 → A7 → A8 → A9 → A10 → A11 → A12 → Option R) → A0 → A1 → A2 → A3 → A4 → A5 → A6 → A7 → A8 → A9 → A10 → A11 → A12 → Option R) (n : Nat) (a0 : A0) (a1 : A1) (a2 : A2) (a3 : A3) (a4 : A4) (a5 : A5) (a6 : A6) (a7 : A7) (a8 : A8) (a9 : A9) (a10 : A10) (a11 : A11) (a12 : A12) : zlp13 F (n + 1) a0 a1 a2 a3 a4 a5 a6 a7 a8 a9 a10 a11 a12 = F (zlp13 F n) a0 a1 a2 a3 a4 a5 a6 a7 a8 a9 a10 a11 a12 := rfl
def gr13 {A0 A1 A2 A3 A4 A5 A6 A7 A8 A9 A10 A11 A12 R : Type} (F : (Nat → A0 → A1 → A2 → A3 → A4 → A5 → A6 → A7 → A8 → A9 → A10 → A11 → A12 → Option R) → Nat → A0 → A1 → A2 → A3 → A4 → A5 → A6 → A7 → A8 → A9 → A10 → A11 → A12 → Option R) : Nat → Nat → A0 → A1 → A2 → A3 → A4 → A5 → A6 → A7 → A8 → A9 → A10 → A11 → A12 → Option R
  | 0, _, _, _, _, _, _, _, _, _, _, _, _, _, _ => none
  | d + 1, t, a0, a1, a2, a3, a4, a5, a6, a7, a8, a9, a10, a11, a12 => F (gr13 F d) t a0 a1 a2 a3 a4 a5 a6 a7 a8 a9 a10 a11 a12
def bd14 {A0 A1 A2 A3 A4 A5 A6 A7 A8 A9 A10 A11 A12 A13 R : Type} (x : Option (A0 × A1 × A2 × A3 × A4 × A5 × A6 × A7 × A8 × A9 × A10 × A11 × A12 × A13)) (f : A0 → A1 → A2 → A3 → A4 → A5 → A6 → A7 → A8 → A9 → A10 → A11 → A12 → A13 → Option R) : Option R := match x with | none => none | some (a0, a1, a2, a3, a4, a5, a6, a7, a8, a9, a10, a11, a12, a13) => f a0 a1 a2 a3 a4 a5 a6 a7 a8 a9 a10 a11 a12 a13
theorem bd14_s {A0 A1 A2 A3 A4 A5 A6 A7 A8 A9 A10 A11 A12 A13 R : Type} {x : Option (A0 × A1 × A2 × A3 × A4 × A5 × A6 × A7 × A8 × A9 × A10 × A11 × A12 × A13)} {f : A0 → A1 → A2 → A3 → A4 → A5 → A6 → A7 → A8 → A9 → A10 → A11 → A12 → A13 → Option R} {r : R} (h : bd14 x f = some r) : ∃ a0 : A0, ∃ a1 : A1, ∃ a2 : A2, ∃ a3 : A3, ∃ a4 : A4, ∃ a5 : A5, ∃ a6 : A6, ∃ a7 : A7, ∃ a8 : A8, ∃ a9 : A9, ∃ a10 : A10, ∃ a11 : A11, ∃ a12 : A12, ∃ a13 : A13, x = some (a0, a1, a2, a3, a4, a5, a6, a7, a8, a9, a10, a11, a12, a13) ∧ f a0 a1 a2 a3 a4 a5 a6 a7 a8 a9 a10 a11 a12 a13 = some r := by
  cases x with
  | none => cases h
  | some u => obtain ⟨a0, a1, a2, a3, a4, a5, a6, a7, a8, a9, a10, a11, a12, a13⟩ := u; exact ⟨a0, a1, a2, a3, a4, a5, a6, a7, a8, a9, a10, a11, a12, a13, rfl, h⟩
def zlp14 {A0 A1 A2 A3 A4 A5 A6 A7 A8 A9 A10 A11 A12 A13 R : Type} (F : (A0 → A1 → A2 → A3 → A4 → A5 → A6 → A7 → A8 → A9 → A10 → A11 → A12 → A13 → Option R) → A0 → A1 → A2 → A3 → A4 → A5 → A6 → A7 → A8 → A9 → A10 → A11 → A12 → A13 → Option R) : Nat → A0 → A1 → A2 → A3 → A4 → A5 → A6 → A7 → A8 → A9 → A10 → A11 → A12 → A13 → Option R
  | 0, _, _, _, _, _, _, _, _, _, _, _, _, _, _ => none
  | n + 1, a0, a1, a2, a3, a4, a5, a6, a7, a8, a9, a10, a11, a12, a13 => F (zlp14 F n) a0 a1 a2 a3 a4 a5 a6 a7 a8 a9 a10 a11 a12 a13
theorem zlp14_ind {A0 A1 A2 A3 A4 A5 A6 A7 A8 A9 A10 A11 A12 A13 R : Type} {F : (A0 → A1 → A2 → A3 → A4 → A5 → A6 → A7 → A8 → A9 → A10 → A11 → A12 → A13 → Option R) → A0 → A1 → A2 → A3 → A4 → A5 → A6 → A7 → A8 → A9 → A10 → A11 → A12 → A13 → Option R} {r : R} {P : A0 → A1 → A2 → A3 → A4 → A5 → A6 → A7 → A8 → A9 → A10 → A11 → A12 → A13 → Prop} (h : ∀ self : A0 → A1 → A2 → A3 → A4 → A5 → A6 → A7 → A8 → A9 → A10 → A11 → A12 → A13 → Option R, (∀ (a0 : A0) (a1 : A1) (a2 : A2) (a3 : A3) (a4 : A4) (a5 : A5) (a6 : A6) (a7 : A7) (a8 : A8) (a9 : A9) (a10 : A10) (a11 : A11) (a12 : A12) (a13 : A13), self a0 a1 a2 a3 a4 a5 a6 a7 a8 a9 a10 a11 a12 a13 = some r → P a0 a1 a2 a3 a4 a5 a6 a7 a8 a9 a10 a11 a12 a13) → ∀ (a0 : A0) (a1 : A1) (a2 : A2) (a3 : A3) (a4 : A4) (a5 : A5) (a6 : A6) (a7 : A7) (a8 : A8) (a9 : A9) (a10 : A10) (a11 : A11) (a12 : A12) (a13 : A13), F self a0 a1 a2 a3 a4 a5 a6 a7 a8 a9 a10 a11 a12 a13 = some r → P a0 a1 a2 a3 a4 a5 a6 a7 a8 a9 a10 a11 a12 a13) : ∀ (n : Nat) (a0 : A0) (a1 : A1) (a2 : A2) (a3 : A3) (a4 : A4) (a5 : A5) (a6 : A6) (a7 : A7) (a8 : A8) (a9 : A9) (a10 : A10) (a11 : A11) (a12 : A12) (a13 : A13), zlp14 F n a0 a1 a2 a3 a4 a5 a6 a7 a8 a9 a10 a11 a12 a13 = some r → P a0 a1 a2 a3 a4 a5 a6 a7 a8 a9 a10 a11 a12 a13
  | 0, _, _, _, _, _, _, _, _, _, _, _, _, _, _, e => nomatch e
  | n + 1, a0, a1, a2, a3, a4, a5, a6, a7, a8, a9, a10, a11, a12, a13, e => h (zlp14 F n) (zlp14_ind h n) a0 a1 a2 a3 a4 a5 a6 a7 a8 a9 a10 a11 a12 a13 e
theorem zlp14_s {A0 A1 A2 A3 A4 A5 A6 A7 A8 A9 A10 A11 A12 A13 R : Type} (F : (A0 → A1 → A2 → A3 → A4 → A5 → A6 → A7 → A8 → A9 → A10 → A11 → A12 → A13 → Option R) → A0 → A1 → A2 → A3 → A4 → A5 → A6 → A7 → A8 → A9 → A10 → A11 → A12 → A13 → Option R) (n : Nat) (a0 : A0) (a1 : A1) (a2 : A2) (a3 : A3) (a4 : A4) (a5 : A5) (a6 : A6) (a7 : A7) (a8 : A8) (a9 : A9) (a10 : A10) (a11 : A11) (a12 : A12) (a13 : A13) : zlp14 F (n + 1) a0 a1 a2 a3 a4 a5 a6 a7 a8 a9 a10 a11 a12 a13 = F (zlp14 F n) a0 a1 a2 a3 a4 a5 a6 a7 a8 a9 a10 a11 a12 a13 := rfl
def gr14 {A0 A1 A2 A3 A4 A5 A6 A7 A8 A9 A10 A11 A12 A13 R : Type} (F : (Nat → A0 → A1 → A2 → A3 → A4 → A5 → A6 → A7 → A8 → A9 → A10 → A11 → A12 → A13 → Option R) → Nat → A0 → A1 → A2 → A3 → A4 → A5 → A6 → A7 → A8 → A9 → A10 → A11 → A12 → A13 → Option R) : Nat → Nat → A0 → A1 → A2 → A3 → A4 → A5 → A6 → A7 → A8 → A9 → A10 → A11 → A12 → A13 → Option R
  | 0, _, _, _, _, _, _, _, _, _, _, _, _, _, _, _ => none
  | d + 1, t, a0, a1, a2, a3, a4, a5, a6, a7, a8, a9, a10, a11, a12, a13 => F (gr14 F d) t a0 a1 a2 a3 a4 a5 a6 a7 a8 a9 a10 a11 a12 a13
def bd15 {A0 A1 A2 A3 A4 A5 A6 A7 A8 A9 A10 A11 A12 A13 A14 R : Type} (x : Option (A0 × A1 × A2 × A3 × A4 × A5 × A6 × A7 × A8 × A9 × A10 × A11 × A12 × A13 × A14)) (f : A0 → A1 → A2 → A3 → A4 → A5 → A6 → A7 → A8 → A9 → A10 → A11 → A12 → A13 → A14 → Option R) : Option R := match x with | none => none | some (a0, a1, a2, a3, a4, a5, a6, a7, a8, a9, a10, a11, a12, a13, a14) => f a0 a1 a2 a3 a4 a5 a6 a7 a8 a9 a10 a11 a12 a13 a14
theorem bd15_s {A0 A1 A2 A3 A4 A5 A6 A7 A8 A9 A10 A11 A12 A13 A14 R : Type} {x : Option (A0 × A1 × A2 × A3 × A4 × A5 × A6 × A7 × A8 × A9 × A10 × A11 × A12 × A13 × A14)} {f : A0 → A1 → A2 → A3 → A4 → A5 → A6 → A7 → A8 → A9 → A10 → A11 → A12 → A13 → A14 → Option R} {r : R} (h : bd15 x f = some r) : ∃ a0 : A0, ∃ a1 : A1, ∃ a2 : A2, ∃ a3 : A3, ∃ a4 : A4, ∃ a5 : A5, ∃ a6 : A6, ∃ a7 : A7, ∃ a8 : A8, ∃ a9 : A9, ∃ a10 : A10, ∃ a11 : A11, ∃ a12 : A12, ∃ a13 : A13, ∃ a14 : A14, x = some (a0, a1, a2, a3, a4, a5, a6, a7, a8, a9, a10, a11, a12, a13, a14) ∧ f a0 a1 a2 a3 a4 a5 a6 a7 a8 a9 a10 a11 a12 a13 a14 = some r := by
  cases x with
  | none => cases h
  | some u => obtain ⟨a0, a1, a2, a3, a4, a5, a6, a7, a8, a9, a10, a11, a12, a13, a14⟩ := u; exact ⟨a0, a1, a2, a3, a4, a5, a6, a7, a8, a9, a10, a11, a12, a13, a14, rfl, h⟩
def zlp15 {A0 A1 A2 A3 A4 A5 A6 A7 A8 A9 A10 A11 A12 A13 A14 R : Type} (F : (A0 → A1 → A2 → A3 → A4 → A5 → A6 → A7 → A8 → A9 → A10 → A11 → A12 → A13 → A14 → Option R) → A0 → A1 → A2 → A3 → A4 → A5 → A6 → A7 → A8 → A9 → A10 → A11 → A12 → A13 → A14 → Option R) : Nat → A0 → A1 → A2 → A3 → A4 → A5 → A6 → A7 → A8 → A9 → A10 → A11 → A12 → A13 → A14 → Option R
  | 0, _, _, _, _, _, _, _, _, _, _, _, _, _, _, _ => none
  | n + 1, a0, a1, a2, a3, a4, a5, a6, a7, a8, a9, a10, a11, a12, a13, a14 => F (zlp15 F n) a0 a1 a2 a3 a4 a5 a6 a7 a8 a9 a10 a11 a12 a13 a14
theorem zlp15_ind {A0 A1 A2 A3 A4 A5 A6 A7 A8 A9 A10 A11 A12 A13 A14 R : Type} {F : (A0 → A1 → A2 → A3 → A4 → A5 → A6 → A7 → A8 → A9 → A10 → A11 → A12 → A13 → A14 → Option R) → A0 → A1 → A2 → A3 → A4 → A5 → A6 → A7 → A8 → A9 → A10 → A11 → A12 → A13 → A14 → Option R} {r : R} {P : A0 → A1 → A2 → A3 → A4 → A5 → A6 → A7 → A8 → A9 → A10 → A11 → A12 → A13 → A14 → Prop} (h : ∀ self : A0 → A1 → A2 → A3 → A4 → A5 → A6 → A7 → A8 → A9 → A10 → A11 → A12 → A13 → A14 → Option R, (∀ (a0 : A0) (a1 : A1) (a2 : A2) (a3 : A3) (a4 : A4) (a5 : A5) (a6 : A6) (a7 : A7) (a8 : A8) (a9 : A9) (a10 : A10) (a11 : A11) (a12 : A12) (a13 : A13) (a14 : A14), self a0 a1 a2 a3 a4 a5 a6 a7 a8 a9 a10 a11 a12 a13 a14 = some r → P a0 a1 a2 a3 a4 a5 a6 a7 a8 a9 a10 a11 a12 a13 a14) → ∀ (a0 : A0) (a1 : A1) (a2 : A2) (a3 : A3) (a4 : A4) (a5 : A5) (a6 : A6) (a7 : A7) (a8 : A8) (a9 : A9) (a10 : A10) (a11 : A11) (a12 : A12) (a13 : A13) (a14 : A14), F self a0 a1 a2 a3 a4 a5 a6 a7 a8 a9 a10 a11 a12 a13 a14 = some r → P a0 a1 a2 a3 a4 a5 a6 a7 a8 a9 a10 a11 a12 a13 a14) : ∀ (n : Nat) (a0 : A0) (a1 : A1) (a2 : A2) (a3 : A3) (a4 : A4) (a5 : A5) (a6 : A6) (a7 : A7) (a8 : A8) (a9 : A9) (a10 : A10) (a11 : A11) (a12 : A12) (a13 : A13) (a14 : A14), zlp15 F n a0 a1 a2 a3 a4 a5 a6 a7 a8 a9 a10 a11 a12 a13 a14 = some r → P a0 a1 a2 a3 a4 a5 a6 a7 a8 a9 a10 a11 a12 a13 a14
  | 0, _, _, _, _, _, _, _, _, _, _, _, _, _, _, _, e => nomatch e
  | n + 1, a0, a1, a2, a3, a4, a5, a6, a7, a8, a9, a10, a11, a12, a13, a14, e => h (zlp15 F n) (zlp15_ind h n) a0 a1 a2 a3 a4 a5 a6 a7 a8 a9 a10 a11 a12 a13 a14 e
theorem zlp15_s {A0 A1 A2 A3 A4 A5 A6 A7 A8 A9 A10 A11 A12 A13 A14 R : Type} (F : (A0 → A1 → A2 → A3 → A4 → A5 → A6 → A7 → A8 → A9 → A10 → A11 → A12 → A13 → A14 → Option R) → A0 → A1 → A2 → A3 → A4 → A5 → A6 → A7 → A8 → A9 → A10 → A11 → A12 → A13 → A14 → Option R) (n : Nat) (a0 : A0) (a1 : A1) (a2 : A2) (a3 : A3) (a4 : A4) (a5 : A5) (a6 : A6) (a7 : A7) (a8 : A8) (a9 : A9) (a10 : A10) (a11 : A11) (a12 : A12) (a13 : A13) (a14 : A14) : zlp15 F (n + 1) a0 a1 a2 a3 a4 a5 a6 a7 a8 a9 a10 a11 a12 a13 a14 = F (zlp15 F n) a0 a1 a2 a3 a4 a5 a6 a7 a8 a9 a10 a11 a12 a13 a14 := rfl
def bd16 {A0 A1 A2 A3 A4 A5 A6 A7 A8 A9 A10 A11 A12 A13 A14 A15 R : Type} (x : Option (A0 × A1 × A2 × A3 × A4 × A5 × A6 × A7 × A8 × A9 × A10 × A11 × A12 × A13 × A14 × A15)) (f : A0 → A1 → A2 → A3 → A4 → A5 → A6 → A7 → A8 → A9 → A10 → A11 → A12 → A13 → A14 → A15 → Option R) : Option R := match x with | none => none | some (a0, a1, a2, a3, a4, a5, a6, a7, a8, a9, a10, a11, a12, a13, a14, a15) => f a0 a1 a2 a3 a4 a5 a6 a7 a8 a9 a10 a11 a12 a13 a14 a15
theorem bd16_s {A0 A1 A2 A3 A4 A5 A6 A7 A8 A9 A10 A11 A12 A13 A14 A15 R : Type} {x : Option (A0 × A1 × A2 × A3 × A4 × A5 × A6 × A7 × A8 × A9 × A10 × A11 × A12 × A13 × A14 × A15)} {f : A0 → A1 → A2 → A3 → A4 → A5 → A6 → A7 → A8 → A9 → A10 → A11 → A12 → A13 → A14 → A15 → Option R} {r : R} (h : bd16 x f = some r) : ∃ a0 : A0, ∃ a1 : A1, ∃ a2 : A2, ∃ a3 : A3, ∃ a4 : A4, ∃ a5 : A5, ∃ a6 : A6, ∃ a7 : A7, ∃ a8 : A8, ∃ a9 : A9, ∃ a10 : A10, ∃ a11 : A11, ∃ a12 : A12, ∃ a13 : A13, ∃ a14 : A14, ∃ a15 : A15, x = some (a0, a1, a2, a3, a4, a5, a6, a7, a8, a9, a10, a11, a12, a13, a14, a15) ∧ f a0 a1 a2 a3 a4 a5 a6 a7 a8 a9 a10 a11 a12 a13 a14 a15 = some r := by
  cases x with
  | none => cases h
  | some u => obtain ⟨a0, a1, a2, a3, a4, a5, a6, a7, a8, a9, a10, a11, a12, a13, a14, a15⟩ := u; exact ⟨a0, a1, a2, a3, a4, a5, a6, a7, a8, a9, a10, a11, a12, a13, a14, a15, rfl, h⟩
def zlp16 {A0 A1 A2 A3 A4 A5 A6 A7 A8 A9 A10 A11 A12 A13 A14 A15 R : Type} (F : (A0 → A1 → A2 → A3 → A4 → A5 → A6 → A7 → A8 → A9 → A10 → A11 → A12 → A13 → A14 → A15 → Option R) → A0 → A1 → A2 → A3 → A4 → A5 → A6 → A7 → A8 → A9 → A10 → A11 → A12 → A13 → A14 → A15 → Option R) : Nat → A0 → A1 → A2 → A3 → A4 → A5 → A6 → A7 → A8 → A9 → A10 → A11 → A12 → A13 → A14 → A15 → Option R
  | 0, _, _, _, _, _, _, _, _, _, _, _, _, _, _, _, _ => none
  | n + 1, a0, a1, a2, a3, a4, a5, a6, a7, a8, a9, a10, a11, a12, a13, a14, a15 => F (zlp16 F n) a0 a1 a2 a3 a4 a5 a6 a7 a8 a9 a10 a11 a12 a13 a14 a15
theorem zlp16_ind {A0 A1 A2 A3 A4 A5 A6 A7 A8 A9 A10 A11 A12 A13 A14 A15 R : Type} {F : (A0 → A1 → A2 → A3 → A4 → A5 → A6 → A7 → A8 → A9 → A10 → A11 → A12 → A13 → A14 → A15 → Option R) → A0 → A1 → A2 → A3 → A4 → A5 → A6 → A7 → A8 → A9 → A10 → A11 → A12 → A13 → A14 → A15 → Option R} {r : R} {P : A0 → A1 → A2 → A3 → A4 → A5 → A6 → A7 → A8 → A9 → A10 → A11 → A12 → A13 → A14 → A15 → Prop} (h : ∀ self : A0 → A1 → A2 → A3 → A4 → A5 → A6 → A7 → A8 → A9 → A10 → A11 → A12 → A13 → A14 → A15 → Option R, (∀ (a0 : A0) (a1 : A1) (a2 : A2) (a3 : A3) (a4 : A4) (a5 : A5) (a6 : A6) (a7 : A7) (a8 : A8) (a9 : A9) (a10 : A10) (a11 : A11) (a12 : A12) (a13 : A13) (a14 : A14) (a15 : A15), self a0 a1 a2 a3 a4 a5 a6 a7 a8 a9 a10 a11 a12 a13 a14 a15 = some r → P a0 a1 a2 a3 a4 a5 a6 a7 a8 a9 a10 a11 a12 a13 a14 a15) → ∀ (a0 : A0) (a1 : A1) (a2 : A2) (a3 : A3) (a4 : A4) (a5 : A5) (a6 : A6) (a7 : A7) (a8 : A8) (a9 : A9) (a10 : A10) (a11 : A11) (a12 : A12) (a13 : A13) (a14 : A14) (a15 : A15), F self a0 a1 a2 a3 a4 a5 a6 a7 a8 a9 a10 a11 a12 a13 a14 a15 = some r → P a0 a1 a2 a3 a4 a5 a6 a7 a8 a9 a10 a11 a12 a13 a14 a15) : ∀ (n : Nat) (a0 : A0) (a1 : A1) (a2 : A2) (a3 : A3) (a4 : A4) (a5 : A5) (a6 : A6) (a7 : A7) (a8 : A8) (a9 : A9) (a10 : A10) (a11 : A11) (a12 : A12) (a13 : A13) (a14 : A14) (a15 : A15), zlp16 F n a0 a1 a2 a3 a4 a5 a6 a7 a8 a9 a10 a11 a12 a13 a14 a15 = some r → P a0 a1 a2 a3 a4 a5 a6 a7 a8 a9 a10 a11 a12 a13 a14 a15
  | 0, _, _, _, _, _, _, _, _, _, _, _, _, _, _, _, _, e => nomatch e
  | n + 1, a0, a1, a2, a3, a4, a5, a6, a7, a8, a9, a10, a11, a12, a13, a14, a15, e => h (zlp16 F n) (zlp16_ind h n) a0 a1 a2 a3 a4 a5 a6 a7 a8 a9 a10 a11 a12 a13 a14 a15 e
theorem zlp16_s {A0 A1 A2 A3 A4 A5 A6 A7 A8 A9 A10 A11 A12 A13 A14 A15 R : Type} (F : (A0 → A1 → A2 → A3 → A4 → A5 → A6 → A7 → A8 → A9 → A10 → A11 → A12 → A13 → A14 → A15 → Option R) → A0 → A1 → A2 → A3 → A4 → A5 → A6 → A7 → A8 → A9 → A10 → A11 → A12 → A13 → A14 → A15 → Option R) (n : Nat) (a0 : A0) (a1 : A1) (a2 : A2) (a3 : A3) (a4 : A4) (a5 : A5) (a6 : A6) (a7 : A7) (a8 : A8) (a9 : A9) (a10 : A10) (a11 : A11) (a12 : A12) (a13 : A13) (a14 : A14) (a15 : A15) : zlp16 F (n + 1) a0 a1 a2 a3 a4 a5 a6 a7 a8 a9 a10 a11 a12 a13 a14 a15 = F (zlp16 F n) a0 a1 a2 a3 a4 a5 a6 a7 a8 a9 a10 a11 a12 a13 a14 a15 := rfl
def bd17 {A0 A1 A2 A3 A4 A5 A6 A7 A8 A9 A10 A11 A12 A13 A14 A15 A16 R : Type} (x : Option (A0 × A1 × A2 × A3 × A4 × A5 × A6 × A7 × A8 × A9 × A10 × A11 × A12 × A13 × A14 × A15 × A16)) (f : A0 → A1 → A2 → A3 → A4 → A5 → A6 → A7 → A8 → A9 → A10 → A11 → A12 → A13 → A14 → A15 → A16 → Option R) : Option R := match x with | none => none | some (a0, a1, a2, a3, a4, a5, a6, a7, a8, a9, a10, a11, a12, a13, a14, a15, a16) => f a0 a1 a2 a3 a4 a5 a6 a7 a8 a9 a10 a11 a12 a13 a14 a15 a16
theorem bd17_s {A0 A1 A2 A3 A4 A5 A6 A7 A8 A9 A10 A11 A12 A13 A14 A15 A16 R : Type} {x : Option (A0 × A1 × A2 × A3 × A4 × A5 × A6 × A7 × A8 × A9 × A10 × A11 × A12 × A13 × A14 × A15 × A16)} {f : A0 → A1 → A2 → A3 → A4 → A5 → A6 → A7 → A8 → A9 → A10 → A11 → A12 → A13 → A14 → A15 → A16 → Option R} {r : R} (h : bd17 x f = some r) : ∃ a0 : A0, ∃ a1 : A1, ∃ a2 : A2, ∃ a3 : A3, ∃ a4 : A4, ∃ a5 : A5, ∃ a6 : A6, ∃ a7 : A7, ∃ a8 : A8, ∃ a9 : A9, ∃ a10 : A10, ∃ a11 : A11, ∃ a12 : A12, ∃ a13 : A13, ∃ a14 : A14, ∃ a15 : A15, ∃ a16 : A16, x = some (a0, a1, a2, a3, a4, a5, a6, a7, a8, a9, a10, a11, a12, a13, a14, a15, a16) ∧ f a0 a1 a2 a3 a4 a5 a6 a7 a8 a9 a10 a11 a12 a13 a14 a15 a16 = some r := by
  cases x with
  | none => cases h
  | some u => obtain ⟨a0, a1, a2, a3, a4, a5, a6, a7, a8, a9, a10, a11, a12, a13, a14, a15, a16⟩ := u; exact ⟨a0, a1, a2, a3, a4, a5, a6, a7, a8, a9, a10, a11, a12, a13, a14, a15, a16, rfl, h⟩
def zlp17 {A0 A1 A2 A3 A4 A5 A6 A7 A8 A9 A10 A11 A12 A13 A14 A15 A16 R : Type} (F : (A0 → A1 → A2 → A3 → A4 → A5 → A6 → A7 → A8 → A9 → A10 → A11 → A12 → A13 → A14 → A15 → A16 → Option R) → A0 → A1 → A2 → A3 → A4 → A5 → A6 → A7 → A8 → A9 → A10 → A11 → A12 → A13 → A14 → A15 → A16 → Option R) : Nat → A0 → A1 → A2 → A3 → A4 → A5 → A6 → A7 → A8 → A9 → A10 → A11 → A12 → A13 → A14 → A15 → A16 → Option R
  | 0, _, _, _, _, _, _, _, _, _, _, _, _, _, _, _, _, _ => none
  | n + 1, a0, a1, a2, a3, a4, a5, a6, a7, a8, a9, a10, a11, a12, a13, a14, a15, a16 => F (zlp17 F n) a0 a1 a2 a3 a4 a5 a6 a7 a8 a9 a10 a11 a12 a13 a14 a15 a16
theorem zlp17_ind {A0 A1 A2 A3 A4 A5 A6 A7 A8 A9 A10 A11 A12 A13 A14 A15 A16 R : Type} {F : (A0 → A1 → A2 → A3 → A4 → A5 → A6 → A7 → A8 → A9 → A10 → A11 → A12 → A13 → A14 → A15 → A16 → Option R) → A0 → A1 → A2 → A3 → A4 → A5 → A6 → A7 → A8 → A9 → A10 → A11 → A12 → A13 → A14 → A15 → A16 → Option R} {r : R} {P : A0 → A1 → A2 → A3 → A4 → A5 → A6 → A7 → A8 → A9 → A10 → A11 → A12 → A13 → A14 → A15 → A16 → Prop} (h : ∀ self : A0 → A1 → A2 → A3 → A4 → A5 → A6 → A7 → A8 → A9 → A10 → A11 → A12 → A13 → A14 → A15 → A16 → Option R, (∀ (a0 : A0) (a1 : A1) (a2 : A2) (a3 : A3) (a4 : A4) (a5 : A5) (a6 : A6) (a7 : A7) (a8 : A8) (a9 : A9) (a10 : A10) (a11 : A11) (a12 : A12) (a13 : A13) (a14 : A14) (a15 : A15) (a16 : A16), self a0 a1 a2 a3 a4 a5 a6 a7 a8 a9 a10 a11 a12 a13 a14 a15 a16 = some r → P a0 a1 a2 a3 a4 a5 a6 a7 a8 a9 a10 a11 a12 a13 a14 a15 a16) → ∀ (a0 : A0) (a1 : A1) (a2 : A2) (a3 : A3) (a4 : A4) (a5 : A5) (a6 : A6) (a7 : A7) (a8 : A8) (a9 : A9) (a10 : A10) (a11 : A11) (a12 : A12) (a13 : A13) (a14 : A14) (a15 : A15) (a16 : A16), F self a0 a1 a2 a3 a4 a5 a6 a7 a8 a9 a10 a11 a12 a13 a14 a15 a16 = some r → P a0 a1 a2 a3 a4 a5 a6 a7 a8 a9 a10 a11 a12 a13 a14 a15 a16) : ∀ (n : Nat) (a0 : A0) (a1 : A1) (a2 : A2) (a3 : A3) (a4 : A4) (a5 : A5) (a6 : A6) (a7 : A7) (a8 : A8) (a9 : A9) (a10 : A10) (a11 : A11) (a12 : A12) (a13 : A13) (a14 : A14) (a15 : A15) (a16 : A16), zlp17 F n a0 a1 a2 a3 a4 a5 a6 a7 a8 a9 a10 a11 a12 a13 a14 a15 a16 = some r → P a0 a1 a2 a3 a4 a5 a6 a7 a8 a9 a10 a11 a12 a13 a14 a15 a16
  | 0, _, _, _, _, _, _, _, _, _, _, _, _, _, _, _, _, _, e => nomatch e
  | n + 1, a0, a1, a2, a3, a4, a5, a6, a7, a8, a9, a10, a11, a12, a13, a14, a15, a16, e => h (zlp17 F n) (zlp17_ind h n) a0 a1 a2 a3 a4 a5 a6 a7 a8 a9 a10 a11 a12 a13 a14 a15 a16 e
theorem zlp17_s {A0 A1 A2 A3 A4 A5 A6 A7 A8 A9 A10 A11 A12 A13 A14 A15 A16 R : Type} (F : (A0 → A1 → A2 → A3 → A4 → A5 → A6 → A7 → A8 → A9 → A10 → A11 → A12 → A13 → A14 → A15 → A16 → Option R) → A0 → A1 → A2 → A3 → A4 → A5 → A6 → A7 → A8 → A9 → A10 → A11 → A12 → A13 → A14 → A15 → A16 → Option R) (n : Nat) (a0 : A0) (a1 : A1) (a2 : A2) (a3 : A3) (a4 : A4) (a5 : A5) (a6 : A6) (a7 : A7) (a8 : A8) (a9 : A9) (a10 : A10) (a11 : A11) (a12 : A12) (a13 : A13) (a14 : A14) (a15 : A15) (a16 : A16) : zlp17 F (n + 1) a0 a1 a2 a3 a4 a5 a6 a7 a8 a9 a10 a11 a12 a13 a14 a15 a16 = F (zlp17 F n) a0 a1 a2 a3 a4 a5 a6 a7 a8 a9 a10 a11 a12 a13 a14 a15 a16 := rfl
def bd18 {A0 A1 A2 A3 A4 A5 A6 A7 A8 A9 A10 A11 A12 A13 A14 A15 A16 A17 R : Type} (x : Option (A0 × A1 × A2 × A3 × A4 × A5 × A6 × A7 × A8 × A9 × A10 × A11 × A12 × A13 × A14 × A15 × A16 × A17)) (f : A0 → A1 → A2 → A3 → A4 → A5 → A6 → A7 → A8 → A9 → A10 → A11 → A12 → A13 → A14 → A15 → A16 → A17 → Option R) : Option R := match x with | none => none | some (a0, a1, a2, a3, a4, a5, a6, a7, a8, a9, a10, a11, a12, a13, a14, a15, a16, a17) => f a0 a1 a2 a3 a4 a5 a6 a7 a8 a9 a10 a11 a12 a13 a14 a15 a16 a17
theorem bd18_s {A0 A1 A2 A3 A4 A5 A6 A7 A8 A9 A10 A11 A12 A13 A14 A15 A16 A17 R : Type} {x : Option (A0 × A1 × A2 × A3 × A4 × A5 × A6 × A7 × A8 × A9 × A10 × A11 × A12 × A13 × A14 × A15 × A16 × A17)} {f : A0 → A1 → A2 → A3 → A4 → A5 → A6 → A7 → A8 → A9 → A10 → A11 → A12 → A13 → A14 → A15 → A16 → A17 → Option R} {r : R} (h : bd18 x f = some r) : ∃ a0 : A0, ∃ a1 : A1, ∃ a2 : A2, ∃ a3 : A3, ∃ a4 : A4, ∃ a5 : A5, ∃ a6 : A6, ∃ a7 : A7, ∃ a8 : A8, ∃ a9 : A9, ∃ a10 : A10, ∃ a11 : A11, ∃ a12 : A12, ∃ a13 : A13, ∃ a14 : A14, ∃ a15 : A15, ∃ a16 : A16, ∃ a17 : A17, x = some (a0, a1, a2, a3, a4, a5, a6, a7, a8, a9, a10, a11, a12, a13, a14, a15, a16, a17) ∧ f a0 a1 a2 a3 a4 a5 a6 a7 a8 a9 a10 a11 a12 a13 a14 a15 a16 a17 = some r := by
  cases x with
  | none => cases h
  | some u => obtain ⟨a0, a1, a2, a3, a4, a5, a6, a7, a8, a9, a10, a11, a12, a13, a14, a15, a16, a17⟩ := u; exact ⟨a0, a1, a2, a3, a4, a5, a6, a7, a8, a9, a10, a11, a12, a13, a14, a15, a16, a17, rfl, h⟩
def zlp18 {A0 A1 A2 A3 A4 A5 A6 A7 A8 A9 A10 A11 A12 A13 A14 A15 A16 A17 R : Type} (F : (A0 → A1 → A2 → A3 → A4 → A5 → A6 → A7 → A8 → A9 → A10 → A11 → A12 → A13 → A14 → A15 → A16 → A17 → Option R) → A0 → A1 → A2 → A3 → A4 → A5 → A6 → A7 → A8 → A9 → A10 → A11 → A12 → A13 → A14 → A15 → A16 → A17 → Option R) : Nat → A0 → A1 → A2 → A3 → A4 → A5 → A6 → A7 → A8 → A9 → A10 → A11 → A12 → A13 → A14 → A15 → A16 → A17 → Option R
  | 0, _, _, _, _, _, _, _, _, _, _, _, _, _, _, _, _, _, _ => none
  | n + 1, a0, a1, a2, a3, a4, a5, a6, a7, a8, a9, a10, a11, a12, a13, a14, a15, a16, a17 => F (zlp18 F n) a0 a1 a2 a3 a4 a5 a6 a7 a8 a9 a10 a11 a12 a13 a14 a15 a16 a17
theorem zlp18_ind {A0 A1 A2 A3 A4 A5 A6 A7 A8 A9 A10 A11 A12 A13 A14 A15 A16 A17 R : Type} {F : (A0 → A1 → A2 → A3 → A4 → A5 → A6 → A7 → A8 → A9 → A10 → A11 → A12 → A13 → A14 → A15 → A16 → A17 → Option R) → A0 → A1 → A2 → A3 → A4 → A5 → A6 → A7 → A8 → A9 → A10 → A11 → A12 → A13 → A14 → A15 → A16 → A17 → Option R} {r : R} {P : A0 → A1 → A2 → A3 → A4 → A5 → A6 → A7 → A8 → A9 → A10 → A11 → A12 → A13 → A14 → A15 → A16 → A17 → Prop} (h : ∀ self : A0 → A1 → A2 → A3 → A4 → A5 → A6 → A7 → A8 → A9 → A10 → A11 → A12 → A13 → A14 → A15 → A16 → A17 → Option R, (∀ (a0 : A0) (a1 : A1) (a2 : A2) (a3 : A3) (a4 : A4) (a5 : A5) (a6 : A6) (a7 : A7) (a8 : A8) (a9 : A9) (a10 : A10) (a11 : A11) (a12 : A12) (a13 : A13) (a14 : A14) (a15 : A15) (a16 : A16) (a17 : A17), self a0 a1 a2 a3 a4 a5 a6 a7 a8 a9 a10 a11 a12 a13 a14 a15 a16 a17 = some r → P a0 a1 a2 a3 a4 a5 a6 a7 a8 a9 a10 a11 a12 a13 a14 a15 a16 a17) → ∀ (a0 : A0) (a1 : A1) (a2 : A2) (a3 : A3) (a4 : A4) (a5 : A5) (a6 : A6) (a7 : A7) (a8 : A8) (a9 : A9) (a10 : A10) (a11 : A11) (a12 : A12) (a13 : A13) (a14 : A14) (a15 : A15) (a16 : A16) (a17 : A17), F self a0 a1 a2 a3 a4 a5 a6 a7 a8 a9 a10 a11 a12 a13 a14 a15 a16 a17 = some r → P a0 a1 a2 a3 a4 a5 a6 a7 a8 a9 a10 a11 a12 a13 a14 a15 a16 a17) : ∀ (n : Nat) (a0 : A0) (a1 : A1) (a2 : A2) (a3 : A3) (a4 : A4) (a5 : A5) (a6 : A6) (a7 : A7) (a8 : A8) (a9 : A9) (a10 : A10) (a11 : A11) (a12 : A12) (a13 : A13) (a14 : A14) (a15 : A15) (a16 : A16) (a17 : A17), zlp18 F n a0 a1 a2 a3 a4 a5 a6 a7 a8 a9 a10 a11 a12 a13 a14 a15 a16 a17 = some r → P a0 a1 a2 a3 a4 a5 a6 a7 a8 a9 a10 a11 a12 a13 a14 a15 a16 a17
  | 0, _, _, _, _, _, _, _, _, _, _, _, _, _, _, _, _, _, _, e => nomatch e
  | n + 1, a0, a1, a2, a3, a4, a5, a6, a7, a8, a9, a10, a11, a12, a13, a14, a15, a16, a17, e => h (zlp18 F n) (zlp18_ind h n) a0 a1 a2 a3 a4 a5 a6 a7 a8 a9 a10 a11 a12 a13 a14 a15 a16 a17 e
theorem zlp18_s {A0 A1 A2 A3 A4 A5 A6 A7 A8 A9 A10 A11 A12 A13 A14 A15 A16 A17 R : Type} (F : (A0 → A1 → A2 → A3 → A4 → A5 → A6 → A7 → A8 → A9 → A10 → A11 → A12 → A13 → A14 → A15 → A16 → A17 → Option R) → A0 → A1 → A2 → A3 → A4 → A5 → A6 → A7 → A8 → A9 → A10 → A11 → A12 → A13 → A14 → A15 → A16 → A17 → Option R) (n : Nat) (a0 : A0) (a1 : A1) (a2 : A2) (a3 : A3) (a4 : A4) (a5 : A5) (a6 : A6) (a7 : A7) (a8 : A8) (a9 : A9) (a10 : A10) (a11 : A11) (a12 : A12) (a13 : A13) (a14 : A14) (a15 : A15) (a16 : A16) (a17 : A17) : zlp18 F (n + 1) a0 a1 a2 a3 a4 a5 a6 a7 a8 a9 a10 a11 a12 a13 a14 a15 a16 a17 = F (zlp18 F n) a0 a1 a2 a3 a4 a5 a6 a7 a8 a9 a10 a11 a12 a13 a14 a15 a16 a17 := rfl
def bd19 {A0 A1 A2 A3 A4 A5 A6 A7 A8 A9 A10 A11 A12 A13 A14 A15 A16 A17 A18 R : Type} (x : Option (A0 × A1 × A2 × A3 × A4 × A5 × A6 × A7 × A8 × A9 × A10 × A11 × A12 × A13 × A14 × A15 × A16 × A17 × A18)) (f : A0 → A1 → A2 → A3 → A4 → A5 → A6 → A7 → A8 → A9 → A10 → A11 → A12 → A13 → A14 → A15 → A16 → A17 → A18 → Option R) : Option R := match x with | none => none | some (a0, a1, a2, a3, a4, a5, a6, a7, a8, a9, a10, a11, a12, a13, a14, a15, a16, a17, a18) => f a0 a1 a2 a3 a4 a5 a6 a7 a8 a9 a10 a11 a12 a13 a14 a15 a16 a17 a18
theorem bd19_s {A0 A1 A2 A3 A4 A5 A6 A7 A8 A9 A10 A11 A12 A13 A14 A15 A16 A17 A18 R : Type} {x : Option (A0 × A1 × A2 × A3 × A4 × A5 × A6 × A7 × A8 × A9 × A10 × A11 × A12 × A13 × A14 × A15 × A16 × A17 × A18)} {f : A0 → A1 → A2 → A3 → A4 → A5 → A6 → A7 → A8 → A9 → A10 → A11 → A12 → A13 → A14 → A15 → A16 → A17 → A18 → Option R} {r : R} (h : bd19 x f = some r) : ∃ a0 : A0, ∃ a1 : A1, ∃ a2 : A2, ∃ a3 : A3, ∃ a4 : A4, ∃ a5 : A5, ∃ a6 : A6, ∃ a7 : A7, ∃ a8 : A8, ∃ a9 : A9, ∃ a10 : A10, ∃ a11 : A11, ∃ a12 : A12, ∃ a13 : A13, ∃ a14 : A14, ∃ a15 : A15, ∃ a16 : A16, ∃ a17 : A17, ∃ a18 : A18, x = some (a0, a1, a2, a3, a4, a5, a6, a7, a8, a9, a10, a11, a12, a13, a14, a15, a16, a17, a18) ∧ f a0 a1 a2 a3 a4 a5 a6 a7 a8 a9 a10 a11 a12 a13 a14 a15 a16 a17 a18 = some r := by
  cases x with
  | none => cases h
  | some u => obtain ⟨a0, a1, a2, a3, a4, a5, a6, a7, a8, a9, a10, a11, a12, a13, a14, a15, a16, a17, a18⟩ := u; exact ⟨a0, a1, a2, a3, a4, a5, a6, a7, a8, a9, a10, a11, a12, a13, a14, a15, a16, a17, a18, rfl, h⟩
def zlp19 {A0 A1 A2 A3 A4 A5 A6 A7 A8 A9 A10 A11 A12 A13 A14 A15 A16 A17 A18 R : Type} (F : (A0 → A1 → A2 → A3 → A4 → A5 → A6 → A7 → A8 → A9 → A10 → A11 → A12 → A13 → A14 → A15 → A16 → A17 → A18 → Option R) → A0 → A1 → A2 → A3 → A4 → A5 → A6 → A7 → A8 → A9 → A10 → A11 → A12 → A13 → A14 → A15 → A16 → A17 → A18 → Option R) : Nat → A0 → A1 → A2 → A3 → A4 → A5 → A6 → A7 → A8 → A9 → A10 → A11 → A12 → A13 → A14 → A15 → A16 → A17 → A18 → Option R
  | 0, _, _, _, _, _, _, _, _, _, _, _, _, _, _, _, _, _, _, _ => none
  | n + 1, a0, a1, a2, a3, a4, a5, a6, a7, a8, a9, a10, a11, a12, a13, a14, a15, a16, a17, a18 => F (zlp19 F n) a0 a1 a2 a3 a4 a5 a6 a7 a8 a9 a10 a11 a12 a13 a14 a15 a16 a17 a18
theorem zlp19_ind {A0 A1 A2 A3 A4 A5 A6 A7 A8 A9 A10 A11 A12 A13 A14 A15 A16 A17 A18 R : Type} {F : (A0 → A1 → A2 → A3 → A4 → A5 → A6 → A7 → A8 → A9 → A10 → A11 → A12 → A13 → A14 → A15 → A16 → A17 → A18 → Option R) → A0 → A1 → A2 → A3 → A4 → A5 → A6 → A7 → A8 → A9 → A10 → A11 → A12 → A13 → A14 → A15 → A16 → A17 → A18 → Option R} {r : R} {P : A0 → A1 → A2 → A3 → A4 → A5 → A6 → A7 → A8 → A9 → A10 → A11 → A12 → A13 → A14 → A15 → A16 → A17 → A18 → Prop} (h : ∀ self : A0 → A1 → A2 → A3 → A4 → A5 → A6 → A7 → A8 → A9 → A10 → A11 → A12 → A13 → A14 → A15 → A16 → A17 → A18 → Option R, (∀ (a0 : A0) (a1 : A1) (a2 : A2) (a3 : A3) (a4 : A4) (a5 : A5) (a6 : A6) (a7 : A7) (a8 : A8) (a9 : A9) (a10 : A10) (a11 : A11) (a12 : A12) (a13 : A13) (a14 : A14) (a15 : A15) (a16 : A16) (a17 : A17) (a18 : A18), self a0 a1 a2 a3 a4 a5 a6 a7 a8 a9 a10 a11 a12 a13 a14 a15 a16 a17 a18 = some r → P a0 a1 a2 a3 a4 a5 a6 a7 a8 a9 a10 a11 a12 a13 a14 a15 a16 a17 a18) → ∀ (a0 : A0) (a1 : A1) (a2 : A2) (a3 : A3) (a4 : A4) (a5 : A5) (a6 : A6) (a7 : A7) (a8 : A8) (a9 : A9) (a10 : A10) (a11 : A11) (a12 : A12) (a13 : A13) (a14 : A14) (a15 : A15) (a16 : A16) (a17 : A17) (a18 : A18), F self a0 a1 a2 a3 a4 a5 a6 a7 a8 a9 a10 a11 a12 a13 a14 a15 a16 a17 a18 = some r → P a0 a1 a2 a3 a4 a5 a6 a7 a8 a9 a10 a11 a12 a13 a14 a15 a16 a17 a18) : ∀ (n : Nat) (a0 : A0) (a1 : A1) (a2 : A2) (a3 : A3) (a4 : A4) (a5 : A5) (a6 : A6) (a7 : A7) (a8 : A8) (a9 : A9) (a10 : A10) (a11 : A11) (a12 : A12) (a13 : A13) (a14 : A14) (a15 : A15) (a16 : A16) (a17 : A17) (a18 : A18), zlp19 F n a0 a1 a2 a3 a4 a5 a6 a7 a8 a9 a10 a11 a12 a13 a14 a15 a16 a17 a18 = some r → P a0 a1 a2 a3 a4 a5 a6 a7 a8 a9 a10 a11 a12 a13 a14 a15 a16 a17 a18
  | 0, _, _, _, _, _, _, _, _, _, _, _, _, _, _, _, _, _, _, _, e => nomatch e
  | n + 1, a0, a1, a2, a3, a4, a5, a6, a7, a8, a9, a10, a11, a12, a13, a14, a15, a16, a17, a18, e => h (zlp19 F n) (zlp19_ind h n) a0 a1 a2 a3 a4 a5 a6 a7 a8 a9 a10 a11 a12 a13 a14 a15 a16 a17 a18 e
theorem zlp19_s {A0 A1 A2 A3 A4 A5 A6 A7 A8 A9 A10 A11 A12 A13 A14 A15 A16 A17 A18 R : Type} (F : (A0 → A1 → A2 → A3 → A4 → A5 → A6 → A7 → A8 → A9 → A10 → A11 → A12 → A13 → A14 → A15 → A16 → A17 → A18 → Option R) → A0 → A1 → A2 → A3 → A4 → A5 → A6 → A7 → A8 → A9 → A10 → A11 → A12 → A13 → A14 → A15 → A16 → A17 → A18 → Option R) (n : Nat) (a0 : A0) (a1 : A1) (a2 : A2) (a3 : A3) (a4 : A4) (a5 : A5) (a6 : A6) (a7 : A7) (a8 : A8) (a9 : A9) (a10 : A10) (a11 : A11) (a12 : A12) (a13 : A13) (a14 : A14) (a15 : A15) (a16 : A16) (a17 : A17) (a18 : A18) : zlp19 F (n + 1) a0 a1 a2 a3 a4 a5 a6 a7 a8 a9 a10 a11 a12 a13 a14 a15 a16 a17 a18 = F (zlp19 F n) a0 a1 a2 a3 a4 a5 a6 a7 a8 a9 a10 a11 a12 a13 a14 a15 a16 a17 a18 := rfl
def bd20 {A0 A1 A2 A3 A4 A5 A6 A7 A8 A9 A10 A11 A12 A13 A14 A15 A16 A17 A18 A19 R : Type} (x : Option (A0 × A1 × A2 × A3 × A4 × A5 × A6 × A7 × A8 × A9 × A10 × A11 × A12 × A13 × A14 × A15 × A16 × A17 × A18 × A19)) (f : A0 → A1 → A2 → A3 → A4 → A5 → A6 → A7 → A8 → A9 → A10 → A11 → A12 → A13 → A14 → A15 → A16 → A17 → A18 → A19 → Option R) : Option R := match x with | none => none | some (a0, a1, a2, a3, a4, a5, a6, a7, a8, a9, a10, a11, a12, a13, a14, a15, a16, a17, a18, a19) => f a0 a1 a2 a3 a4 a5 a6 a7 a8 a9 a10 a11 a12 a13 a14 a15 a16 a17 a18 a19
theorem bd20_s {A0 A1 A2 A3 A4 A5 A6 A7 A8 A9 A10 A11 A12 A13 A14 A15 A16 A17 A18 A19 R : Type} {x : Option (A0 × A1 × A2 × A3 × A4 × A5 × A6 × A7 × A8 × A9 × A10 × A11 × A12 × A13 × A14 × A15 × A16 × A17 × A18 × A19)} {f : A0 → A1 → A2 → A3 → A4 → A5 → A6 → A7 → A8 → A9 → A10 → A11 → A12 → A13 → A14 → A15 → A16 → A17 → A18 → A19 → Option R} {r : R} (h : bd20 x f = some r) : ∃ a0 : A0, ∃ a1 : A1, ∃ a2 : A2, ∃ a3 : A3, ∃ a4 : A4, ∃ a5 : A5, ∃ a6 : A6, ∃ a7 : A7, ∃ a8 : A8, ∃ a9 : A9, ∃ a10 : A10, ∃ a11 : A11, ∃ a12 : A12, ∃ a13 : A13, ∃ a14 : A14, ∃ a15 : A15, ∃ a16 : A16, ∃ a17 : A17, ∃ a18 : A18, ∃ a19 : A19, x = some (a0, a1, a2, a3, a4, a5, a6, a7, a8, a9, a10, a11, a12, a13, a14, a15, a16, a17, a18, a19) ∧ f a0 a1 a2 a3 a4 a5 a6 a7 a8 a9 a10 a11 a12 a13 a14 a15 a16 a17 a18 a19 = some r := by
  cases x with
  | none => cases h
  | some u => obtain ⟨a0, a1, a2, a3, a4, a5, a6, a7, a8, a9, a10, a11, a12, a13, a14, a15, a16, a17, a18, a19⟩ := u; exact ⟨a0, a1, a2, a3, a4, a5, a6, a7, a8, a9, a10, a11, a12, a13, a14, a15, a16, a17, a18, a19, rfl, h⟩
def zlp20 {A0 A1 A2 A3 A4 A5 A6 A7 A8 A9 A10 A11 A12 A13 A14 A15 A16 A17 A18 A19 R : Type} (F : (A0 → A1 → A2 → A3 → A4 → A5 → A6 → A7 → A8 → A9 → A10 → A11 → A12 → A13 → A14 → A15 → A16 → A17 → A18 → A19 → Option R) → A0 → A1 → A2 → A3 → A4 → A5 → A6 → A7 → A8 → A9 → A10 → A11 → A12 → A13 → A14 → A15 → A16 → A17 → A18 → A19 → Option R) : Nat → A0 → A1 → A2 → A3 → A4 → A5 → A6 → A7 → A8 → A9 → A10 → A11 → A12 → A13 → A14 → A15 → A16 → A17 → A18 → A19 → Option R
  | 0, _, _, _, _, _, _, _, _, _, _, _, _, _, _, _, _, _, _, _, _ => none
  | n + 1, a0, a1, a2, a3, a4, a5, a6, a7, a8, a9, a10, a11, a12, a13, a14, a15, a16, a17, a18, a19 => F (zlp20 F n) a0 a1 a2 a3 a4 a5 a6 a7 a8 a9 a10 a11 a12 a13 a14 a15 a16 a17 a18 a19
theorem zlp20_ind {A0 A1 A2 A3 A4 A5 A6 A7 A8 A9 A10 A11 A12 A13 A14 A15 A16 A17 A18 A19 R : Type} {F : (A0 → A1 → A2 → A3 → A4 → A5 → A6 → A7 → A8 → A9 → A10 → A11 → A12 → A13 → A14 → A15 → A16 → A17 → A18 → A19 → Option R) → A0 → A1 → A2 → A3 → A4 → A5 → A6 → A7 → A8 → A9 → A10 → A11 → A12 → A13 → A14 → A15 → A16 → A17 → A18 → A19 → Option R} {r : R} {P : A0 → A1 → A2 → A3 → A4 → A5 → A6 → A7 → A8 → A9 → A10 → A11 → A12 → A13 → A14 → A15 → A16 → A17 → A18 → A19 → Prop} (h : ∀ self : A0 → A1 → A2 → A3 → A4 → A5 → A6 → A7 → A8 → A9 → A10 → A11 → A12 → A13 → A14 → A15 → A16 → A17 → A18 → A19 → Option R, (∀ (a0 : A0) (a1 : A1) (a2 : A2) (a3 : A3) (a4 : A4) (a5 : A5) (a6 : A6) (a7 : A7) (a8 : A8) (a9 : A9) (a10 : A10) (a11 : A11) (a12 : A12) (a13 : A13) (a14 : A14) (a15 : A15) (a16 : A16) (a17 : A17) (a18 : A18) (a19 : A19), self a0 a1 a2 a3 a4 a5 a6 a7 a8 a9 a10 a11 a12 a13 a14 a15 a16 a17 a18 a19 = some r → P a0 a1 a2 a3 a4 a5 a6 a7 a8 a9 a10 a11 a12 a13 a14 a15 a16 a17 a18 a19) → ∀ (a0 : A0) (a1 : A1) (a2 : A2) (a3 : A3) (a4 : A4) (a5 : A5) (a6 : A6) (a7 : A7) (a8 : A8) (a9 : A9) (a10 : A10) (a11 : A11) (a12 : A12) (a13 : A13) (a14 : A14) (a15 : A15) (a16 : A16) (a17 : A17) (a18 : A18) (a19 : A19), F self a0 a1 a2 a3 a4 a5 a6 a7 a8 a9 a10 a11 a12 a13 a14 a15 a16 a17 a18 a19 = some r → P a0 a1 a2 a3 a4 a5 a6 a7 a8 a9 a10 a11 a12 a13 a14 a15 a16 a17 a18 a19) : ∀ (n : Nat) (a0 : A0) (a1 : A1) (a2 : A2) (a3 : A3) (a4 : A4) (a5 : A5) (a6 : A6) (a7 : A7) (a8 : A8) (a9 : A9) (a10 : A10) (a11 : A11) (a12 : A12) (a13 : A13) (a14 : A14) (a15 : A15) (a16 : A16) (a17 : A17) (a18 : A18) (a19 : A19), zlp20 F n a0 a1 a2 a3 a4 a5 a6 a7 a8 a9 a10 a11 a12 a13 a14 a15 a16 a17 a18 a19 = some r → P a0 a1 a2 a3 a4 a5 a6 a7 a8 a9 a10 a11 a12 a13 a14 a15 a16 a17 a18 a19
  | 0, _, _, _, _, _, _, _, _, _, _, _, _, _, _, _, _, _, _, _, _, e => nomatch e
  | n + 1, a0, a1, a2, a3, a4, a5, a6, a7, a8, a9, a10, a11, a12, a13, a14, a15, a16, a17, a18, a19, e => h (zlp20 F n) (zlp20_ind h n) a0 a1 a2 a3 a4 a5 a6 a7 a8 a9 a10 a11 a12 a13 a14 a15 a16 a17 a18 a19 e
theorem zlp20_s {A0 A1 A2 A3 A4 A5 A6 A7 A8 A9 A10 A11 A12 A13 A14 A15 A16 A17 A18 A19 R : Type} (F : (A0 → A1 → A2 → A3 → A4 → A5 → A6 → A7 → A8 → A9 → A10 → A11 → A12 → A13 → A14 → A15 → A16 → A17 → A18 → A19 → Option R) → A0 → A1 → A2 → A3 → A4 → A5 → A6 → A7 → A8 → A9 → A10 → A11 → A12 → A13 → A14 → A15 → A16 → A17 → A18 → A19 → Option R) (n : Nat) (a0 : A0) (a1 : A1) (a2 : A2) (a3 : A3) (a4 : A4) (a5 : A5) (a6 : A6) (a7 : A7) (a8 : A8) (a9 : A9) (a10 : A10) (a11 : A11) (a12 : A12) (a13 : A13) (a14 : A14) (a15 : A15) (a16 : A16) (a17 : A17) (a18 : A18) (a19 : A19) : zlp20 F (n + 1) a0 a1 a2 a3 a4 a5 a6 a7 a8 a9 a10 a11 a12 a13 a14 a15 a16 a17 a18 a19 = F (zlp20 F n) a0 a1 a2 a3 a4 a5 a6 a7 a8 a9 a10 a11 a12 a13 a14 a15 a16 a17 a18 a19 := rfl

abbrev i2l (x : Int32) : Int64 := x.toInt64
abbrev l2i (x : Int64) : Int32 := x.toInt32
abbrev i2c (x : Int32) : Int32 := (x.toUInt32 % 65536).toInt32
abbrev iush (x y : Int32) : Int32 := (x.toUInt32 >>> (y.toUInt32 &&& Int32.toUInt32 31)).toInt32
abbrev nC (x : Int32) : Int32 := vp_nar .char x
abbrev nZ (x : Int32) : Int32 := vp_nar .boolean x
abbrev m_min (x y : Int32) : Int32 := if y < x then y else x
abbrev m_max (x y : Int32) : Int32 := if x < y then y else x
abbrev m_abs (x : Int32) : Int32 := if 0 ≤ x then x else 0 - x
abbrev m_minL (x y : Int64) : Int64 := if y < x then y else x
abbrev m_maxL (x y : Int64) : Int64 := if y < x then x else y
theorem ib_in {i : Int32} {n : Nat} (h : ib i n = true) : vp_in i n := vp_in_iff.mpr (of_decide_eq_true h)
theorem nz_i {x : Int32} (h : (!(x == 0)) = true) : ¬ x = 0 := by
  intro e
  subst e
  simp at h
theorem nz_l {x : Int64} (h : (!(x == 0)) = true) : ¬ x = 0 := by
  intro e
  subst e
  simp at h
theorem isB_c {x : Int32} (h : isB x = true) : x = 0 ∨ x = 1 := by
  simp only [isB, Bool.or_eq_true, beq_iff_eq] at h
  exact h
theorem isB_n {x : Int32} (h : isB x = true) : narrow .boolean (.int x) = .int x := by
  rcases isB_c h with rfl | rfl <;> rfl
theorem isB_f {x : Int32} (h : isB x = true) : fits .boolean (.int x) = true := by
  rcases isB_c h with rfl | rfl <;> rfl
theorem zb_S {C : zC} {cs : Nat × Nat} {pc : Nat} {lv : List (Nat × Value)} {st : List Value} {S S2 : zS} (h : S = S2) (kk : zB C cs pc lv st S2) : zB C cs pc lv st S := h ▸ kk
theorem zb_sub {C : zC} {cs : Nat × Nat} {pc : Nat} {lv lv2 : List (Nat × Value)} {st : List Value} {S : zS} (ks : List Nat) (h : lv_pick lv ks = lv2) (kk : zB C cs pc lv2 st S) : zB C cs pc lv st S := fun H locs ls hl hW hS => kk H locs ls (lv_sub hl ks h) hW hS
theorem zb_pc {C : zC} {cs : Nat × Nat} {pc pc2 : Nat} {lv : List (Nat × Value)} {st : List Value} {S : zS} (h : pc = pc2) (kk : zB C cs pc2 lv st S) : zB C cs pc lv st S := h ▸ kk
theorem zup_idE {α : Type} {f : Nat → α} {k : Nat} {x : α} (h : f k = x) : va_up f k x = f := by
  subst h
  exact zup_id
theorem zS_eq {I I2 : Nat → Nat → Int32} {J J2 : Nat → Nat → Int64} {Rr : Nat → Nat → Option Nat} {D : zD} (h1 : I = I2) (h2 : J = J2) : ((I, J, Rr, D) : zS) = (I2, J2, Rr, D) := by
  subst h1
  subst h2
  rfl
def zYmmin : Prop := Cond.static Lib.Math.min.name ∈ zT ∧ Cond.initialized "java/lang/Math" ∈ zT ∧ Cond.code Lib.Math.min.name Lib.Math.min.code 2 (some .int) ∈ zT
theorem zb_mmin {C : zC} {own : String} {cc : ByteArray} {n : Nat} {ret : Option FieldType} {rm : Room} {cs : Nat × Nat} {pc : Nat} {lv : List (Nat × Value)} {st : List Value} {S : zS} (E : zE C own cc n ret rm) {index : Nat} {x y : Int32} (hY : zYmmin) (hl : Cond.methodLink own index Lib.Math.min.name ∈ zT) (hR : 1 ≤ rm.frames ∧ 13 + 8 ≤ rm.locals ∧ cs.1 ≤ rm.cells ∧ cs.2 ≤ rm.slots) (hcat : (st.map fun v => v.category).sum ≤ 8) (d : decode cc pc = .ok (.invokestatic index, 3)) (kk : zB C cs (pc + 3) lv (.int (m_min x y) :: st) S) : zB C cs pc lv (.int y :: .int x :: st) S := by
  obtain ⟨p, l, e, R, s, m, args, below, meth, c, Q, X, nn⟩ := C
  intro H locs ls hl0 hW hS
  have hR2 : R = rm := E.2.2.2.2.2.2.2.2.1
  subst hR2
  obtain ⟨y1, y2, y3⟩ := hY
  exact va_mmin E.1 E.2.1 (E.2.2.1.trans (E.2.2.2.1.symm.trans hl0.1.symm)) E.2.2.2.2.1 (E.2.2.2.2.2.1 _ hl) (E.2.2.2.2.2.1 _ y1) (E.2.2.2.2.2.1 _ y2) (E.2.2.2.2.2.1 _ y3) hR.1 (by have := hR.2.1; omega) hR.2.2.1 hR.2.2.2 d (kk H locs ls hl0 hW hS)
def zYmmax : Prop := Cond.static Lib.Math.max.name ∈ zT ∧ Cond.initialized "java/lang/Math" ∈ zT ∧ Cond.code Lib.Math.max.name Lib.Math.max.code 2 (some .int) ∈ zT
theorem zb_mmax {C : zC} {own : String} {cc : ByteArray} {n : Nat} {ret : Option FieldType} {rm : Room} {cs : Nat × Nat} {pc : Nat} {lv : List (Nat × Value)} {st : List Value} {S : zS} (E : zE C own cc n ret rm) {index : Nat} {x y : Int32} (hY : zYmmax) (hl : Cond.methodLink own index Lib.Math.max.name ∈ zT) (hR : 1 ≤ rm.frames ∧ 13 + 8 ≤ rm.locals ∧ cs.1 ≤ rm.cells ∧ cs.2 ≤ rm.slots) (hcat : (st.map fun v => v.category).sum ≤ 8) (d : decode cc pc = .ok (.invokestatic index, 3)) (kk : zB C cs (pc + 3) lv (.int (m_max x y) :: st) S) : zB C cs pc lv (.int y :: .int x :: st) S := by
  obtain ⟨p, l, e, R, s, m, args, below, meth, c, Q, X, nn⟩ := C
  intro H locs ls hl0 hW hS
  have hR2 : R = rm := E.2.2.2.2.2.2.2.2.1
  subst hR2
  obtain ⟨y1, y2, y3⟩ := hY
  exact va_mmax E.1 E.2.1 (E.2.2.1.trans (E.2.2.2.1.symm.trans hl0.1.symm)) E.2.2.2.2.1 (E.2.2.2.2.2.1 _ hl) (E.2.2.2.2.2.1 _ y1) (E.2.2.2.2.2.1 _ y2) (E.2.2.2.2.2.1 _ y3) hR.1 (by have := hR.2.1; omega) hR.2.2.1 hR.2.2.2 d (kk H locs ls hl0 hW hS)
def zYmabs : Prop := Cond.static Lib.Math.abs.name ∈ zT ∧ Cond.initialized "java/lang/Math" ∈ zT ∧ Cond.code Lib.Math.abs.name Lib.Math.abs.code 1 (some .int) ∈ zT
theorem zb_mabs {C : zC} {own : String} {cc : ByteArray} {n : Nat} {ret : Option FieldType} {rm : Room} {cs : Nat × Nat} {pc : Nat} {lv : List (Nat × Value)} {st : List Value} {S : zS} (E : zE C own cc n ret rm) {index : Nat} {x : Int32} (hY : zYmabs) (hl : Cond.methodLink own index Lib.Math.abs.name ∈ zT) (hR : 1 ≤ rm.frames ∧ 13 + 8 ≤ rm.locals ∧ cs.1 ≤ rm.cells ∧ cs.2 ≤ rm.slots) (hcat : (st.map fun v => v.category).sum ≤ 8) (d : decode cc pc = .ok (.invokestatic index, 3)) (kk : zB C cs (pc + 3) lv (.int (m_abs x) :: st) S) : zB C cs pc lv (.int x :: st) S := by
  obtain ⟨p, l, e, R, s, m, args, below, meth, c, Q, X, nn⟩ := C
  intro H locs ls hl0 hW hS
  have hR2 : R = rm := E.2.2.2.2.2.2.2.2.1
  subst hR2
  obtain ⟨y1, y2, y3⟩ := hY
  exact va_mabs E.1 E.2.1 (E.2.2.1.trans (E.2.2.2.1.symm.trans hl0.1.symm)) E.2.2.2.2.1 (E.2.2.2.2.2.1 _ hl) (E.2.2.2.2.2.1 _ y1) (E.2.2.2.2.2.1 _ y2) (E.2.2.2.2.2.1 _ y3) hR.1 (by have := hR.2.1; omega) hR.2.2.1 hR.2.2.2 d (kk H locs ls hl0 hW hS)
def zYmminL : Prop := Cond.static Lib.MathLoose.min_long.x ∈ zT ∧ Cond.initialized "java/lang/Math" ∈ zT ∧ Cond.code Lib.MathLoose.min_long.x Lib.MathLoose.min_long.code 4 (some .long) ∈ zT
theorem zb_mminL {C : zC} {own : String} {cc : ByteArray} {n : Nat} {ret : Option FieldType} {rm : Room} {cs : Nat × Nat} {pc : Nat} {lv : List (Nat × Value)} {st : List Value} {S : zS} (E : zE C own cc n ret rm) {index : Nat} {x y : Int64} (hY : zYmminL) (hl : Cond.methodLink own index Lib.MathLoose.min_long.x ∈ zT) (hR : 1 ≤ rm.frames ∧ 15 + 8 ≤ rm.locals ∧ cs.1 ≤ rm.cells ∧ cs.2 ≤ rm.slots) (hcat : (st.map fun v => v.category).sum ≤ 8) (d : decode cc pc = .ok (.invokestatic index, 3)) (kk : zB C cs (pc + 3) lv (.long (m_minL x y) :: st) S) : zB C cs pc lv (.long y :: .long x :: st) S := by
  obtain ⟨p, l, e, R, s, m, args, below, meth, c, Q, X, nn⟩ := C
  intro H locs ls hl0 hW hS
  have hR2 : R = rm := E.2.2.2.2.2.2.2.2.1
  subst hR2
  obtain ⟨y1, y2, y3⟩ := hY
  exact va_mmin_long E.1 E.2.1 (E.2.2.1.trans (E.2.2.2.1.symm.trans hl0.1.symm)) E.2.2.2.2.1 (E.2.2.2.2.2.1 _ hl) (E.2.2.2.2.2.1 _ y1) (E.2.2.2.2.2.1 _ y2) (E.2.2.2.2.2.1 _ y3) hR.1 (by have := hR.2.1; omega) hR.2.2.1 hR.2.2.2 d (kk H locs ls hl0 hW hS)
def zYmmaxL : Prop := Cond.static Lib.MathLoose.max_long.x ∈ zT ∧ Cond.initialized "java/lang/Math" ∈ zT ∧ Cond.code Lib.MathLoose.max_long.x Lib.MathLoose.max_long.code 4 (some .long) ∈ zT
theorem zb_mmaxL {C : zC} {own : String} {cc : ByteArray} {n : Nat} {ret : Option FieldType} {rm : Room} {cs : Nat × Nat} {pc : Nat} {lv : List (Nat × Value)} {st : List Value} {S : zS} (E : zE C own cc n ret rm) {index : Nat} {x y : Int64} (hY : zYmmaxL) (hl : Cond.methodLink own index Lib.MathLoose.max_long.x ∈ zT) (hR : 1 ≤ rm.frames ∧ 15 + 8 ≤ rm.locals ∧ cs.1 ≤ rm.cells ∧ cs.2 ≤ rm.slots) (hcat : (st.map fun v => v.category).sum ≤ 8) (d : decode cc pc = .ok (.invokestatic index, 3)) (kk : zB C cs (pc + 3) lv (.long (m_maxL x y) :: st) S) : zB C cs pc lv (.long y :: .long x :: st) S := by
  obtain ⟨p, l, e, R, s, m, args, below, meth, c, Q, X, nn⟩ := C
  intro H locs ls hl0 hW hS
  have hR2 : R = rm := E.2.2.2.2.2.2.2.2.1
  subst hR2
  obtain ⟨y1, y2, y3⟩ := hY
  exact va_mmax_long E.1 E.2.1 (E.2.2.1.trans (E.2.2.2.1.symm.trans hl0.1.symm)) E.2.2.2.2.1 (E.2.2.2.2.2.1 _ hl) (E.2.2.2.2.2.1 _ y1) (E.2.2.2.2.2.1 _ y2) (E.2.2.2.2.2.1 _ y3) hR.1 (by have := hR.2.1; omega) hR.2.2.1 hR.2.2.2 d (kk H locs ls hl0 hW hS)
