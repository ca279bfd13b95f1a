set_option maxHeartbeats 4000000
set_option maxRecDepth 100000
/-! a writ: its statements, as both sides keep them -/
abbrev St : Type := Int × Int × Int × Int × List Int × List Int
def St.kd (w : St) : Int := w.1
def St.bl (w : St) : Int := w.2.1
def St.f1 (w : St) : Int := w.2.2.1
def St.f2 (w : St) : Int := w.2.2.2.1
def St.l (w : St) : List Int := w.2.2.2.2.1
def St.t (w : St) : List Int := w.2.2.2.2.2
def wOk (w : St) : Prop := stOk w.kd w.bl w.f1 w.f2 w.l ∧ EvT w.t 36
def cat : List St → List Int
  | [] => []
  | w :: V => (w.l ++ w.t) ++ cat V
theorem cat_app : ∀ A B : List St, cat (A ++ B) = cat A ++ cat B
  | [], _ => rfl
  | w :: A, B => by
    show (w.l ++ w.t) ++ cat (A ++ B) = (w.l ++ w.t) ++ cat A ++ cat B
    rw [cat_app A B]
    exact (List.append_assoc (w.l ++ w.t) (cat A) (cat B)).symm
theorem cat_one (V : List St) (w : St) : cat (V ++ [w]) = cat V ++ (w.l ++ w.t) := by
  rw [cat_app]
  show cat V ++ ((w.l ++ w.t) ++ []) = _
  rw [List.append_nil]
/-- at each statement -/
def eachS (P : List St → St → Prop) (V : List St) : Prop := ∀ A w B, V = A ++ w :: B → P A w
theorem eachS_nil (P : List St → St → Prop) : eachS P [] := fun A w B h => by
  cases A with
  | nil => cases h
  | cons a A => cases h
theorem eachS_one {P : List St → St → Prop} {V : List St} {w : St} (h : eachS P V) (hw : P V w) : eachS P (V ++ [w]) := by
  intro A x B e
  rcases List.eq_nil_or_concat B with b | ⟨B2, y, b⟩
  · subst b
    have := List.append_inj' e rfl
    rw [← this.1, ← (List.cons.inj this.2).1]
    exact hw
  · rw [List.concat_eq_append] at b
    rw [b] at e
    have e2 : V ++ [w] = (A ++ x :: B2) ++ [y] := by
      rw [e, List.append_assoc]
      rfl
    have := List.append_inj' e2 rfl
    exact h A x B2 this.1
theorem eachS_mono {P R : List St → St → Prop} {V : List St} (h : eachS P V) (k : ∀ A w B, V = A ++ w :: B → P A w → R A w) : eachS R V := fun A w B e => k A w B e (h A w B e)
theorem pre_lt {V A B : List St} {w : St} (h : V = A ++ w :: B) : A.length < V.length := by
  rw [h, List.length_append]
  show A.length < A.length + (B.length + 1)
  omega
/-- more was made, nothing was touched -/
def DExt (D E : DynI) : Prop := D.1 ≤ E.1 ∧ ∀ y, y < D.1 → E.2.1 y = D.2.1 y ∧ E.2.2.1 y = D.2.2.1 y ∧ E.2.2.2.1 y = D.2.2.2.1 y ∧ E.2.2.2.2 y = D.2.2.2.2 y
theorem DExt.rfl' (D : DynI) : DExt D D := ⟨Nat.le_refl _, fun _ _ => ⟨rfl, rfl, rfl, rfl⟩⟩
theorem DExt.tr {D E F : DynI} (h : DExt D E) (k : DExt E F) : DExt D F := ⟨Nat.le_trans h.1 k.1, fun y hy => by
  obtain ⟨a, b, c, d⟩ := h.2 y hy
  obtain ⟨a2, b2, c2, d2⟩ := k.2 y (Nat.lt_of_lt_of_le hy h.1)
  exact ⟨a2.trans a, b2.trans b, c2.trans c, d2.trans d⟩⟩
theorem DExt_new (D : DynI) (g : Nat → Int) : DExt D (jRow (jNew D 0) D.1 g) := by
  refine ⟨Nat.le_succ _, fun y hy => ?_⟩
  have ne : y ≠ D.1 := by omega
  refine ⟨va_up_ne _ _ ne, rfl, ?_, va_up_ne _ _ ne⟩
  show va_up (va_up D.2.2.2.1 D.1 (fun _ => 0)) D.1 g y = _
  rw [va_up_ne _ _ ne, va_up_ne _ _ ne]
def KSt (D : DynI) (y : Nat) (A : List St) (w : St) : Prop := jOk D y 0 ∧ D.2.2.2.1 y 0 = w.kd ∧ D.2.2.2.1 y 1 = w.bl ∧ D.2.2.2.1 y 2 = w.f1 ∧ D.2.2.2.1 y 3 = w.f2 ∧ D.2.2.2.1 y 4 = (trl (cat A)).length ∧ D.2.2.2.1 y 5 = (trl (cat A)).length + (trl w.l).length ∧ D.2.2.2.1 y 6 = (trl (cat A)).length + (trl w.l).length + (trl w.t).length
theorem KSt.ext {D E : DynI} {y : Nat} {A : List St} {w : St} (h : KSt D y A w) (k : DExt D E) : KSt E y A w := by
  obtain ⟨⟨a, b⟩, c⟩ := h
  obtain ⟨k1, k2⟩ := k
  obtain ⟨p, _, q, _⟩ := k2 y a
  refine ⟨⟨Nat.lt_of_lt_of_le a k1, p.trans b⟩, ?_⟩
  rw [q]
  exact c
def KStm (D : DynI) (stm : Nat → Option Nat) (V : List St) : Prop := eachS (fun A w => ∃ y, stm A.length = some y ∧ KSt D y A w) V
theorem KStm.ext {D E : DynI} {stm : Nat → Option Nat} {V : List St} (h : KStm D stm V) (k : DExt D E) : KStm E stm V := eachS_mono h (fun A w B _ ⟨y, a, b⟩ => ⟨y, a, b.ext k⟩)
theorem KStm.up {D : DynI} {stm stm2 : Nat → Option Nat} {V : List St} (h : KStm D stm V) (k : ∀ j, j < V.length → stm2 j = stm j) : KStm D stm2 V := eachS_mono h (fun A w B e ⟨y, a, b⟩ => ⟨y, by rw [k _ (pre_lt e)]; exact a, b⟩)
theorem KStm.one {D : DynI} {stm : Nat → Option Nat} {V : List St} {w : St} {g : Nat → Int} (h : KStm D stm V) (b : g 0 = w.kd ∧ g 1 = w.bl ∧ g 2 = w.f1 ∧ g 3 = w.f2 ∧ g 4 = (trl (cat V)).length ∧ g 5 = (trl (cat V)).length + (trl w.l).length ∧ g 6 = (trl (cat V)).length + (trl w.l).length + (trl w.t).length) : KStm (jRow (jNew D 0) D.1 g) (va_up stm V.length (some D.1)) (V ++ [w]) := by
  refine eachS_one ((h.ext (DExt_new D g)).up (fun j hj => va_up_ne _ _ (by omega))) ⟨D.1, va_up_self _ _ _, jNew_ok D 0, ?_⟩
  show (va_up (va_up D.2.2.2.1 D.1 (fun _ => 0)) D.1 g) D.1 0 = w.kd ∧ _
  have e : (jRow (jNew D 0) D.1 g).2.2.2.1 D.1 = g := va_up_self _ _ _
  refine ⟨?_, ?_⟩
  · rw [va_up_self]
    exact b.1
  · rw [e]
    exact b.2
/-- the reference's rows from b on -/
def RStm (b : Nat) (fi ib se so sE sF tE : Nat → Int) (V : List St) : Prop := eachS (fun A w => so (b + A.length) = w.kd - 1 ∧ ib (b + A.length) = w.bl ∧ fi (b + A.length) = w.f1 ∧ se (b + A.length) = w.f2 ∧ sF (b + A.length) = (cat A).length ∧ sE (b + A.length) = (cat A).length + w.l.length ∧ tE (b + A.length) = (cat A).length + w.l.length + w.t.length) V
def eqA (f f2 : Nat → Int) (b n : Nat) : Prop := ∀ j, j < n → f2 (b + j) = f (b + j)
theorem RStm.up {b : Nat} {fi ib se so sE sF tE fi2 ib2 se2 so2 sE2 sF2 tE2 : Nat → Int} {V : List St} (h : RStm b fi ib se so sE sF tE V) (h1 : eqA fi fi2 b V.length) (h2 : eqA ib ib2 b V.length) (h3 : eqA se se2 b V.length) (h4 : eqA so so2 b V.length) (h5 : eqA sE sE2 b V.length) (h6 : eqA sF sF2 b V.length) (h7 : eqA tE tE2 b V.length) : RStm b fi2 ib2 se2 so2 sE2 sF2 tE2 V := eachS_mono h (fun A w B e g => by
  have l := pre_lt e
  rw [h1 _ l, h2 _ l, h3 _ l, h4 _ l, h5 _ l, h6 _ l, h7 _ l]
  exact g)
theorem updI.e {f f2 : Nat → Int} {i : Nat} {x : Int} (h : updI f f2 i x) : eqA f f2 0 i := fun j hj => by
  rw [Nat.zero_add]
  exact h.2 j (by omega)
theorem RStm.one {fi ib se so sE sF tE fi2 ib2 se2 so2 sE2 sF2 tE2 : Nat → Int} {V : List St} {w : St} (h : RStm 0 fi ib se so sE sF tE V) (h1 : updI fi fi2 V.length w.f1) (h2 : updI ib ib2 V.length w.bl) (h3 : updI se se2 V.length w.f2) (h4 : updI so so2 V.length (w.kd - 1)) (h5 : updI sE sE2 V.length ((cat V).length + w.l.length)) (h6 : updI sF sF2 V.length (cat V).length) (h7 : updI tE tE2 V.length ((cat V).length + w.l.length + w.t.length)) : RStm 0 fi2 ib2 se2 so2 sE2 sF2 tE2 (V ++ [w]) := by
  refine eachS_one (h.up h1.e h2.e h3.e h4.e h5.e h6.e h7.e) ?_
  show so2 (0 + V.length) = _ ∧ ib2 (0 + V.length) = _ ∧ fi2 (0 + V.length) = _ ∧ se2 (0 + V.length) = _ ∧ sF2 (0 + V.length) = _ ∧ sE2 (0 + V.length) = _ ∧ tE2 (0 + V.length) = _
  rw [Nat.zero_add]
  exact ⟨h4.1, h2.1, h1.1, h3.1, h6.1, h5.1, h7.1⟩
/-! the loop over the statements -/
def K79 (N n : Nat) (T : Nat → Int) : Int → DynI → Int → Int → Int → Int → Int → Int → Int → Int → (Nat → Int) → (Nat → Option Nat) → Option R_iReader_read := fun x1 D a c f fa k o s st v stm => iReader_read_b79 N T x1 D a c f fa k n o s st v stm
def KLok (N : Nat) (T : Nat → Int) (n q : Nat) (e : Int) (V V2 : List St) : Prop := ∀ (D : DynI) (m : Nat) (fa fp s : Int) (v : Nat → Int) (stm : Nat → Option Nat) (Q : R_iReader_read → Prop), KStm D stm V → cdk v s (trl (cat V)) → n - q < m → (∀ D2 at2 s2 st2 v2 stm2, DExt D D2 → D2.1 + V.length = D.1 + V2.length → KStm D2 stm2 V2 → cdk v2 s2 (trl (cat V2)) → wp (iReader_read_b79 N T 1 D2 at2 V2.length fa fp 0 n 0 s2 st2 v2 stm2) Q) → wp (iReader_read_b41 N T n (K79 N n T) m 1 D q V.length fa fp (tK T n q e) 0 s (tS T n q) v stm) Q
def KLbad (N : Nat) (T : Nat → Int) (n q : Nat) (e k p : Int) (V : List St) : Prop := ∀ (D : DynI) (m : Nat) (fa fp s : Int) (v : Nat → Int) (stm : Nat → Option Nat) (Q : R_iReader_read → Prop), KStm D stm V → cdk v s (trl (cat V)) → n - q < m → (∀ D2 a c kd op s2 st v2 stm2, DExt D D2 → D2.1 + V.length ≤ D.1 + 24 → Q (none, D2, a, c, k, p, kd, 0, op, s2, st, v2, stm2)) → wp (iReader_read_b41 N T n (K79 N n T) m 1 D q V.length fa fp (tK T n q e) 0 s (tS T n q) v stm) Q
theorem tK_0 {T : Nat → Int} {n : Nat} {e : Int} : tK T n n e = 0 := if_pos (Nat.le_refl n)
theorem tK_n {T : Nat → Int} {n q : Nat} {e : Int} (h : q < n) : tK T n q e ≠ 0 := by
  unfold tK
  rw [if_neg (by omega)]
  split
  · split <;> decide
  · split
    · split <;> decide
    · decide
theorem kl_end {N n : Nat} {T : Nat → Int} {e : Int} {V : List St} (hV : V.length ≤ 24) : KLok N T n n e V V := by
  intro D m fa fp s v stm Q h1 h2 hm hQ
  obtain ⟨m2, rfl⟩ : ∃ m2, m = m2 + 1 := ⟨m - 1, by omega⟩
  show wp (iReader_read_b41_F N T n (K79 N n T) _ 1 D n V.length fa fp (tK T n n e) 0 s (tS T n n) v stm) Q
  unfold iReader_read_b41_F
  rw [wp_gd, if_neg (by decide), if_pos tK_0, tK_0]
  exact ⟨jb_iff.mpr (by omega), hQ D n s _ v stm (DExt.rfl' D) rfl h1 h2⟩
theorem b79_none {N n : Nat} {T : Nat → Int} {D : DynI} {a c k p kd op s st : Int} {v : Nat → Int} {stm : Nat → Option Nat} {Q : R_iReader_read → Prop} (h : Q (none, D, a, c, k, p, kd, 0, op, s, st, v, stm)) : wp (iReader_read_b79 N T 0 D a c k p kd n op s st v stm) Q := by
  unfold iReader_read_b79 iReader_read_b100 iReader_wipe
  rw [if_pos rfl, wp_bd1, wp_some, if_pos rfl, wp_some]
  exact h
theorem kl_full {N n q : Nat} {T : Nat → Int} {e : Int} {V : List St} (hV : V.length = 24) (hq : q < n) : KLbad N T n q e 4 q V := by
  intro D m fa fp s v stm Q h1 h2 hm hQ
  obtain ⟨m2, rfl⟩ : ∃ m2, m = m2 + 1 := ⟨m - 1, by omega⟩
  show wp (iReader_read_b41_F N T n (K79 N n T) _ 1 D q V.length fa fp (tK T n q e) 0 s (tS T n q) v stm) Q
  unfold iReader_read_b41_F
  rw [wp_gd, if_neg (by decide), if_neg (tK_n hq), if_pos (by omega)]
  refine ⟨jb_iff.mpr (by omega), ?_⟩
  show wp (iReader_read_b79 N T 1 D q V.length fa fp (tK T n q e) n 0 s (tS T n q) v stm) Q
  unfold iReader_read_b79 iReader_fail
  rw [if_neg (by decide), if_neg (tK_n hq), wp_bd3, wp_some]
  show wp (iReader_read_b100 N T 0 D q V.length 4 q (tK T n q e) n 0 s (tS T n q) v stm) Q
  unfold iReader_read_b100 iReader_wipe
  rw [wp_bd1, wp_some, if_pos rfl, wp_some]
  exact hQ D _ _ _ _ _ _ _ _ (DExt.rfl' D) (by omega)
theorem kl_bad {N n q : Nat} {T : Nat → Int} {e k p : Int} {V : List St} (hN : 5000 ≤ N) (hV : V.length < 24) (hq : q < n) (hl : (trl (cat V)).length ≤ q) (h : KSbad N T n q e k p) : KLbad N T n q e k p V := by
  intro D m fa fp s v stm Q h1 h2 hm hQ
  obtain ⟨m2, rfl⟩ : ∃ m2, m = m2 + 1 := ⟨m - 1, by omega⟩
  obtain ⟨m3, rfl⟩ : ∃ m3, m2 = m3 + 1 := ⟨m2 - 1, by omega⟩
  have hs := h2.1
  show wp (iReader_read_b41_F N T n (K79 N n T) (iReader_read_b41 N T n (K79 N n T) (m3 + 1)) 1 D q V.length fa fp (tK T n q e) 0 s (tS T n q) v stm) Q
  unfold iReader_read_b41_F
  rw [wp_gd, if_neg (by decide), if_neg (tK_n hq), if_neg (by omega), wp_bd11]
  refine ⟨jb_iff.mpr (by omega), ?_⟩
  refine h D V.length (cat V) fa fp s v stm _ hV (by omega) h2 (fun g a kd op s2 st v2 stm2 => ?_)
  rw [wp_gd]
  refine ⟨jr_iff.mpr (by omega), ?_⟩
  show wp (iReader_read_b41_F N T n (K79 N n T) _ 0 (jRow (jNew D 0) D.1 g) a ((V.length : Int) + 1) k p kd op s2 st v2 stm2) Q
  unfold iReader_read_b41_F
  rw [wp_gd, if_pos rfl]
  refine ⟨jb_iff.mpr (by omega), b79_none (hQ _ _ _ _ _ _ _ _ _ (DExt_new D g) ?_)⟩
  show D.1 + 1 + V.length ≤ D.1 + 24
  omega
theorem kl_step {N n q q2 : Nat} {T : Nat → Int} {e e2 : Int} {V : List St} {w : St} {Q : R_iReader_read → Prop} (hN : 5000 ≤ N) (hV : V.length < 24) (hq : q < n) (hq2 : q < q2) (hl : (trl (cat V)).length ≤ q) (h : KSok N T n q e q2 e2 w.kd w.bl w.f1 w.f2 w.l w.t) {D : DynI} {m : Nat} {fa fp s : Int} {v : Nat → Int} {stm : Nat → Option Nat} (h1 : KStm D stm V) (h2 : cdk v s (trl (cat V))) (hm : n - q < m) (nx : ∀ D2 m2 s2 v2 stm2, DExt D D2 → D2.1 = D.1 + 1 → KStm D2 stm2 (V ++ [w]) → cdk v2 s2 (trl (cat (V ++ [w]))) → n - q2 < m2 → wp (iReader_read_b41 N T n (K79 N n T) m2 1 D2 q2 (V ++ [w]).length fa fp (tK T n q2 e2) 0 s2 (tS T n q2) v2 stm2) Q) : wp (iReader_read_b41 N T n (K79 N n T) m 1 D q V.length fa fp (tK T n q e) 0 s (tS T n q) v stm) Q := by
  obtain ⟨m2, rfl⟩ : ∃ m2, m = m2 + 1 := ⟨m - 1, by omega⟩
  have hs := h2.1
  show wp (iReader_read_b41_F N T n (K79 N n T) (iReader_read_b41 N T n (K79 N n T) m2) 1 D q V.length fa fp (tK T n q e) 0 s (tS T n q) v stm) Q
  unfold iReader_read_b41_F
  rw [wp_gd, if_neg (by decide), if_neg (tK_n hq), if_neg (by omega), wp_bd11]
  refine ⟨jb_iff.mpr (by omega), ?_⟩
  refine h D V.length (cat V) fa fp s v stm _ hV (by omega) h2 (fun g s2 v2 hg h3 => ?_)
  rw [wp_gd]
  refine ⟨jr_iff.mpr (by omega), ?_⟩
  rw [hs] at hg
  have := nx (jRow (jNew D 0) D.1 g) m2 s2 v2 _ (DExt_new D g) rfl (h1.one (w := w) hg) (by rw [cat_one]; exact h3) (by omega)
  rw [List.length_append] at this
  exact this
/-! the writ that is made -/
def KWr (D : DynI) (w : Nat) (V : List St) : Prop := jOk D w 1 ∧ ∃ y1 y7, D.2.2.2.2 w 0 = some y1 ∧ D.2.2.2.2 w 1 = some y7 ∧ jOk D y1 2 ∧ D.2.2.1 y1 = V.length ∧ KStm D (D.2.2.2.2 y1) V ∧ jOk D y7 3 ∧ D.2.2.1 y7 = (trl (cat V)).length ∧ ∀ k, k < (trl (cat V)).length → D.2.2.2.1 y7 k = (trl (cat V)).getD k 0
theorem KWr.ext {D E : DynI} {w : Nat} {V : List St} (h : KWr D w V) (k : DExt D E) : KWr E w V := by
  obtain ⟨⟨a, b⟩, y1, y7, c, d, ⟨e1, e2⟩, f, g, ⟨i1, i2⟩, j, l⟩ := h
  have kw := k.2 w a
  have k1 := k.2 y1 e1
  have k7 := k.2 y7 i1
  refine ⟨⟨Nat.lt_of_lt_of_le a k.1, kw.1.trans b⟩, y1, y7, by rw [kw.2.2.2]; exact c, by rw [kw.2.2.2]; exact d, ⟨Nat.lt_of_lt_of_le e1 k.1, k1.1.trans e2⟩, k1.2.1.trans f, ?_, ⟨Nat.lt_of_lt_of_le i1 k.1, k7.1.trans i2⟩, k7.2.1.trans j, by rw [k7.2.2.1]; exact l⟩
  rw [k1.2.2.2]
  exact g.ext k
