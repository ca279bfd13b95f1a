set_option maxHeartbeats 400000
set_option maxRecDepth 100000
theorem ze_get {C : zC} {own : String} {cc : ByteArray} {n : Nat} {ret : Option FieldType} {rm : Room} {cs : Nat × Nat} {pc : Nat} {lv : List (Nat × Value)} {st : List Value} {n0 : Nat} {e : Nat → va_E} (E : zEe C own cc n ret rm) (k : Nat) {ci N : Nat} {CN : String} {TF : u_T} {fs : List Value} (hk : k < n0) (he : e k = .inr (ci, fs)) (hc : vwCl[ci]? = some (CN, TF, N)) (hin : ∀ w ∈ u_ws CN TF N, w ∈ zT) (a : Nat) (ha : a < N) {index : Nat} (hw : Cond.fieldLink own index (TF a).1 (TF a).2.1 (TF a).2.2.1 ∈ zT) {v : Value} (hv : fs[a]? = some v) (d : decode cc pc = .ok (.getfield index, 3)) (kk : zBe C cs (pc + 3) lv (v :: st) (n0, e)) : zBe C cs pc lv (.ref (C.X.1 + k) :: st) (n0, e) := by
  obtain ⟨p, l, eV, R, s, m, args, below, meth, c, Q, X, nn⟩ := C
  intro H locs ls hl hW hS
  exact va_get E.1.1 E.1.2.1 (Ts := zT) E.1.2.2.2.2.2.1 hin E.1.2.2.2.2.1 E.1.2.2.2.2.2.2.2.2.2.1 (hW.at_ hk he) 0 rfl hc a ha (E.1.2.2.2.2.2.1 _ hw) (fun _ h => h) hv d (kk H locs ls hl hW hS)
theorem ze_put {C : zC} {own : String} {cc : ByteArray} {n : Nat} {ret : Option FieldType} {rm : Room} {cs : Nat × Nat} {pc : Nat} {lv : List (Nat × Value)} {st : List Value} {n0 : Nat} {e : Nat → va_E} (E : zEe C own cc n ret rm) (k : Nat) {ci N : Nat} {CN : String} {TF : u_T} {fs : List Value} (hk : k < n0) (he : e k = .inr (ci, fs)) (hc : vwCl[ci]? = some (CN, TF, N)) (hin : ∀ w ∈ u_ws CN TF N, w ∈ zT) (a : Nat) (ha : a < N) {index : Nat} (hw : Cond.fieldLink own index (TF a).1 (TF a).2.1 (TF a).2.2.1 ∈ zT) (ty : Nat → FieldType) (hty : ∀ k, k < N → parseFieldDescriptor (TF k).2.2.1 = some (ty k)) (hnm : ∀ a, a < N → ∀ b, b < N → a ≠ b → (TF a).2.1 ≠ (TF b).2.1) (hfin : (TF a).2.2.2 = false) {v : Value} (hn : narrow (ty a) v = v) (hfit : fits (ty a) v = true) (hlen : a < fs.length) {fs2 : List Value} (hf2 : fs.set a v = fs2) {e2 : Nat → va_E} (h2 : va_up e k (.inr (ci, fs2)) = e2) (d : decode cc pc = .ok (.putfield index, 3)) (kk : zBe C cs (pc + 3) lv st (n0, e2)) : zBe C cs pc lv (v :: .ref (C.X.1 + k) :: st) (n0, e) := by
  obtain ⟨p, l, eV, R, s, m, args, below, meth, c, Q, X, nn⟩ := C
  intro H locs ls hl hW hS
  subst h2
  subst hf2
  have hK : va_K X.2.1 vwCl (zty X) s := E.1.2.2.2.2.2.2.2.2.2.1
  have hap := va_apart (own := own) (Ts := zT) E.1.2.2.2.2.2.1 hin ty hty hnm hK hc
  obtain ⟨r, h1, cell, q1, q2, q3, q4⟩ := (hW.at_ hk he) 0 _ rfl
  have hr : r = (CN, TF, N) := Option.some.inj (h1.symm.trans hc)
  subst hr
  obtain ⟨hSl, hfc, kC, hkC, hkind⟩ := hK.1 ci _ hc
  obtain ⟨cf, kf, fi, f, hi, hsl⟩ := hSl a ha
  have hlay := E.1.2.2.2.2.2.1 _ (hin _ (u_in_lay ha))
  unfold u_lay at hlay
  rw [if_neg (by rw [hfin]; decide)] at hlay
  have hst := (u_facts hfc hkC (Or.inl hlay) hi).1
  have h6 := u_store hfc hkC hkind hlay hi (hty a ha) hn hfit
  refine W.putK E.1.1 E.1.2.1 ⟨E.1.2.2.2.2.1, (E.1.2.2.2.2.2.1 _ hw), ⟨_, _, _, hi⟩, hst⟩ (by rw [q2]; exact h6) q1 q3 (by rw [hsl]; exact k2_hasslot (q4 a ha)) rfl rfl d fun H1 e1 z oq => ?_
  rw [hsl] at e1 ⊢
  exact kk H1 _ ls hl (hW.up z oq ⟨_, hc, t_OB.to (V := updV (vp_V fs) a v) ⟨_, e1, q2, q3, t_set q4 hap ha v⟩ (fun j _ => vp_updV_set hlen v j)⟩) (hS.put z oq (Nat.le_add_right _ _))
theorem ze_putF {C : zC} {own : String} {cc : ByteArray} {n : Nat} {ret : Option FieldType} {rm : Room} {cs : Nat × Nat} {pc : Nat} {lv : List (Nat × Value)} {st : List Value} {n0 : Nat} {e : Nat → va_E} (E : zEe C own cc n ret rm) (k : Nat) {ci N : Nat} {CN : String} {TF : u_T} {fs : List Value} (hk : k < n0) (he : e k = .inr (ci, fs)) (hc : vwCl[ci]? = some (CN, TF, N)) (hin : ∀ w ∈ u_ws CN TF N, w ∈ zT) (a : Nat) (ha : a < N) {index : Nat} (hw : Cond.fieldLink own index (TF a).1 (TF a).2.1 (TF a).2.2.1 ∈ zT) (ty : Nat → FieldType) (hty : ∀ k, k < N → parseFieldDescriptor (TF k).2.2.1 = some (ty k)) (hnm : ∀ a, a < N → ∀ b, b < N → a ≠ b → (TF a).2.1 ≠ (TF b).2.1) (hfin : (TF a).2.2.2 = true) (hin2 : C.2.2.2.2.2.2.2.2.1.name = "<init>") (hdecl : (TF a).1 = own) {v : Value} (hn : narrow (ty a) v = v) (hfit : fits (ty a) v = true) (hlen : a < fs.length) {fs2 : List Value} (hf2 : fs.set a v = fs2) {e2 : Nat → va_E} (h2 : va_up e k (.inr (ci, fs2)) = e2) (d : decode cc pc = .ok (.putfield index, 3)) (kk : zBe C cs (pc + 3) lv st (n0, e2)) : zBe C cs pc lv (v :: .ref (C.X.1 + k) :: st) (n0, e) := by
  obtain ⟨p, l, eV, R, s, m, args, below, meth, c, Q, X, nn⟩ := C
  intro H locs ls hl hW hS
  subst h2
  subst hf2
  have hK : va_K X.2.1 vwCl (zty X) s := E.1.2.2.2.2.2.2.2.2.2.1
  have hap := va_apart (own := own) (Ts := zT) E.1.2.2.2.2.2.1 hin ty hty hnm hK hc
  obtain ⟨r, h1, cell, q1, q2, q3, q4⟩ := (hW.at_ hk he) 0 _ rfl
  have hr : r = (CN, TF, N) := Option.some.inj (h1.symm.trans hc)
  subst hr
  obtain ⟨hSl, hfc, kC, hkC, hkind⟩ := hK.1 ci _ hc
  obtain ⟨cf, kf, fi, f, hi, hsl⟩ := hSl a ha
  have hlay := E.1.2.2.2.2.2.1 _ (hin _ (u_in_lay ha))
  unfold u_lay at hlay
  rw [if_pos hfin] at hlay
  have hst := (u_facts hfc hkC (Or.inr hlay) hi).1
  have h6 := u_fits hfc hkC hkind (Or.inr hlay) hi (hty a ha) hn hfit
  have hcf : m.cls = cf := by
    obtain ⟨_, _, c', _, _, _, -, -, hf', -, -, -, hown2, -⟩ := Cond.laysFinal_spec hlay
    have e1 : c' = cf := by have := hi.symm.trans hf'; simp at this; exact this.1.symm
    rw [hdecl] at hown2
    rw [← e1]; exact Option.some.inj (E.1.2.2.2.2.1.symm.trans hown2)
  refine W.putFinK E.1.1 E.1.2.1 E.1.2.2.2.2.1 (E.1.2.2.2.2.2.1 _ hw) hi hst hcf hin2 (by rw [q2]; exact h6) q1 q3 (by rw [hsl]; exact k2_hasslot (q4 a ha)) rfl rfl d fun H1 e1 z oq => ?_
  rw [hsl] at e1 ⊢
  exact kk H1 _ ls hl (hW.up z oq ⟨_, hc, t_OB.to (V := updV (vp_V fs) a v) ⟨_, e1, q2, q3, t_set q4 hap ha v⟩ (fun j _ => vp_updV_set hlen v j)⟩) (hS.put z oq (Nat.le_add_right _ _))
