set_option maxHeartbeats 4000000
set_option maxRecDepth 100000
theorem ag_fire {c : Nat} {pay t a : Int} {am ki sh te vb aK aN aS aT aV : Nat → Int} (h : IA c pay am ki sh te vb aK aN aS aT aV) : wp (iK_fire t a c am ki sh te) (fun r => wp (iM_fire t a c aK aN aS aT aV) (fun q => aRes c pay am ki sh te vb aK aN aS aT aV r.1 q.1 r.2.1 q.2.1 pay r.2.2.1 r.2.2.2.1 r.2.2.2.2.1 r.2.2.2.2.2 vb q.2.2.1 q.2.2.2.1 q.2.2.2.2.1 q.2.2.2.2.2.1 q.2.2.2.2.2.2)) := by
  have hh := h
  obtain ⟨g1, g2, g3, g4, g5⟩ := h
  have hm : ∀ Q : R_iM_fire → Prop, ((0 ≤ t ∧ t < 40) ∧ (0 ≤ a ∧ a ≤ 120) ∧ c < 200 → Q (((c + 1 : Nat) : Int), ((c + 1 : Nat) : Int), va_up aK (c + 1) 4, va_up aN (c + 1) a, va_up aS (c + 1) 0, va_up aT (c + 1) t, va_up aV (c + 1) 0)) → (¬ ((0 ≤ t ∧ t < 40) ∧ (0 ≤ a ∧ a ≤ 120) ∧ c < 200) → Q (-1, (c : Int), aK, aN, aS, aT, aV)) → wp (iM_fire t a c aK aN aS aT aV) Q := fun Q q1 q2 => by
    unfold iM_fire
    rw [wp_bd1, w_M_isTerm]
    refine ⟨fun x => ?_, fun x => ?_⟩
    · rw [if_neg (by decide), wp_bd1, w_isIn]
      refine ⟨fun y => ?_, fun y => ?_⟩
      · rw [if_neg (by decide), wp_bd7, w_act g1, wp_some, wp_some]
        by_cases z : c < 200
        · rw [if_pos z]
          exact q1 ⟨x, y, z⟩
        · rw [if_neg z]
          exact q2 (fun w => z w.2.2)
      · rw [if_pos rfl, wp_some]
        exact q2 (fun w => y w.2.1)
    · rw [if_pos rfl, wp_some]
      exact q2 (fun w => x w.1)
  have no : ¬ ((0 ≤ t ∧ t < 40) ∧ (0 ≤ a ∧ a ≤ 120) ∧ c < 200) → wp (some ((-1 : Int), (c : Int), am, ki, sh, te)) (fun r => wp (iM_fire t a c aK aN aS aT aV) (fun q => aRes c pay am ki sh te vb aK aN aS aT aV r.1 q.1 r.2.1 q.2.1 pay r.2.2.1 r.2.2.2.1 r.2.2.2.2.1 r.2.2.2.2.2 vb q.2.2.1 q.2.2.2.1 q.2.2.2.2.1 q.2.2.2.2.2.1 q.2.2.2.2.2.2)) := fun hn => by
    rw [wp_some]
    exact hm _ (fun w => absurd w hn) (fun _ => ⟨rfl, rfl, Or.inl ⟨rfl, rfl, rfl, rfl, rfl, rfl, rfl, rfl, rfl, rfl, rfl, rfl, rfl⟩⟩)
  have b0 : ∀ s0 : Int, s0 = 0 → ¬ ((0 ≤ t ∧ t < 40) ∧ (0 ≤ a ∧ a ≤ 120) ∧ c < 200) → wp (iK_fire_b22 t a s0 c am ki sh te) (fun r => wp (iM_fire t a c aK aN aS aT aV) (fun q => aRes c pay am ki sh te vb aK aN aS aT aV r.1 q.1 r.2.1 q.2.1 pay r.2.2.1 r.2.2.2.1 r.2.2.2.2.1 r.2.2.2.2.2 vb q.2.2.1 q.2.2.2.1 q.2.2.2.2.1 q.2.2.2.2.2.1 q.2.2.2.2.2.2)) := fun s0 hs hn => by
    unfold iK_fire_b22
    rw [if_pos hs]
    exact no hn
  unfold iK_fire
  rw [wp_bd1, w_isTerm]
  refine ⟨fun x => ?_, fun x => ?_⟩
  · rw [if_neg (by decide), wp_ite]
    refine ⟨fun z => b0 0 rfl (by omega), fun z => ?_⟩
    rw [wp_ite]
    refine ⟨fun z2 => b0 0 rfl (by omega), fun z2 => ?_⟩
    unfold iK_fire_b22
    rw [if_neg (by decide), wp_bd6, w_add_acts g1, wp_some, wp_some]
    by_cases v : c < 200
    · rw [if_pos v]
      refine hm _ (fun _ => ⟨rfl, rfl, Or.inr ⟨rfl, ?_, fun k hk => ⟨va_up_ne _ _ hk, va_up_ne _ _ hk, va_up_ne _ _ hk, va_up_ne _ _ hk⟩, fun k => Or.inl rfl, ?_⟩⟩) (fun n => by omega)
      · have ad := IA_add hh v (K := 4) (s := -1) (s2 := 0) (t := t) (a := a) (by omega) (by omega) (fun _ => rfl) (fun q => by omega) (fun q => by omega) (fun q => by omega) (fun _ => by omega) (fun q => by omega)
        rw [if_neg (by omega), Int.add_zero] at ad
        exact ad
      · show va_up ki (c + 1) 4 (c + 1) ≠ 1
        rw [va_up_self]
        decide
    · rw [if_neg v]
      exact hm _ (fun w => absurd w.2.2 v) (fun _ => ⟨rfl, rfl, Or.inl ⟨rfl, rfl, rfl, rfl, rfl, rfl, rfl, rfl, rfl, rfl, rfl, rfl, rfl⟩⟩)
  · rw [if_pos rfl]
    exact b0 0 rfl (fun w => x w.1)
theorem ag_annul {c : Nat} {pay a : Int} {am ki sh te vb aK aN aS aT aV : Nat → Int} (h : IA c pay am ki sh te vb aK aN aS aT aV) : wp (iK_annul a c am ki sh te vb) (fun r => wp (iM_annul a c aK aN aS aT aV) (fun q => aRes c pay am ki sh te vb aK aN aS aT aV r.1 q.1 r.2.1 q.2.1 pay r.2.2.1 r.2.2.2.1 r.2.2.2.2.1 r.2.2.2.2.2.1 r.2.2.2.2.2.2 q.2.2.1 q.2.2.2.1 q.2.2.2.2.1 q.2.2.2.2.2.1 q.2.2.2.2.2.2)) := by
  have hh := h
  obtain ⟨g1, g2, g3, g4, g5⟩ := h
  have hno : ∀ (P : Prop), (¬ P) → (P → False) := fun P n p => n p
  have res : ∀ (r : R_iK_annul) (q : R_iM_annul), r = (-1, (c : Int), am, ki, sh, te, vb) → q = (-1, (c : Int), aK, aN, aS, aT, aV) → aRes c pay am ki sh te vb aK aN aS aT aV r.1 q.1 r.2.1 q.2.1 pay r.2.2.1 r.2.2.2.1 r.2.2.2.2.1 r.2.2.2.2.2.1 r.2.2.2.2.2.2 q.2.2.1 q.2.2.2.1 q.2.2.2.2.1 q.2.2.2.2.2.1 q.2.2.2.2.2.2 := fun r q e1 e2 => by
    subst e1
    subst e2
    exact ⟨rfl, rfl, Or.inl ⟨rfl, rfl, rfl, rfl, rfl, rfl, rfl, rfl, rfl, rfl, rfl, rfl, rfl⟩⟩
  unfold iK_annul iActs_addVoid iActs_isAct iM_annul
  rw [wp_bd7, wp_bd1, wp_ite]
  refine ⟨fun x => ?_, fun x => ?_⟩
  · rw [wp_some, if_pos rfl, wp_some, wp_some, wp_bd1, w_isIn]
    refine ⟨fun w => by omega, fun _ => ?_⟩
    rw [if_pos rfl, wp_some]
    exact res _ _ rfl rfl
  · rw [wp_ite]
    refine ⟨fun y => ?_, fun y => ?_⟩
    · rw [wp_some, if_pos rfl, wp_some, wp_some, wp_bd1, w_isIn]
      refine ⟨fun w => by omega, fun _ => ?_⟩
      rw [if_pos rfl, wp_some]
      exact res _ _ rfl rfl
    · obtain ⟨k, rfl⟩ : ∃ k : Nat, a = k := ⟨a.toNat, by omega⟩
      have ek : (k : Int).toNat = k := rfl
      obtain ⟨⟨a1, a2, a3, a4, a5⟩, b⟩ := g2 k (by omega) (by omega)
      have m1 : ∀ Q : R_iM_annul → Prop, wp (gd (jb (k : Int) 201) <| if aV k = 0 then if aK k = 5 then some ((-1 : Int), (c : Int), aK, aN, aS, aT, aV) else if (c : Int) = 200 then some ((-1 : Int), (c : Int), aK, aN, aS, aT, aV) else gd (jr ((c : Int) + 1)) <| bd7 (iM_act 5 0 0 k c aK aN aS aT (va_up aV k ((c : Int) + 1))) fun rc3 v_acts_c3 v_actKind_c3 v_actNumber_c3 v_actShire_c3 v_actTerm_c3 v_voidAt_c3 => some (rc3, v_acts_c3, v_actKind_c3, v_actNumber_c3, v_actShire_c3, v_actTerm_c3, v_voidAt_c3) else some ((-1 : Int), (c : Int), aK, aN, aS, aT, aV)) Q → wp (bd1 (iM_isIn k 1 c) fun rc1 => if rc1 = 0 then some ((-1 : Int), (c : Int), aK, aN, aS, aT, aV) else gd (jb (k : Int) 201) <| if aV (k : Int).toNat = 0 then if aK (k : Int).toNat = 5 then some ((-1 : Int), (c : Int), aK, aN, aS, aT, aV) else if (c : Int) = 200 then some ((-1 : Int), (c : Int), aK, aN, aS, aT, aV) else gd (jr ((c : Int) + 1)) <| bd7 (iM_act 5 0 0 k c aK aN aS aT (va_up aV (k : Int).toNat ((c : Int) + 1))) fun rc3 v_acts_c3 v_actKind_c3 v_actNumber_c3 v_actShire_c3 v_actTerm_c3 v_voidAt_c3 => some (rc3, v_acts_c3, v_actKind_c3, v_actNumber_c3, v_actShire_c3, v_actTerm_c3, v_voidAt_c3) else some ((-1 : Int), (c : Int), aK, aN, aS, aT, aV)) Q := fun Q hQ => by
        rw [wp_bd1, w_isIn]
        refine ⟨fun _ => ?_, fun w => by omega⟩
        rw [if_neg (by decide)]
        exact hQ
      rw [wp_some, if_neg (by decide), wp_gd, wp_ite, ek]
      refine ⟨jb_iff.mpr (by omega), fun z => ?_, fun z => ?_⟩
      · rw [wp_some, wp_some]
        refine m1 _ ?_
        rw [wp_gd, wp_ite, a1, a3]
        refine ⟨jb_iff.mpr (by omega), fun _ => ?_, fun _ => ?_⟩
        · rw [if_pos z, wp_some]
          exact res _ _ rfl rfl
        · rw [wp_some]
          exact res _ _ rfl rfl
      · rw [wp_ite]
        refine ⟨fun v => ?_, fun v => ?_⟩
        · unfold iActs_isFull
          rw [wp_bd1, wp_ite]
          refine ⟨fun u => ?_, fun u => ?_⟩
          · have u2 : c < 200 := by omega
            rw [wp_some, if_pos rfl, wp_bd6, w_add_acts g1, wp_some, wp_some, wp_some, if_pos u2]
            refine m1 _ ?_
            have e2 : (c : Int) + 1 = ((c + 1 : Nat) : Int) := by omega
            rw [wp_gd, a1, a3, if_pos v, if_neg z, if_neg (by omega), wp_gd, wp_bd7, w_act g1, wp_some, wp_some, if_pos u2, e2]
            refine ⟨jb_iff.mpr (by omega), jr_iff.mpr (by omega), ?_, rfl, Or.inr ⟨rfl, IA_void hh u2 (by omega) (by omega) z v, fun q hq => ⟨va_up_ne _ _ hq, va_up_ne _ _ hq, va_up_ne _ _ hq, va_up_ne _ _ hq⟩, fun q => ?_, ?_⟩⟩
            · show va_up vb k ((c + 1 : Nat) : Int) k = _
              rw [va_up_self]
            · show va_up vb k ((c + 1 : Nat) : Int) q = vb q ∨ va_up vb k ((c + 1 : Nat) : Int) q = ((c + 1 : Nat) : Int)
              by_cases e : q = k
              · rw [e, va_up_self]
                exact Or.inr rfl
              · rw [va_up_ne _ _ e]
                exact Or.inl rfl
            · show va_up ki (c + 1) 5 (c + 1) ≠ 1
              rw [va_up_self]
              decide
          · rw [wp_some, if_neg (by decide), wp_some, wp_some]
            refine m1 _ ?_
            rw [wp_gd, a1, a3, if_pos v, if_neg z, if_pos (by omega), wp_some]
            exact ⟨jb_iff.mpr (by omega), res _ _ rfl rfl⟩
        · rw [wp_some, wp_some]
          refine m1 _ ?_
          rw [wp_gd, a3, if_neg v, wp_some]
          exact ⟨jb_iff.mpr (by omega), res _ _ rfl rfl⟩
theorem ag_as {a ka : Int} {c : Nat} (h : -1 ≤ ka ∧ ka ≤ c) : wp (iK_as a ka c) (fun r => wp (iM_as a c ka) (fun q => r.1 = q.1 ∧ q.2 = r.2 ∧ -1 ≤ r.2 ∧ r.2 ≤ c)) := by
  unfold iK_as iM_as iActs_size
  rw [wp_ite]
  refine ⟨fun x => ?_, fun x => ?_⟩
  · rw [wp_some, wp_bd1, w_isIn]
    refine ⟨fun w => by omega, fun _ => ?_⟩
    rw [if_pos rfl, wp_some]
    exact ⟨rfl, rfl, h⟩
  · rw [wp_bd1, wp_some, wp_ite]
    refine ⟨fun y => ?_, fun y => ?_⟩
    · rw [wp_some, wp_bd1, w_isIn]
      refine ⟨fun _ => ?_, fun w => by omega⟩
      rw [if_neg (by decide), wp_some]
      exact ⟨rfl, rfl, by show -1 ≤ a; omega, y⟩
    · rw [wp_some, wp_bd1, w_isIn]
      refine ⟨fun w => by omega, fun _ => ?_⟩
      rw [if_pos rfl, wp_some]
      exact ⟨rfl, rfl, h⟩
