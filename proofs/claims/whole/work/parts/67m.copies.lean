set_option maxHeartbeats 4000000
set_option maxRecDepth 100000
/-! reading a writ: both sides -/
def KRok (N : Nat) (T : Nat → Int) (n : Nat) (V : List St) : Prop := ∀ (D : DynI) (a c f fa k o s st : Int) (v : Nat → Int) (stm : Nat → Option Nat) (Q : R_iReader_read → Prop), (∀ (E : DynI) (a2 s2 st2 : Int) (v2 : Nat → Int) (stm2 : Nat → Option Nat), DExt D E → E.1 = D.1 + V.length + 3 → KWr E (D.1 + V.length) V → (0 ≤ s2 ∧ s2 < 600) → Q (some (D.1 + V.length), E, a2, V.length, 0, -1, 0, 0, 0, s2, st2, v2, stm2)) → wp (iReader_read N D a c f fa k n o s st v stm T) Q
def KRbad (N : Nat) (T : Nat → Int) (n : Nat) (k p : Int) : Prop := ∀ (D : DynI) (a c f fa kd o s st : Int) (v : Nat → Int) (stm : Nat → Option Nat) (Q : R_iReader_read → Prop), (∀ (E : DynI) (a2 c2 kd2 o2 s2 st2 : Int) (v2 : Nat → Int) (stm2 : Nat → Option Nat), DExt D E → E.1 ≤ D.1 + 24 → Q (none, E, a2, c2, k, p, kd2, 0, o2, s2, st2, v2, stm2)) → wp (iReader_read N D a c f fa kd n o s st v stm T) Q
def RRd (N : Nat) (W : Nat → Nat → Int) (T : Nat → Int) (at_ bd bp bs s en e f fp o le w : Int) (v fi ib mn se so sE sF tE wt : Nat → Int) : Option R_iM_reads := iM_reads N at_ bd bp bs s en e f fp o le w (W 17) (W 11) (W 19) (W 10) v (W 8) (W 0) fi (W 15) (W 13) ib mn (W 5) (W 4) (W 16) (W 20) (W 9) (W 12) (W 3) (W 1) se (W 2) (W 18) so (W 14) sE sF T (W 6) tE wt (W 7)
def RRok (v : Nat → Int) (T : Nat → Int) (n : Nat) (V : List St) : Prop := ∀ (N : Nat) (W : Nat → Nat → Int) (at_ bd bp bs s en e f fp o w : Int) (fi ib mn se so sE sF tE wt : Nat → Int) (Q : R_iM_reads → Prop), 5000 ≤ N → (∀ a, a < 21 → ∀ i, i < kS_len a → W a i = jch a i) → (∀ (a bs2 e2 o2 w2 : Int) (v2 fi2 ib2 mn2 se2 so2 sE2 sF2 tE2 wt2 : Nat → Int), (∀ j, j < (cat V).length → v2 j = (cat V).getD j 0) → (∀ j, 640 ≤ j → v2 j = v j) → RStm 0 fi2 ib2 se2 so2 sE2 sF2 tE2 V → mn2 0 = V.length → k24 fi fi2 → k24 ib ib2 → kpt mn mn2 0 → k24 se se2 → k24 so so2 → k24 sE sE2 → k24 sF sF2 → k24 tE tE2 → Q (1, a, 0, -1, bs2, ((cat V).length : Int), n, e2, 0, -1, o2, 0, w2, v2, fi2, ib2, mn2, se2, so2, sE2, sF2, tE2, wt2)) → wp (RRd N W T at_ bd bp bs s en e f fp o n w v fi ib mn se so sE sF tE wt) Q
def RRbad (v : Nat → Int) (T : Nat → Int) (n : Nat) (k p : Int) : Prop := ∀ (N : Nat) (W : Nat → Nat → Int) (at_ bd bp bs s en e f fp o w : Int) (fi ib mn se so sE sF tE wt : Nat → Int) (Q : R_iM_reads → Prop), 5000 ≤ N → (∀ a, a < 21 → ∀ i, i < kS_len a → W a i = jch a i) → (∀ (a bs2 s2 e2 o2 w2 : Int) (v2 fi2 ib2 mn2 se2 so2 sE2 sF2 tE2 wt2 : Nat → Int), (∀ j, 640 ≤ j → v2 j = v j) → k24 fi fi2 → k24 ib ib2 → kpt mn mn2 0 → k24 se se2 → k24 so so2 → k24 sE sE2 → k24 sF sF2 → k24 tE tE2 → Q (0, a, k, p, bs2, s2, n, e2, k, p, o2, 0, w2, v2, fi2, ib2, mn2, se2, so2, sE2, sF2, tE2, wt2)) → wp (RRd N W T at_ bd bp bs s en e f fp o n w v fi ib mn se so sE sF tE wt) Q
theorem kr_in {N n : Nat} {T : Nat → Int} (hN : 5000 ≤ N) (hn : n ≤ 600) {D : DynI} {a c f fa k o s st : Int} {v : Nat → Int} {stm : Nat → Option Nat} {Q : R_iReader_read → Prop} (h : wp (iReader_read_b41 N T n (K79 N n T) N 1 D (tSk T n 0 : Nat) (([] : List St).length : Int) 0 (-1) (tK T n (tSk T n 0) (-1)) 0 0 (tS T n (tSk T n 0) : Nat) v stm) Q) : wp (iReader_read N D a c f fa k n o s st v stm T) Q := by
  unfold iReader_read
  show wp (bd3 (iReader_next N a 3 n ((0 : Nat) : Int) T) _) Q
  rw [wp_bd3, w_next hN (e := -1) hn (Nat.zero_le n) (Or.inr ⟨rfl, by omega⟩), wp_some]
  exact h
theorem read_both {N n : Nat} {T : Nat → Int} (hN : 5000 ≤ N) (hn : n ≤ 600) (hT : ∀ k, 0 ≤ T k ∧ T k ≤ 255) (v0 : Nat → Int) : (∃ V, KRok N T n V ∧ RRok v0 T n V ∧ V.length ≤ 24 ∧ (trl (cat V)).length ≤ 600 ∧ ∀ w, w ∈ V → wOk w) ∨ ∃ k p, KRbad N T n k p ∧ RRbad v0 T n k p := by
  letI fr : Inhabited Frm := ⟨v0⟩
  have q0 : tSk T n 0 ≤ n := lR_le (Nat.zero_le n)
  have q1 : tSk T n (tSk T n 0) = tSk T n 0 := lR_id
  have ri : ∀ (N : Nat) (W : Nat → Nat → Int) (at_ bd bp bs s en e f fp o w : Int) (fi ib mn se so sE sF tE wt : Nat → Int) (Q : R_iM_reads → Prop), wp (RLp N W n T f fp N ((0 : Nat) : Int) 0 (⟨-1, rfl⟩ : MOne) bs 0 (-1) o w v0 fi ib (va_up mn 0 0) se so sE sF tE wt) Q → wp (RRd N W T at_ bd bp bs s en e f fp o n w v0 fi ib mn se so sE sF tE wt) Q := by
    intro N W at_ bd bp bs s en e f fp o w fi ib mn se so sE sF tE wt Q h
    exact h
  have c0 : cod v0 0 (cat []) := ⟨cdk_nil v0, fun _ _ => rfl⟩
  have r0 : ∀ fi ib se so sE sF tE, RStm 0 fi ib se so sE sF tE [] := fun fi ib se so sE sF tE => eachS_nil _
  have k0 : ∀ D stm, KStm D stm [] := fun D stm => eachS_nil _
  have up : ∀ {mn mn2 : Nat → Int}, kpt (va_up mn 0 0) mn2 0 → kpt mn mn2 0 := fun {mn mn2} h k hk => by
    rw [h k hk, va_up_ne _ _ hk]
  rcases reads_from hN hn hT n (tSk T n 0) (-1) [] (by omega) q0 q1 (by omega) (Nat.zero_le _) (Nat.zero_le _) (fun w h => by cases h) with ⟨V, g1, g2, g3, g4, g5⟩ | ⟨k, p, g1, g2⟩
  · refine Or.inl ⟨V, ?_, ?_, g3, by omega, g5⟩
    · intro D a c f fa k o s st v stm Q hQ
      refine kr_in hN hn ?_
      refine g1 D N 0 (-1) 0 v stm Q (k0 D stm) (cdk_nil v) (by omega) (fun D2 at2 s2 st2 v2 stm2 x1 x2 x3 x4 => ?_)
      have x5 : D2.1 = D.1 + V.length := x2
      have x6 := x4.1
      have x7 : s2 < 600 := by
        cases V with
        | nil =>
          have x8 : s2 = 0 := x6
          omega
        | cons w V =>
          have x8 : (trl (cat (w :: V))).length + (V.length + 1) ≤ n := g4
          omega
      refine kw_make g3 x3 x4 x7 (fun E e1 e2 e3 => ?_)
      rw [x5] at e3 ⊢
      exact hQ E at2 s2 st2 v2 stm2 (x1.tr e1) (by omega) e3 ⟨by omega, x7⟩
    · intro N W at_ bd bp bs s en e f fp o w fi ib mn se so sE sF tE wt Q hN hW hQ
      refine ri N W at_ bd bp bs s en e f fp o w fi ib mn se so sE sF tE wt Q ?_
      refine g2 N W 0 N f fp ⟨-1, rfl⟩ bs 0 o w v0 fi ib _ se so sE sF tE wt Q hN hW (Nat.zero_le n) rfl (by omega) c0 (r0 _ _ _ _ _ _ _) (va_up_self _ _ _) (fun a bp2 bs2 s2 e2 o2 w2 v2 fi2 ib2 mn2 se2 so2 sE2 sF2 tE2 wt2 a1 a2 a3 a4 a5 a6 a7 a8 a9 b1 b2 => ?_)
      obtain ⟨bq, hb⟩ := bp2
      subst hb
      have c1 := cod_l a1
      subst c1
      have ll := trl_len (cat V)
      exact hQ a bs2 e2 o2 w2 v2 fi2 ib2 mn2 se2 so2 sE2 sF2 tE2 wt2 a1.1.2 (fun j hj => a1.2 j (by omega)) a2 a3 a4 a5 (up a6) a7 a8 a9 b1 b2
  · refine Or.inr ⟨k, p, ?_, ?_⟩
    · intro D a c f fa kd o s st v stm Q hQ
      refine kr_in hN hn ?_
      exact g1 D N 0 (-1) 0 v stm Q (k0 D stm) (cdk_nil v) (by omega) (fun D2 a2 c2 kd2 o2 s2 st2 v2 stm2 x1 x2 => hQ D2 a2 c2 kd2 o2 s2 st2 v2 stm2 x1 x2)
    · intro N W at_ bd bp bs s en e f fp o w fi ib mn se so sE sF tE wt Q hN hW hQ
      refine ri N W at_ bd bp bs s en e f fp o w fi ib mn se so sE sF tE wt Q ?_
      exact g2 N W 0 N f fp ⟨-1, rfl⟩ bs 0 o w v0 fi ib _ se so sE sF tE wt Q hN hW (Nat.zero_le n) rfl (by omega) c0 (r0 _ _ _ _ _ _ _) (va_up_self _ _ _) (fun a bs2 s2 e2 o2 w2 v2 fi2 ib2 mn2 se2 so2 sE2 sF2 tE2 wt2 a1 a4 a5 a6 a7 a8 a9 b1 b2 => hQ a bs2 s2 e2 o2 w2 v2 fi2 ib2 mn2 se2 so2 sE2 sF2 tE2 wt2 a1.2.2 a4 a5 (up a6) a7 a8 a9 b1 b2)
/-! the copy that is kept -/
theorem cpy_up {f g : Nat → Int} {d i : Nat} {x : Int} (hx : x = f i) : va_up (va_cpy f g 0 d i) (d + i) x = va_cpy f g 0 d (i + 1) := by
  funext k
  by_cases h : k = d + i
  · rw [h, va_up_self, pk_cpy_in (by omega) (by omega), hx]
    rw [show 0 + (d + i - d) = i by omega]
  · rw [va_up_ne _ _ h]
    by_cases h2 : d ≤ k ∧ k < d + i
    · rw [pk_cpy_in h2.1 h2.2, pk_cpy_in h2.1 (by omega)]
    · rw [pk_cpy_out (by omega), pk_cpy_out (by omega)]
theorem cpy_lo {f g : Nat → Int} {d i j : Nat} (h : j < d) : va_cpy f g 0 d i j = g j := pk_cpy_out (Or.inl h)
theorem cpy_hi {f g : Nat → Int} {d i j : Nat} (h : d + i ≤ j) : va_cpy f g 0 d i j = g j := pk_cpy_out (Or.inr h)
theorem cpy_at {f g : Nat → Int} {d i j : Nat} (h : j < i) : va_cpy f g 0 d i (d + j) = f j := by
  rw [pk_cpy_in (by omega) (by omega), show 0 + (d + j - d) = j by omega]
theorem jnZ_b {x : Int} (h : x = 0 ∨ x = 1) : jnZ x = x := by
  rcases h with h | h <;> subst h <;> decide
/-- what the reference keeps of writ a -/
def RWr (a : Nat) (v fi ib mn se so sE sF tE : Nat → Int) (V : List St) : Prop := RStm (24 * a) fi ib se so sE sF tE V ∧ mn a = V.length ∧ ∀ j, j < (cat V).length → v (640 * a + j) = (cat V).getD j 0
theorem w_copies {N a : Nat} {V : List St} {v fi ib mn se so sE sF tE : Nat → Int} {Q : R_iM_copies → Prop} (hN : 5000 ≤ N) (ha : 1 ≤ a ∧ a ≤ 200) (hV : V.length ≤ 24) (hl : (cat V).length ≤ 600) (hr : RStm 0 fi ib se so sE sF tE V) (hm : mn 0 = V.length) (hb : ∀ j, j < V.length → ib j = 0 ∨ ib j = 1) (hv : ∀ j, j < (cat V).length → v j = (cat V).getD j 0) (hQ : ∀ (v2 fi2 ib2 mn2 se2 so2 sE2 sF2 tE2 : Nat → Int), RWr a v2 fi2 ib2 mn2 se2 so2 sE2 sF2 tE2 V → (∀ k, k ≠ a → mn2 k = mn k) → (∀ k, k < 640 * a ∨ 640 * a + 640 ≤ k → v2 k = v k) → (∀ k, k < 24 * a ∨ 24 * a + 24 ≤ k → fi2 k = fi k ∧ ib2 k = ib k ∧ se2 k = se k ∧ so2 k = so k ∧ sE2 k = sE k ∧ sF2 k = sF k ∧ tE2 k = tE k) → Q (v2, fi2, ib2, mn2, se2, so2, sE2, sF2, tE2)) : wp (iM_copies N a (cat V).length v fi ib mn se so sE sF tE) Q := by
  unfold iM_copies iM_copies_b14
  have ea : (a : Int).toNat = a := rfl
  rw [wp_gd, ea]
  refine ⟨jb_iff.mpr (by omega), ?_⟩
  have m0 : va_up mn a (mn 0) 0 = V.length := by rw [va_up_ne _ _ (by omega), hm]
  refine wp_zlp8 (fun (m : Nat) (x2 : Int) (f i s o e g t : Nat → Int) => ∃ k : Nat, k + m = V.length ∧ x2 = k ∧ f = va_cpy fi fi 0 (24 * a) k ∧ i = va_cpy (fun j => jnZ (ib j)) ib 0 (24 * a) k ∧ s = va_cpy se se 0 (24 * a) k ∧ o = va_cpy so so 0 (24 * a) k ∧ e = va_cpy sE sE 0 (24 * a) k ∧ g = va_cpy sF sF 0 (24 * a) k ∧ t = va_cpy tE tE 0 (24 * a) k) ?_ N V.length 0 _ _ _ _ _ _ _ (by omega) ⟨0, by omega, rfl, ?_, ?_, ?_, ?_, ?_, ?_, ?_⟩
  · intro self m x2 f i s o e g t ⟨k, k1, k2, q1, q2, q3, q4, q5, q6, q7⟩ ih
    subst k2 q1 q2 q3 q4 q5 q6 q7
    unfold iM_copies_b14_F
    rw [m0, wp_ite]
    refine ⟨fun c => ?_, fun c => ?_⟩
    · have kV : k = V.length := by omega
      subst kV
      unfold iM_copies_b133 iM_copies_b135
      refine wp_zlp2 (fun (m : Nat) (x2 : Int) (u : Nat → Int) => ∃ k : Nat, k + m = (cat V).length ∧ x2 = k ∧ u = va_cpy v v 0 (640 * a) k) ?_ N (cat V).length 0 _ (by omega) ⟨0, by omega, rfl, ?_⟩
      · intro self m x2 u ⟨k, k1, k2, q1⟩ ih
        subst k2 q1
        unfold iM_copies_b135_F
        rw [wp_ite]
        refine ⟨fun c => ?_, fun c => ?_⟩
        · rw [wp_some]
          have kV : k = (cat V).length := by omega
          subst kV
          refine hQ _ _ _ _ _ _ _ _ _ ⟨?_, va_up_self _ _ _ |>.trans hm, fun j hj => ?_⟩ (fun k hk => va_up_ne _ _ hk) (fun k hk => ?_) (fun k hk => ?_)
          · refine eachS_mono hr (fun A w B e h => ?_)
            have lt := pre_lt e
            rw [Nat.zero_add] at h
            rw [cpy_at lt, cpy_at lt, cpy_at lt, cpy_at lt, cpy_at lt, cpy_at lt, cpy_at lt]
            rw [jnZ_b (hb _ lt)]
            exact h
          · rw [cpy_at hj, hv j hj]
          · rcases hk with hk | hk
            · exact cpy_lo hk
            · exact cpy_hi (by omega)
          · rcases hk with hk | hk
            · exact ⟨cpy_lo hk, cpy_lo hk, cpy_lo hk, cpy_lo hk, cpy_lo hk, cpy_lo hk, cpy_lo hk⟩
            · have h2 : 24 * a + V.length ≤ k := by omega
              exact ⟨cpy_hi h2, cpy_hi h2, cpy_hi h2, cpy_hi h2, cpy_hi h2, cpy_hi h2, cpy_hi h2⟩
        · have e1 : (0 + (k : Int)).toNat = k := by omega
          have e2 : (640 * (a : Int) + (k : Int)).toNat = 640 * a + k := by omega
          rw [wp_gd, wp_gd, wp_gd, wp_gd, wp_gd, wp_gd, e1, e2, cpy_lo (by omega), cpy_up rfl]
          exact ⟨jr_iff.mpr (by omega), jb_iff.mpr (by omega), jr_iff.mpr (by omega), jr_iff.mpr (by omega), jb_iff.mpr (by omega), jr_iff.mpr (by omega), ih (m - 1) _ _ (by omega) ⟨k + 1, by omega, by omega, rfl⟩⟩
      · funext k
        by_cases h : k < 640 * a
        · exact (cpy_lo h).symm
        · exact (cpy_hi (by omega)).symm
    · have e1 : (0 + (k : Int)).toNat = k := by omega
      have e2 : (24 * (a : Int) + (k : Int)).toNat = 24 * a + k := by omega
      have l0 : k < 24 * a := by omega
      rw [wp_gd, wp_gd, wp_gd, wp_gd, wp_gd, wp_gd, e1, e2, cpy_lo l0, cpy_lo l0, cpy_lo l0, cpy_lo l0, cpy_lo l0, cpy_lo l0, cpy_lo l0, cpy_up rfl, cpy_up rfl, cpy_up rfl, cpy_up rfl, cpy_up rfl, cpy_up rfl, cpy_up rfl]
      exact ⟨jr_iff.mpr (by omega), jb_iff.mpr (by omega), jr_iff.mpr (by omega), jr_iff.mpr (by omega), jb_iff.mpr (by omega), jr_iff.mpr (by omega), ih (m - 1) _ _ _ _ _ _ _ _ (by omega) ⟨k + 1, by omega, by omega, rfl, rfl, rfl, rfl, rfl, rfl, rfl⟩⟩
  all_goals
    funext k
    by_cases h : k < 24 * a
    · exact (cpy_lo h).symm
    · exact (cpy_hi (by omega)).symm
