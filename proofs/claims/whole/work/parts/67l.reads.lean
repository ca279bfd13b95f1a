set_option maxHeartbeats 4000000
set_option maxRecDepth 100000
/-! the reference's loop over the statements -/
def k24 (f f2 : Nat → Int) : Prop := ∀ k, 24 ≤ k → f2 k = f k
theorem k24.tr {f g h : Nat → Int} (a : k24 f g) (b : k24 g h) : k24 f h := fun k hk => (b k hk).trans (a k hk)
theorem k24.r (f : Nat → Int) : k24 f f := fun _ _ => rfl
theorem kpt.k {f f2 : Nat → Int} {i : Nat} (h : kpt f f2 i) (hi : i < 24) : k24 f f2 := fun k hk => h k (by omega)
theorem updI.k4 {f f2 : Nat → Int} {i : Nat} {x : Int} (h : updI f f2 i x) (hi : i < 24) : k24 f f2 := h.k.k hi
def RK67 (N : Nat) (W : Nat → Nat → Int) (n : Nat) (T : Nat → Int) (f fp : Int) : Int → Int → Int → Int → Int → Int → Int → Int → (Nat → Int) → (Nat → Int) → (Nat → Int) → (Nat → Int) → (Nat → Int) → (Nat → Int) → (Nat → Int) → (Nat → Int) → (Nat → Int) → (Nat → Int) → Option R_iM_reads := fun a bd bp bs s e o w v fi ib mn se so sE sF tE wt => iM_reads_b67 N (W 17) (W 11) (W 19) (W 10) (W 8) (W 0) (W 15) (W 13) (W 5) (W 4) (W 16) (W 20) (W 9) (W 12) (W 3) (W 1) (W 2) (W 18) (W 14) T (W 6) (W 7) a bd bp bs s n e f fp o 0 w v fi ib mn se so sE sF tE wt
def RLp (N : Nat) (W : Nat → Nat → Int) (n : Nat) (T : Nat → Int) (f fp : Int) : Nat → Int → Int → Int → Int → Int → Int → Int → Int → (Nat → Int) → (Nat → Int) → (Nat → Int) → (Nat → Int) → (Nat → Int) → (Nat → Int) → (Nat → Int) → (Nat → Int) → (Nat → Int) → (Nat → Int) → Option R_iM_reads := iM_reads_b45 N (W 17) (W 11) (W 19) (W 10) (W 8) (W 0) (W 15) (W 13) (W 5) (W 4) (W 16) (W 20) (W 9) (W 12) (W 3) (W 1) (W 2) (W 18) (W 14) T (W 6) (W 7) n f fp 0 (RK67 N W n T f fp)
def RLok [Inhabited Frm] (T : Nat → Int) (n q : Nat) (e : Int) (V V2 : List St) : Prop := ∀ (N : Nat) (W : Nat → Nat → Int) (x m : Nat) (f fp : Int) (bp : MOne) (bs s o w : Int) (v fi ib mn se so sE sF tE wt : Nat → Int) (Q : R_iM_reads → Prop), 5000 ≤ N → (∀ a, a < 21 → ∀ i, i < kS_len a → W a i = jch a i) → x ≤ n → tSk T n x = q → n - q < m → cod v s (cat V) → RStm 0 fi ib se so sE sF tE V → mn 0 = V.length → (∀ (a : Int) (bp2 : MOne) (bs2 s2 e2 o2 w2 : Int) (v2 fi2 ib2 mn2 se2 so2 sE2 sF2 tE2 wt2 : Nat → Int), cod v2 s2 (cat V2) → RStm 0 fi2 ib2 se2 so2 sE2 sF2 tE2 V2 → mn2 0 = V2.length → k24 fi fi2 → k24 ib ib2 → kpt mn mn2 0 → k24 se se2 → k24 so so2 → k24 sE sE2 → k24 sF sF2 → k24 tE tE2 → Q (1, a, 0, bp2, bs2, s2, n, e2, 0, bp2, o2, 0, w2, v2, fi2, ib2, mn2, se2, so2, sE2, sF2, tE2, wt2)) → wp (RLp N W n T f fp m x 0 bp bs s e o w v fi ib mn se so sE sF tE wt) Q
def RLbad [Inhabited Frm] (T : Nat → Int) (n q : Nat) (e kd p : Int) (V : List St) : Prop := ∀ (N : Nat) (W : Nat → Nat → Int) (x m : Nat) (f fp : Int) (bp : MOne) (bs s o w : Int) (v fi ib mn se so sE sF tE wt : Nat → Int) (Q : R_iM_reads → Prop), 5000 ≤ N → (∀ a, a < 21 → ∀ i, i < kS_len a → W a i = jch a i) → x ≤ n → tSk T n x = q → n - q < m → cod v s (cat V) → RStm 0 fi ib se so sE sF tE V → mn 0 = V.length → (∀ (a bs2 s2 e2 o2 w2 : Int) (v2 fi2 ib2 mn2 se2 so2 sE2 sF2 tE2 wt2 : Nat → Int), frT v2 s2 → k24 fi fi2 → k24 ib ib2 → kpt mn mn2 0 → k24 se se2 → k24 so so2 → k24 sE sE2 → k24 sF sF2 → k24 tE tE2 → Q (0, a, kd, p, bs2, s2, n, e2, kd, p, o2, 0, w2, v2, fi2, ib2, mn2, se2, so2, sE2, sF2, tE2, wt2)) → wp (RLp N W n T f fp m x 0 bp bs s e o w v fi ib mn se so sE sF tE wt) Q
theorem rl_end [Inhabited Frm] {n : Nat} {T : Nat → Int} {e : Int} {V : List St} (hn : n ≤ 600) : RLok T n n e V V := by
  intro N W x m f fp bp bs s o w v fi ib mn se so sE sF tE wt Q hN hW hx hxq hm hv hr hmn hQ
  obtain ⟨m2, rfl⟩ : ∃ m2, m = m2 + 1 := ⟨m - 1, by omega⟩
  show wp (iM_reads_b45_F N (W 17) (W 11) (W 19) (W 10) (W 8) (W 0) (W 15) (W 13) (W 5) (W 4) (W 16) (W 20) (W 9) (W 12) (W 3) (W 1) (W 2) (W 18) (W 14) T (W 6) (W 7) n f fp 0 (RK67 N W n T f fp) _ x 0 bp bs s e o w v fi ib mn se so sE sF tE wt) Q
  unfold iM_reads_b45_F
  rw [if_pos rfl, wp_bd2, w_lookM hN hn hx, wp_some, hxq, if_neg (Nat.lt_irrefl n), if_pos rfl]
  unfold RK67 iM_reads_b67
  rw [if_pos rfl, wp_some]
  exact hQ _ bp _ _ _ _ _ _ _ _ _ _ _ _ _ _ _ hv hr hmn (k24.r _) (k24.r _) (fun _ _ => rfl) (k24.r _) (k24.r _) (k24.r _) (k24.r _) (k24.r _)
theorem lk_c {T : Nat → Int} {n q : Nat} (h : q < n) (hT : ∀ k, 0 ≤ T k ∧ T k ≤ 255) : ¬ (if q < n then T q else -1) = -1 := by
  rw [if_pos h]
  have := hT q
  omega
theorem k67_bad {N n : Nat} {W : Nat → Nat → Int} {T : Nat → Int} {f fp a kd p bs s e o w : Int} {v fi ib mn se so sE sF tE wt : Nat → Int} {m : Nat} {Q : R_iM_reads → Prop} (hm : 0 < m) (hk : kd ≠ 0) (h : Q (0, a, kd, p, bs, s, n, e, kd, p, o, 0, w, v, fi, ib, mn, se, so, sE, sF, tE, wt)) : wp (RLp N W n T f fp m a kd p bs s e o w v fi ib mn se so sE sF tE wt) Q := by
  obtain ⟨m2, rfl⟩ : ∃ m2, m = m2 + 1 := ⟨m - 1, by omega⟩
  show wp (iM_reads_b45_F N (W 17) (W 11) (W 19) (W 10) (W 8) (W 0) (W 15) (W 13) (W 5) (W 4) (W 16) (W 20) (W 9) (W 12) (W 3) (W 1) (W 2) (W 18) (W 14) T (W 6) (W 7) n f fp 0 (RK67 N W n T f fp) _ a kd p bs s e o w v fi ib mn se so sE sF tE wt) Q
  unfold iM_reads_b45_F
  rw [if_neg hk]
  unfold RK67 iM_reads_b67
  rw [if_neg hk, wp_some]
  exact h
/-- one turn of the loop -/
theorem rl_turn {N n x q : Nat} {W : Nat → Nat → Int} {T : Nat → Int} {f fp bp bs s e o w : Int} {v fi ib mn se so sE sF tE wt : Nat → Int} {m : Nat} {Q : R_iM_reads → Prop} (hN : 5000 ≤ N) (hn : n ≤ 600) (hT : ∀ k, 0 ≤ T k ∧ T k ≤ 255) (hx : x ≤ n) (hxq : tSk T n x = q) (hq : q < n) (h : wp (RSt N W n T q bp bs s e o w v fi ib mn se so sE sF tE wt) (fun r => wp (RLp N W n T f fp m r.1 r.2.1 r.2.2.1 r.2.2.2.1 r.2.2.2.2.1 r.2.2.2.2.2.1 r.2.2.2.2.2.2.1 r.2.2.2.2.2.2.2.1 r.2.2.2.2.2.2.2.2.1 r.2.2.2.2.2.2.2.2.2.1 r.2.2.2.2.2.2.2.2.2.2.1 r.2.2.2.2.2.2.2.2.2.2.2.1 r.2.2.2.2.2.2.2.2.2.2.2.2.1 r.2.2.2.2.2.2.2.2.2.2.2.2.2.1 r.2.2.2.2.2.2.2.2.2.2.2.2.2.2.1 r.2.2.2.2.2.2.2.2.2.2.2.2.2.2.2.1 r.2.2.2.2.2.2.2.2.2.2.2.2.2.2.2.2.1 r.2.2.2.2.2.2.2.2.2.2.2.2.2.2.2.2.2) Q)) : wp (RLp N W n T f fp (m + 1) x 0 bp bs s e o w v fi ib mn se so sE sF tE wt) Q := by
  show wp (iM_reads_b45_F N (W 17) (W 11) (W 19) (W 10) (W 8) (W 0) (W 15) (W 13) (W 5) (W 4) (W 16) (W 20) (W 9) (W 12) (W 3) (W 1) (W 2) (W 18) (W 14) T (W 6) (W 7) n f fp 0 (RK67 N W n T f fp) (RLp N W n T f fp m) x 0 bp bs s e o w v fi ib mn se so sE sF tE wt) Q
  unfold iM_reads_b45_F
  rw [if_pos rfl, wp_bd2, w_lookM hN hn hx, wp_some, hxq, if_neg (lk_c hq hT), wp_bd18]
  exact h
theorem rl_full [Inhabited Frm] {n q : Nat} {T : Nat → Int} {e : Int} {V : List St} (hn : n ≤ 600) (hT : ∀ k, 0 ≤ T k ∧ T k ≤ 255) (hV : V.length = 24) (hq : q < n) (hl : (trl (cat V)).length ≤ q) : RLbad T n q e 4 q V := by
  intro N W x m f fp bp bs s o w v fi ib mn se so sE sF tE wt Q hN hW hx hxq hm hv hr hmn hQ
  obtain ⟨m2, rfl⟩ : ∃ m2, m = m2 + 1 := ⟨m - 1, by omega⟩
  obtain ⟨m3, rfl⟩ : ∃ m3, m2 = m3 + 1 := ⟨m2 - 1, by omega⟩
  have ll := trl_len (cat V)
  have hqq : tSk T n q = q := by rw [← hxq]; exact lR_id
  refine rl_turn hN hn hT hx hxq hq ?_
  unfold RSt iM_statement iM_fail
  rw [wp_bd2, w_lookM hN hn (by omega), wp_some, hqq, if_pos (by rw [hmn]; omega), wp_bd2, if_pos rfl, wp_some, wp_some]
  exact k67_bad (by omega) (show (4 : Int) ≠ 0 by decide) (hQ _ _ _ _ _ _ _ _ _ _ _ _ _ _ _ _ (cod_t hv (by omega)) (k24.r _) (k24.r _) (fun _ _ => rfl) (k24.r _) (k24.r _) (k24.r _) (k24.r _) (k24.r _))
theorem rl_bad [Inhabited Frm] {n q : Nat} {T : Nat → Int} {e k p : Int} {V : List St} (hn : n ≤ 600) (hT : ∀ k, 0 ≤ T k ∧ T k ≤ 255) (hV : V.length < 24) (hq : q < n) (hl : (trl (cat V)).length ≤ q) (h : RQbad T n q e k p) : RLbad T n q e k p V := by
  intro N W x m f fp bp bs s o w v fi ib mn se so sE sF tE wt Q hN hW hx hxq hm hv hr hmn hQ
  obtain ⟨m2, rfl⟩ : ∃ m2, m = m2 + 1 := ⟨m - 1, by omega⟩
  obtain ⟨m3, rfl⟩ : ∃ m3, m2 = m3 + 1 := ⟨m2 - 1, by omega⟩
  have ll := trl_len (cat V)
  have hqq : tSk T n q = q := by rw [← hxq]; exact lR_id
  refine rl_turn hN hn hT hx hxq hq ?_
  refine h N W q V.length bp bs s o w v fi ib mn se so sE sF tE wt (cat V) _ hN hW (by omega) hqq hmn hV hv (by omega) (fun hk a bs2 s2 e2 o2 w2 v2 fi2 ib2 mn2 se2 so2 sE2 sF2 tE2 wt2 a1 a2 a3 a4 a5 a6 a7 a8 a9 => ?_)
  exact k67_bad (by omega) hk (hQ _ _ _ _ _ _ _ _ _ _ _ _ _ _ _ _ a1 (a2.k hV) (a3.k hV) a4 (a5.k hV) (a6.k hV) (a7.k hV) (a8.k hV) (a9.k hV))
theorem rl_step [Inhabited Frm] {n q q2 x m N : Nat} {T : Nat → Int} {W : Nat → Nat → Int} {e e2 f fp bs s o w : Int} {bp : MOne} {v fi ib mn se so sE sF tE wt : Nat → Int} {V : List St} {st : St} {Q : R_iM_reads → Prop} (hn : n ≤ 600) (hT : ∀ k, 0 ≤ T k ∧ T k ≤ 255) (hV : V.length < 24) (hq : q < n) (hq2 : q < q2) (hl : (trl (cat V)).length ≤ q) (h : RQok T n q e q2 e2 st.kd st.bl st.f1 st.f2 st.l st.t) (hN : 5000 ≤ N) (hW : ∀ a, a < 21 → ∀ i, i < kS_len a → W a i = jch a i) (hx : x ≤ n) (hxq : tSk T n x = q) (hm : n - q < m) (hv : cod v s (cat V)) (hr : RStm 0 fi ib se so sE sF tE V) (hmn : mn 0 = V.length) (nx : ∀ (x2 m2 : Nat) (bp2 : MOne) (bs2 s2 : Int) (v2 fi2 ib2 mn2 se2 so2 sE2 sF2 tE2 wt2 : Nat → Int), x2 ≤ n → tSk T n x2 = q2 → n - q2 < m2 → cod v2 s2 (cat (V ++ [st])) → RStm 0 fi2 ib2 se2 so2 sE2 sF2 tE2 (V ++ [st]) → mn2 0 = (V ++ [st]).length → k24 fi fi2 → k24 ib ib2 → kpt mn mn2 0 → k24 se se2 → k24 so so2 → k24 sE sE2 → k24 sF sF2 → k24 tE tE2 → wp (RLp N W n T f fp m2 x2 0 bp2 bs2 s2 e2 0 0 v2 fi2 ib2 mn2 se2 so2 sE2 sF2 tE2 wt2) Q) : wp (RLp N W n T f fp m x 0 bp bs s e o w v fi ib mn se so sE sF tE wt) Q := by
  obtain ⟨m2, rfl⟩ : ∃ m2, m = m2 + 1 := ⟨m - 1, by omega⟩
  have ll := trl_len (cat V)
  have hqq : tSk T n q = q := by rw [← hxq]; exact lR_id
  have hs := cod_l hv
  refine rl_turn hN hn hT hx hxq hq ?_
  refine h N W q V.length bp bs s o w v fi ib mn se so sE sF tE wt (cat V) _ hN hW (by omega) hqq hmn hV hv (by omega) (fun x2 bp2 bs2 s2 v2 fi2 ib2 mn2 se2 so2 sE2 sF2 tE2 wt2 a1 a2 a3 a4 a5 a6 a7 a8 a9 b1 b2 => ?_)
  rw [hs] at a9 b1 b2
  exact nx x2 m2 bp2 bs2 s2 v2 fi2 ib2 mn2 se2 so2 sE2 sF2 tE2 wt2 a1 a2 (by omega) (by rw [cat_one]; exact a3) (hr.one a4 a5 a7 a8 a9 b1 b2) (by rw [List.length_append]; exact a6.1) (a4.k4 hV) (a5.k4 hV) a6.k (a7.k4 hV) (a8.k4 hV) (a9.k4 hV) (b1.k4 hV) (b2.k4 hV)
theorem kl_ok {N n q q2 : Nat} {T : Nat → Int} {e e2 : Int} {V V2 : List St} {w : St} (hN : 5000 ≤ N) (hV : V.length < 24) (hq : q < n) (hq2 : q < q2) (hl : (trl (cat V)).length ≤ q) (h : KSok N T n q e q2 e2 w.kd w.bl w.f1 w.f2 w.l w.t) (ih : KLok N T n q2 e2 (V ++ [w]) V2) : KLok N T n q e V V2 := by
  intro D m fa fp s v stm Q h1 h2 hm hQ
  refine kl_step hN hV hq hq2 hl h h1 h2 hm (fun D2 m2 s2 v2 stm2 x1 x2 x3 x4 x5 => ?_)
  refine ih D2 m2 fa fp s2 v2 stm2 Q x3 x4 x5 (fun D3 at2 s3 st3 v3 stm3 y1 y2 y3 y4 => hQ D3 at2 s3 st3 v3 stm3 (x1.tr y1) ?_ y3 y4)
  rw [List.length_append] at y2
  have y5 : D3.1 + (V.length + 1) = D2.1 + V2.length := y2
  omega
theorem kl_nok {N n q q2 : Nat} {T : Nat → Int} {e e2 k p : Int} {V : List St} {w : St} (hN : 5000 ≤ N) (hV : V.length < 24) (hq : q < n) (hq2 : q < q2) (hl : (trl (cat V)).length ≤ q) (h : KSok N T n q e q2 e2 w.kd w.bl w.f1 w.f2 w.l w.t) (ih : KLbad N T n q2 e2 k p (V ++ [w])) : KLbad N T n q e k p V := by
  intro D m fa fp s v stm Q h1 h2 hm hQ
  refine kl_step hN hV hq hq2 hl h h1 h2 hm (fun D2 m2 s2 v2 stm2 x1 x2 x3 x4 x5 => ?_)
  refine ih D2 m2 fa fp s2 v2 stm2 Q x3 x4 x5 (fun D3 a c kd op s3 st3 v3 stm3 y1 y2 => hQ D3 a c kd op s3 st3 v3 stm3 (x1.tr y1) ?_)
  rw [List.length_append] at y2
  have y5 : D3.1 + (V.length + 1) ≤ D2.1 + 24 := y2
  omega
theorem rl_ok [Inhabited Frm] {n q q2 : Nat} {T : Nat → Int} {e e2 : Int} {V V2 : List St} {st : St} (hn : n ≤ 600) (hT : ∀ k, 0 ≤ T k ∧ T k ≤ 255) (hV : V.length < 24) (hq : q < n) (hq2 : q < q2) (hl : (trl (cat V)).length ≤ q) (h : RQok T n q e q2 e2 st.kd st.bl st.f1 st.f2 st.l st.t) (ih : RLok T n q2 e2 (V ++ [st]) V2) : RLok T n q e V V2 := by
  intro N W x m f fp bp bs s o w v fi ib mn se so sE sF tE wt Q hN hW hx hxq hm hv hr hmn hQ
  refine rl_step hn hT hV hq hq2 hl h hN hW hx hxq hm hv hr hmn (fun x2 m2 bp2 bs2 s2 v2 fi2 ib2 mn2 se2 so2 sE2 sF2 tE2 wt2 c1 c2 c3 c4 c5 c6 a1 a2 a3 a4 a5 a6 a7 a8 => ?_)
  exact ih N W x2 m2 f fp bp2 bs2 s2 0 0 v2 fi2 ib2 mn2 se2 so2 sE2 sF2 tE2 wt2 Q hN hW c1 c2 c3 c4 c5 c6 (fun a bp3 bs3 s3 e3 o3 w3 v3 fi3 ib3 mn3 se3 so3 sE3 sF3 tE3 wt3 d1 d2 d3 b1 b2 b3 b4 b5 b6 b7 b8 => hQ a bp3 bs3 s3 e3 o3 w3 v3 fi3 ib3 mn3 se3 so3 sE3 sF3 tE3 wt3 d1 d2 d3 (a1.tr b1) (a2.tr b2) (fun k hk => (b3 k hk).trans (a3 k hk)) (a4.tr b4) (a5.tr b5) (a6.tr b6) (a7.tr b7) (a8.tr b8))
theorem rl_nok [Inhabited Frm] {n q q2 : Nat} {T : Nat → Int} {e e2 k p : Int} {V : List St} {st : St} (hn : n ≤ 600) (hT : ∀ k, 0 ≤ T k ∧ T k ≤ 255) (hV : V.length < 24) (hq : q < n) (hq2 : q < q2) (hl : (trl (cat V)).length ≤ q) (h : RQok T n q e q2 e2 st.kd st.bl st.f1 st.f2 st.l st.t) (ih : RLbad T n q2 e2 k p (V ++ [st])) : RLbad T n q e k p V := by
  intro N W x m f fp bp bs s o w v fi ib mn se so sE sF tE wt Q hN hW hx hxq hm hv hr hmn hQ
  refine rl_step hn hT hV hq hq2 hl h hN hW hx hxq hm hv hr hmn (fun x2 m2 bp2 bs2 s2 v2 fi2 ib2 mn2 se2 so2 sE2 sF2 tE2 wt2 c1 c2 c3 c4 c5 c6 a1 a2 a3 a4 a5 a6 a7 a8 => ?_)
  exact ih N W x2 m2 f fp bp2 bs2 s2 0 0 v2 fi2 ib2 mn2 se2 so2 sE2 sF2 tE2 wt2 Q hN hW c1 c2 c3 c4 c5 c6 (fun a bs3 s3 e3 o3 w3 v3 fi3 ib3 mn3 se3 so3 sE3 sF3 tE3 wt3 d1 b1 b2 b3 b4 b5 b6 b7 b8 => hQ a bs3 s3 e3 o3 w3 v3 fi3 ib3 mn3 se3 so3 sE3 sF3 tE3 wt3 d1 (a1.tr b1) (a2.tr b2) (fun k hk => (b3 k hk).trans (a3 k hk)) (a4.tr b4) (a5.tr b5) (a6.tr b6) (a7.tr b7) (a8.tr b8))
theorem reads_from [Inhabited Frm] {N n : Nat} {T : Nat → Int} (hN : 5000 ≤ N) (hn : n ≤ 600) (hT : ∀ k, 0 ≤ T k ∧ T k ≤ 255) : ∀ (d q : Nat) (e : Int) (V : List St), n - q ≤ d → q ≤ n → tSk T n q = q → e ≤ (q : Int) → V.length ≤ 24 → (trl (cat V)).length + V.length ≤ q → (∀ w, w ∈ V → wOk w) → (∃ V2, KLok N T n q e V V2 ∧ RLok T n q e V V2 ∧ V2.length ≤ 24 ∧ (trl (cat V2)).length + V2.length ≤ n ∧ ∀ w, w ∈ V2 → wOk w) ∨ ∃ k p, KLbad N T n q e k p V ∧ RLbad T n q e k p V := by
  intro d
  induction d with
  | zero =>
    intro q e V hd hq hqq he hV hl hw
    have : q = n := by omega
    subst this
    exact Or.inl ⟨V, kl_end hV, rl_end hn, hV, hl, hw⟩
  | succ d ih =>
    intro q e V hd hq hqq he hV hl hw
    by_cases hqn : q = n
    · subst hqn
      exact Or.inl ⟨V, kl_end hV, rl_end hn, hV, hl, hw⟩
    · by_cases hv : V.length = 24
      · exact Or.inr ⟨4, q, kl_full hv (by omega), rl_full hn hT hv (by omega) (by omega)⟩
      · rcases stat_both (N := N) (q := q) (e := e) hN hn hT hq hqq he with ⟨q2, e2, kd, bl, f1, f2, l, t, r1, r2, r3, r4, r5, r6⟩ | ⟨kd, p, r1, r2⟩
        · obtain ⟨p1, p2, p3, p4⟩ := r2
          have lc : (trl (cat (V ++ [((kd, bl, f1, f2, l, t) : St)]))).length = (trl (cat V)).length + (trl (l ++ t)).length := by
            rw [cat_one, trl_app, List.length_append]
            rfl
          have ln : (V ++ [((kd, bl, f1, f2, l, t) : St)]).length = V.length + 1 := by
            rw [List.length_append]
            rfl
          rcases ih q2 e2 (V ++ [(kd, bl, f1, f2, l, t)]) (by omega) p1 p2 p3 (by omega) (by omega) (fun w hx => by
            rcases List.mem_append.mp hx with g | g
            · exact hw w g
            · rw [List.mem_singleton.mp g]
              exact ⟨r4, r5⟩) with ⟨V2, s1, s2, s3, s4, s5⟩ | ⟨k, p, s1, s2⟩
          · exact Or.inl ⟨V2, kl_ok (w := (kd, bl, f1, f2, l, t)) hN (by omega) (by omega) (by omega) (by omega) r1 s1, rl_ok (st := (kd, bl, f1, f2, l, t)) hn hT (by omega) (by omega) (by omega) (by omega) r6 s2, s3, s4, s5⟩
          · exact Or.inr ⟨k, p, kl_nok (w := (kd, bl, f1, f2, l, t)) hN (by omega) (by omega) (by omega) (by omega) r1 s1, rl_nok (st := (kd, bl, f1, f2, l, t)) hn hT (by omega) (by omega) (by omega) (by omega) r6 s2⟩
        · exact Or.inr ⟨kd, p, kl_bad hN (by omega) (by omega) (by omega) r1, rl_bad hn hT (by omega) (by omega) (by omega) r2⟩
