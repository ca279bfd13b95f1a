set_option maxHeartbeats 400000
set_option maxRecDepth 100000
def sK_put (I : Nat → Nat → Int32) (J : Nat → Nat → Int64) (Rr : Nat → Nat → Option Nat) (D : zD) (r : Int32 × (Nat → Int32)) : zS := ((va_up I 2 (r.2)), J, Rr, D)
theorem k_K_put {a1 : Int32} {a2 : Int32} {I : Nat → Nat → Int32} {J : Nat → Nat → Int64} {Rr : Nat → Nat → Option Nat} {D : zD} {r2 : Int × (Nat → Int)} (h : iK_put (mI a1) (mI a2) (mA (I 2)) = some r2) : ∃ r : Int32 × (Nat → Int32), ((mP mI mA) : Int32 × (Nat → Int32) → Int × (Nat → Int)) r = r2 ∧ ∀ (l : Launch) (X : zX), zMi l yX11_put cX11_put 3 (some .boolean) ({ frames := 2, cells := 0, slots := 0, locals := 42 } : Room) X [.ref (X.1 + 0), .int a1, .int a2] (I, J, Rr, D) r.1 (sK_put I J Rr D r) := by
  obtain ⟨r, hr, hT⟩ := @t_pK_put a1 _ rfl a2 _ rfl (I 2) _ rfl r2 h
  obtain ⟨rr, y_v_counters_lying⟩ := r
  exact ⟨(rr, y_v_counters_lying), hT, fun l X => c_X11_put (I 2) rfl hr⟩
def sM_put (I : Nat → Nat → Int32) (J : Nat → Nat → Int64) (Rr : Nat → Nat → Option Nat) (D : zD) (r : Int32 × (Nat → Int32)) : zS := ((va_up I 130 (r.2)), J, Rr, D)
theorem k_M_put {a1 : Int32} {a2 : Int32} {I : Nat → Nat → Int32} {J : Nat → Nat → Int64} {Rr : Nat → Nat → Option Nat} {D : zD} {r2 : Int × (Nat → Int)} (h : iM_put (mI a1) (mI a2) (mA (I 130)) = some r2) : ∃ r : Int32 × (Nat → Int32), ((mP mI mA) : Int32 × (Nat → Int32) → Int × (Nat → Int)) r = r2 ∧ ∀ (l : Launch) (X : zX), zMi l yX12_put cX12_put 3 (some .boolean) ({ frames := 1, cells := 0, slots := 0, locals := 25 } : Room) X [.ref (X.1 + 128), .int a1, .int a2] (I, J, Rr, D) r.1 (sM_put I J Rr D r) := by
  obtain ⟨r, hr, hT⟩ := @t_pM_put a1 _ rfl a2 _ rfl (I 130) _ rfl r2 h
  obtain ⟨rr, y_v_lie⟩ := r
  exact ⟨(rr, y_v_lie), hT, fun l X => c_X12_put (I 130) rfl hr⟩
def sK_lies (I : Nat → Nat → Int32) (J : Nat → Nat → Int64) (Rr : Nat → Nat → Option Nat) (D : zD) (r : Int32) : zS := (I, J, Rr, D)
theorem k_K_lies {a1 : Int32} {I : Nat → Nat → Int32} {J : Nat → Nat → Int64} {Rr : Nat → Nat → Option Nat} {D : zD} {r2 : Int} (h : iK_lies (mI a1) (mA (I 2)) = some r2) : ∃ r : Int32, ((mI) : Int32 → Int) r = r2 ∧ ∀ (l : Launch) (X : zX), zMi l yX11_lies cX11_lies 2 (some .int) ({ frames := 2, cells := 0, slots := 0, locals := 41 } : Room) X [.ref (X.1 + 0), .int a1] (I, J, Rr, D) r (sK_lies I J Rr D r) := by
  obtain ⟨r, hr, hT⟩ := @t_pK_lies a1 _ rfl (I 2) _ rfl r2 h
  exact ⟨r, hT, fun l X => c_X11_lies (I 2) rfl hr⟩
def sM_lies (I : Nat → Nat → Int32) (J : Nat → Nat → Int64) (Rr : Nat → Nat → Option Nat) (D : zD) (r : Int32) : zS := (I, J, Rr, D)
theorem k_M_lies {a1 : Int32} {I : Nat → Nat → Int32} {J : Nat → Nat → Int64} {Rr : Nat → Nat → Option Nat} {D : zD} {r2 : Int} (h : iM_lies (mI a1) (mA (I 130)) = some r2) : ∃ r : Int32, ((mI) : Int32 → Int) r = r2 ∧ ∀ (l : Launch) (X : zX), zMi l yX12_lies cX12_lies 2 (some .int) ({ frames := 1, cells := 0, slots := 0, locals := 25 } : Room) X [.ref (X.1 + 128), .int a1] (I, J, Rr, D) r (sM_lies I J Rr D r) := by
  obtain ⟨r, hr, hT⟩ := @t_pM_lies a1 _ rfl (I 130) _ rfl r2 h
  exact ⟨r, hT, fun l X => c_X12_lies (I 130) rfl hr⟩
def sK_worth (I : Nat → Nat → Int32) (J : Nat → Nat → Int64) (Rr : Nat → Nat → Option Nat) (D : zD) (r : Int64) : zS := (I, J, Rr, D)
theorem k_K_worth {N : Nat} {I : Nat → Nat → Int32} {J : Nat → Nat → Int64} {Rr : Nat → Nat → Option Nat} {D : zD} {r2 : Int} (h : iK_worth N (mA (I 2)) = some r2) : ∃ r : Int64, ((mJ) : Int64 → Int) r = r2 ∧ ∀ (l : Launch) (X : zX), zMl l yX11_worth cX11_worth 1 (some .long) ({ frames := 1, cells := 0, slots := 0, locals := 23 } : Room) X [.ref (X.1 + 0)] (I, J, Rr, D) r (sK_worth I J Rr D r) := by
  obtain ⟨r, hr, hT⟩ := @t_pK_worth N _ rfl (I 2) _ rfl r2 h
  exact ⟨r, hT, fun l X => c_X11_worth (I 2) rfl hr⟩
def sM_worth (I : Nat → Nat → Int32) (J : Nat → Nat → Int64) (Rr : Nat → Nat → Option Nat) (D : zD) (r : Int64) : zS := (I, J, Rr, D)
theorem k_M_worth {N : Nat} {I : Nat → Nat → Int32} {J : Nat → Nat → Int64} {Rr : Nat → Nat → Option Nat} {D : zD} {r2 : Int} (h : iM_worth N (mA (I 130)) (mA (I 129)) = some r2) : ∃ r : Int64, ((mJ) : Int64 → Int) r = r2 ∧ ∀ (l : Launch) (X : zX), zMl l yX12_worth cX12_worth 4 (some .long) ({ frames := 1, cells := 0, slots := 0, locals := 24 } : Room) X [.ref (X.1 + 128)] (I, J, Rr, D) r (sM_worth I J Rr D r) := by
  obtain ⟨r, hr, hT⟩ := @t_pM_worth N _ rfl (I 130) _ rfl (I 129) _ rfl r2 h
  exact ⟨r, hT, fun l X => c_X12_worth (I 130) rfl (I 129) rfl hr⟩
def sK_plain (I : Nat → Nat → Int32) (J : Nat → Nat → Int64) (Rr : Nat → Nat → Option Nat) (D : zD) (r : Int32 × (Nat → Int32)) : zS := ((va_up I 4 (r.2)), J, Rr, D)
theorem k_K_plain {N : Nat} {a1 : Int32} {a2 : Int32} {I : Nat → Nat → Int32} {J : Nat → Nat → Int64} {Rr : Nat → Nat → Option Nat} {D : zD} {r2 : Int × (Nat → Int)} (h : iK_plain N (mI a1) (mI a2) (mA (I 4)) = some r2) : ∃ r : Int32 × (Nat → Int32), ((mP mI mA) : Int32 × (Nat → Int32) → Int × (Nat → Int)) r = r2 ∧ ∀ (l : Launch) (X : zX), zMi l yX11_plain cX11_plain 3 (some .int) ({ frames := 2, cells := 0, slots := 0, locals := 45 } : Room) X [.ref (X.1 + 0), .int a1, .int a2] (I, J, Rr, D) r.1 (sK_plain I J Rr D r) := by
  obtain ⟨r, hr, hT⟩ := @t_pK_plain N _ rfl a1 _ rfl a2 _ rfl (I 4) _ rfl r2 h
  obtain ⟨rr, y_v_counters_due⟩ := r
  exact ⟨(rr, y_v_counters_due), hT, fun l X => c_X11_plain (I 4) rfl hr⟩
def sM_plain (I : Nat → Nat → Int32) (J : Nat → Nat → Int64) (Rr : Nat → Nat → Option Nat) (D : zD) (r : Int32 × (Nat → Int32)) : zS := ((va_up I 132 (r.2)), J, Rr, D)
theorem k_M_plain {N : Nat} {a1 : Int32} {a2 : Int32} {I : Nat → Nat → Int32} {J : Nat → Nat → Int64} {Rr : Nat → Nat → Option Nat} {D : zD} {r2 : Int × (Nat → Int)} (h : iM_plain N (mI a1) (mI a2) (mA (I 132)) (mA (I 129)) = some r2) : ∃ r : Int32 × (Nat → Int32), ((mP mI mA) : Int32 × (Nat → Int32) → Int × (Nat → Int)) r = r2 ∧ ∀ (l : Launch) (X : zX), zMi l yX12_plain cX12_plain 3 (some .int) ({ frames := 2, cells := 0, slots := 0, locals := 48 } : Room) X [.ref (X.1 + 128), .int a1, .int a2] (I, J, Rr, D) r.1 (sM_plain I J Rr D r) := by
  obtain ⟨r, hr, hT⟩ := @t_pM_plain N _ rfl a1 _ rfl a2 _ rfl (I 132) _ rfl (I 129) _ rfl r2 h
  obtain ⟨rr, y_v_plain⟩ := r
  exact ⟨(rr, y_v_plain), hT, fun l X => c_X12_plain (I 129) rfl (I 132) rfl hr⟩
def sK_lay (I : Nat → Nat → Int32) (J : Nat → Nat → Int64) (Rr : Nat → Nat → Option Nat) (D : zD) (r : Int32 × (Nat → Int32) × (Nat → Int32) × (Nat → Int32)) : zS := ((va_up (va_up (va_up I 2 (r.2.2.1)) 3 (r.2.2.2)) 4 (r.2.1)), J, Rr, D)
theorem k_K_lay {N : Nat} {a1 : Int32} {I : Nat → Nat → Int32} {J : Nat → Nat → Int64} {Rr : Nat → Nat → Option Nat} {D : zD} {r2 : Int × (Nat → Int) × (Nat → Int) × (Nat → Int)} (h : iK_lay N (mI a1) (mA (I 4)) (mA (I 2)) (mA (I 3)) = some r2) : ∃ r : Int32 × (Nat → Int32) × (Nat → Int32) × (Nat → Int32), ((mP mI (mP mA (mP mA mA))) : Int32 × (Nat → Int32) × (Nat → Int32) × (Nat → Int32) → Int × (Nat → Int) × (Nat → Int) × (Nat → Int)) r = r2 ∧ ∀ (l : Launch) (X : zX), zMi l yX11_lay cX11_lay 2 (some .int) ({ frames := 2, cells := 0, slots := 0, locals := 94 } : Room) X [.ref (X.1 + 0), .int a1] (I, J, Rr, D) r.1 (sK_lay I J Rr D r) := by
  obtain ⟨r, hr, hT⟩ := @t_pK_lay N _ rfl a1 _ rfl (I 4) _ rfl (I 2) _ rfl (I 3) _ rfl r2 h
  obtain ⟨rr, y_v_counters_due, y_v_counters_lying, y_v_counters_trial⟩ := r
  exact ⟨(rr, y_v_counters_due, y_v_counters_lying, y_v_counters_trial), hT, fun l X => c_X11_lay (I 4) rfl (I 2) rfl (I 3) rfl hr⟩
def sM_lay (I : Nat → Nat → Int32) (J : Nat → Nat → Int64) (Rr : Nat → Nat → Option Nat) (D : zD) (r : Int32 × (Nat → Int32) × (Nat → Int32) × (Nat → Int32)) : zS := ((va_up (va_up (va_up I 130 (r.2.1)) 131 (r.2.2.2)) 132 (r.2.2.1)), J, Rr, D)
theorem k_M_lay {N : Nat} {a1 : Int32} {I : Nat → Nat → Int32} {J : Nat → Nat → Int64} {Rr : Nat → Nat → Option Nat} {D : zD} {r2 : Int × (Nat → Int) × (Nat → Int) × (Nat → Int)} (h : iM_lay N (mI a1) (mA (I 130)) (mA (I 132)) (mA (I 129)) (mA (I 131)) = some r2) : ∃ r : Int32 × (Nat → Int32) × (Nat → Int32) × (Nat → Int32), ((mP mI (mP mA (mP mA mA))) : Int32 × (Nat → Int32) × (Nat → Int32) × (Nat → Int32) → Int × (Nat → Int) × (Nat → Int) × (Nat → Int)) r = r2 ∧ ∀ (l : Launch) (X : zX), zMi l yX12_lay cX12_lay 4 (some .int) ({ frames := 2, cells := 0, slots := 0, locals := 48 } : Room) X [.ref (X.1 + 128), .int a1] (I, J, Rr, D) r.1 (sM_lay I J Rr D r) := by
  obtain ⟨r, hr, hT⟩ := @t_pM_lay N _ rfl a1 _ rfl (I 130) _ rfl (I 132) _ rfl (I 129) _ rfl (I 131) _ rfl r2 h
  obtain ⟨rr, y_v_lie, y_v_plain, y_v_work⟩ := r
  exact ⟨(rr, y_v_lie, y_v_plain, y_v_work), hT, fun l X => c_X12_lay (I 129) rfl (I 130) rfl (I 132) rfl (I 131) rfl hr⟩
def sK_draw (I : Nat → Nat → Int32) (J : Nat → Nat → Int64) (Rr : Nat → Nat → Option Nat) (D : zD) (r : Int32 × (Nat → Int32) × (Nat → Int32) × (Nat → Int32)) : zS := ((va_up (va_up (va_up I 2 (r.2.2.1)) 3 (r.2.2.2)) 4 (r.2.1)), J, Rr, D)
theorem k_K_draw {N : Nat} {a1 : Int32} {I : Nat → Nat → Int32} {J : Nat → Nat → Int64} {Rr : Nat → Nat → Option Nat} {D : zD} {r2 : Int × (Nat → Int) × (Nat → Int) × (Nat → Int)} (h : iK_draw N (mI a1) (mA (I 4)) (mA (I 2)) (mA (I 3)) = some r2) : ∃ r : Int32 × (Nat → Int32) × (Nat → Int32) × (Nat → Int32), ((mP mI (mP mA (mP mA mA))) : Int32 × (Nat → Int32) × (Nat → Int32) × (Nat → Int32) → Int × (Nat → Int) × (Nat → Int) × (Nat → Int)) r = r2 ∧ ∀ (l : Launch) (X : zX), zMi l yX11_draw cX11_draw 2 (some .int) ({ frames := 2, cells := 0, slots := 0, locals := 96 } : Room) X [.ref (X.1 + 0), .int a1] (I, J, Rr, D) r.1 (sK_draw I J Rr D r) := by
  obtain ⟨r, hr, hT⟩ := @t_pK_draw N _ rfl a1 _ rfl (I 4) _ rfl (I 2) _ rfl (I 3) _ rfl r2 h
  obtain ⟨rr, y_v_counters_due, y_v_counters_lying, y_v_counters_trial⟩ := r
  exact ⟨(rr, y_v_counters_due, y_v_counters_lying, y_v_counters_trial), hT, fun l X => c_X11_draw (I 4) rfl (I 2) rfl (I 3) rfl hr⟩
def sM_draw (I : Nat → Nat → Int32) (J : Nat → Nat → Int64) (Rr : Nat → Nat → Option Nat) (D : zD) (r : Int32 × (Nat → Int32) × (Nat → Int32) × (Nat → Int32)) : zS := ((va_up (va_up (va_up I 130 (r.2.1)) 131 (r.2.2.2)) 132 (r.2.2.1)), J, Rr, D)
theorem k_M_draw {N : Nat} {a1 : Int32} {I : Nat → Nat → Int32} {J : Nat → Nat → Int64} {Rr : Nat → Nat → Option Nat} {D : zD} {r2 : Int × (Nat → Int) × (Nat → Int) × (Nat → Int)} (h : iM_draw N (mI a1) (mA (I 130)) (mA (I 132)) (mA (I 129)) (mA (I 131)) = some r2) : ∃ r : Int32 × (Nat → Int32) × (Nat → Int32) × (Nat → Int32), ((mP mI (mP mA (mP mA mA))) : Int32 × (Nat → Int32) × (Nat → Int32) × (Nat → Int32) → Int × (Nat → Int) × (Nat → Int) × (Nat → Int)) r = r2 ∧ ∀ (l : Launch) (X : zX), zMi l yX12_draw cX12_draw 6 (some .int) ({ frames := 2, cells := 0, slots := 0, locals := 48 } : Room) X [.ref (X.1 + 128), .int a1] (I, J, Rr, D) r.1 (sM_draw I J Rr D r) := by
  obtain ⟨r, hr, hT⟩ := @t_pM_draw N _ rfl a1 _ rfl (I 130) _ rfl (I 132) _ rfl (I 129) _ rfl (I 131) _ rfl r2 h
  obtain ⟨rr, y_v_lie, y_v_plain, y_v_work⟩ := r
  exact ⟨(rr, y_v_lie, y_v_plain, y_v_work), hT, fun l X => c_X12_draw (I 129) rfl (I 130) rfl (I 132) rfl (I 131) rfl hr⟩
def sK_steps (I : Nat → Nat → Int32) (J : Nat → Nat → Int64) (Rr : Nat → Nat → Option Nat) (D : zD) (r : Int32 × (Nat → Int32)) : zS := ((va_up I 4 (r.2)), J, Rr, D)
theorem k_K_steps {N : Nat} {a1 : Int32} {I : Nat → Nat → Int32} {J : Nat → Nat → Int64} {Rr : Nat → Nat → Option Nat} {D : zD} {r2 : Int × (Nat → Int)} (h : iK_steps N (mI a1) (mA (I 4)) (mA (I 2)) = some r2) : ∃ r : Int32 × (Nat → Int32), ((mP mI mA) : Int32 × (Nat → Int32) → Int × (Nat → Int)) r = r2 ∧ ∀ (l : Launch) (X : zX), zMi l yX11_steps cX11_steps 2 (some .int) ({ frames := 3, cells := 0, slots := 0, locals := 84 } : Room) X [.ref (X.1 + 0), .int a1] (I, J, Rr, D) r.1 (sK_steps I J Rr D r) := by
  obtain ⟨r, hr, hT⟩ := @t_pK_steps N _ rfl a1 _ rfl (I 4) _ rfl (I 2) _ rfl r2 h
  obtain ⟨rr, y_v_counters_due⟩ := r
  exact ⟨(rr, y_v_counters_due), hT, fun l X => c_X11_steps (I 2) rfl (I 4) rfl hr⟩
def sM_steps (I : Nat → Nat → Int32) (J : Nat → Nat → Int64) (Rr : Nat → Nat → Option Nat) (D : zD) (r : Int32 × (Nat → Int32) × (Nat → Int32) × (Nat → Int32)) : zS := ((va_up (va_up (va_up I 132 (r.2.2.2)) 133 (r.2.1)) 134 (r.2.2.1)), J, Rr, D)
theorem k_M_steps {N : Nat} {a1 : Int32} {I : Nat → Nat → Int32} {J : Nat → Nat → Int64} {Rr : Nat → Nat → Option Nat} {D : zD} {r2 : Int × (Nat → Int) × (Nat → Int) × (Nat → Int)} (h : iM_steps N (mI a1) (mA (I 133)) (mA (I 130)) (mA (I 134)) (mA (I 132)) (mA (I 129)) = some r2) : ∃ r : Int32 × (Nat → Int32) × (Nat → Int32) × (Nat → Int32), ((mP mI (mP mA (mP mA mA))) : Int32 × (Nat → Int32) × (Nat → Int32) × (Nat → Int32) → Int × (Nat → Int) × (Nat → Int) × (Nat → Int)) r = r2 ∧ ∀ (l : Launch) (X : zX), zMi l yX12_steps cX12_steps 7 (some .int) ({ frames := 2, cells := 0, slots := 0, locals := 48 } : Room) X [.ref (X.1 + 128), .int a1] (I, J, Rr, D) r.1 (sM_steps I J Rr D r) := by
  obtain ⟨r, hr, hT⟩ := @t_pM_steps N _ rfl a1 _ rfl (I 133) _ rfl (I 130) _ rfl (I 134) _ rfl (I 132) _ rfl (I 129) _ rfl r2 h
  obtain ⟨rr, y_v_fewest, y_v_next, y_v_plain⟩ := r
  exact ⟨(rr, y_v_fewest, y_v_next, y_v_plain), hT, fun l X => c_X12_steps (I 130) rfl (I 129) rfl (I 133) rfl (I 134) rfl (I 132) rfl hr⟩
def sK_feed (I : Nat → Nat → Int32) (J : Nat → Nat → Int64) (Rr : Nat → Nat → Option Nat) (D : zD) (r : Int32 × Int32 × (Nat → Int32)) : zS := ((va_up (va_up I 33 (va_up (I 33) 3 (r.2.1))) 34 (r.2.2)), J, Rr, D)
theorem k_K_feed {N : Nat} {a1 : Int32} {a2 : Int32} {a3 : Int32} {a4 : Int32} {a5 : Int32} {I : Nat → Nat → Int32} {J : Nat → Nat → Int64} {Rr : Nat → Nat → Option Nat} {D : zD} {r2 : Int × Int × (Nat → Int)} (h : iK_feed N (mI a1) (mI a2) (mI a3) (mI a4) (mI a5) (mI (I 33 3)) (mA (I 34)) = some r2) : ∃ r : Int32 × Int32 × (Nat → Int32), ((mP mI (mP mI mA)) : Int32 × Int32 × (Nat → Int32) → Int × Int × (Nat → Int)) r = r2 ∧ ∀ (l : Launch) (X : zX), zMi l yX11_feed cX11_feed 6 (some .int) ({ frames := 1, cells := 0, slots := 0, locals := 22 } : Room) X [.ref (X.1 + 0), .int a1, .int a2, .int a3, .int a4, .int a5] (I, J, Rr, D) r.1 (sK_feed I J Rr D r) := by
  obtain ⟨r, hr, hT⟩ := @t_pK_feed N _ rfl a1 _ rfl a2 _ rfl a3 _ rfl a4 _ rfl a5 _ rfl (I 33 3) _ rfl (I 34) _ rfl r2 h
  obtain ⟨rr, y_v_reader_length, y_v_reader_tape⟩ := r
  exact ⟨(rr, y_v_reader_length, y_v_reader_tape), hT, fun l X => c_X11_feed (I 33) rfl (I 33 3) rfl (I 34) rfl hr⟩
def sM_feed (I : Nat → Nat → Int32) (J : Nat → Nat → Int64) (Rr : Nat → Nat → Option Nat) (D : zD) (r : Int32 × Int32 × (Nat → Int32)) : zS := ((va_up (va_up I 128 (va_up (I 128) 18 (r.2.1))) 143 (r.2.2)), J, Rr, D)
theorem k_M_feed {N : Nat} {a1 : Int32} {a2 : Int32} {a3 : Int32} {a4 : Int32} {a5 : Int32} {I : Nat → Nat → Int32} {J : Nat → Nat → Int64} {Rr : Nat → Nat → Option Nat} {D : zD} {r2 : Int × Int × (Nat → Int)} (h : iM_feed N (mI a1) (mI a2) (mI a3) (mI a4) (mI a5) (mI (I 128 18)) (mA (I 143)) = some r2) : ∃ r : Int32 × Int32 × (Nat → Int32), ((mP mI (mP mI mA)) : Int32 × Int32 × (Nat → Int32) → Int × Int × (Nat → Int)) r = r2 ∧ ∀ (l : Launch) (X : zX), zMi l yX12_feed cX12_feed 8 (some .int) ({ frames := 0, cells := 0, slots := 0, locals := 0 } : Room) X [.ref (X.1 + 128), .int a1, .int a2, .int a3, .int a4, .int a5] (I, J, Rr, D) r.1 (sM_feed I J Rr D r) := by
  obtain ⟨r, hr, hT⟩ := @t_pM_feed N _ rfl a1 _ rfl a2 _ rfl a3 _ rfl a4 _ rfl a5 _ rfl (I 128 18) _ rfl (I 143) _ rfl r2 h
  obtain ⟨rr, y_v_taped, y_v_tape⟩ := r
  exact ⟨(rr, y_v_taped, y_v_tape), hT, fun l X => c_X12_feed (I 128) rfl (I 128 18) rfl (I 143) rfl hr⟩
def sK_end (I : Nat → Nat → Int32) (J : Nat → Nat → Int64) (Rr : Nat → Nat → Option Nat) (D : zD) (r : Int32 × Int32) : zS := ((va_up I 33 (va_up (I 33) 3 (r.2))), J, Rr, D)
theorem k_K_end {a1 : Int32} {I : Nat → Nat → Int32} {J : Nat → Nat → Int64} {Rr : Nat → Nat → Option Nat} {D : zD} {r2 : Int × Int} (h : iK_end (mI a1) (mI (I 33 3)) = some r2) : ∃ r : Int32 × Int32, ((mP mI mI) : Int32 × Int32 → Int × Int) r = r2 ∧ ∀ (l : Launch) (X : zX), zMi l yX11_end cX11_end 2 (some .boolean) ({ frames := 1, cells := 0, slots := 0, locals := 21 } : Room) X [.ref (X.1 + 0), .int a1] (I, J, Rr, D) r.1 (sK_end I J Rr D r) := by
  obtain ⟨r, hr, hT⟩ := @t_pK_end a1 _ rfl (I 33 3) _ rfl r2 h
  obtain ⟨rr, y_v_reader_length⟩ := r
  exact ⟨(rr, y_v_reader_length), hT, fun l X => c_X11_end (I 33) rfl (I 33 3) rfl hr⟩
def sM_end (I : Nat → Nat → Int32) (J : Nat → Nat → Int64) (Rr : Nat → Nat → Option Nat) (D : zD) (r : Int32 × Int32) : zS := ((va_up I 128 (va_up (I 128) 18 (r.2))), J, Rr, D)
theorem k_M_end {a1 : Int32} {I : Nat → Nat → Int32} {J : Nat → Nat → Int64} {Rr : Nat → Nat → Option Nat} {D : zD} {r2 : Int × Int} (h : iM_end (mI a1) (mI (I 128 18)) = some r2) : ∃ r : Int32 × Int32, ((mP mI mI) : Int32 × Int32 → Int × Int) r = r2 ∧ ∀ (l : Launch) (X : zX), zMi l yX12_end cX12_end 2 (some .boolean) ({ frames := 0, cells := 0, slots := 0, locals := 0 } : Room) X [.ref (X.1 + 128), .int a1] (I, J, Rr, D) r.1 (sM_end I J Rr D r) := by
  obtain ⟨r, hr, hT⟩ := @t_pM_end a1 _ rfl (I 128 18) _ rfl r2 h
  obtain ⟨rr, y_v_taped⟩ := r
  exact ⟨(rr, y_v_taped), hT, fun l X => c_X12_end (I 128) rfl (I 128 18) rfl hr⟩
def sK_fault (I : Nat → Nat → Int32) (J : Nat → Nat → Int64) (Rr : Nat → Nat → Option Nat) (D : zD) (r : Int32) : zS := (I, J, Rr, D)
theorem k_K_fault {a1 : Int32} {I : Nat → Nat → Int32} {J : Nat → Nat → Int64} {Rr : Nat → Nat → Option Nat} {D : zD} {r2 : Int} (h : iK_fault (mI a1) (mI (I 33 10)) (mI (I 33 11)) = some r2) : ∃ r : Int32, ((mI) : Int32 → Int) r = r2 ∧ ∀ (l : Launch) (X : zX), zMi l yX11_fault cX11_fault 2 (some .int) ({ frames := 1, cells := 0, slots := 0, locals := 20 } : Room) X [.ref (X.1 + 0), .int a1] (I, J, Rr, D) r (sK_fault I J Rr D r) := by
  obtain ⟨r, hr, hT⟩ := @t_pK_fault a1 _ rfl (I 33 10) _ rfl (I 33 11) _ rfl r2 h
  exact ⟨r, hT, fun l X => c_X11_fault (I 33 10) rfl (I 33 11) rfl hr⟩
def sM_fault (I : Nat → Nat → Int32) (J : Nat → Nat → Int64) (Rr : Nat → Nat → Option Nat) (D : zD) (r : Int32) : zS := (I, J, Rr, D)
theorem k_M_fault {a1 : Int32} {I : Nat → Nat → Int32} {J : Nat → Nat → Int64} {Rr : Nat → Nat → Option Nat} {D : zD} {r2 : Int} (h : iM_fault (mI a1) (mI (I 128 24)) (mI (I 128 25)) = some r2) : ∃ r : Int32, ((mI) : Int32 → Int) r = r2 ∧ ∀ (l : Launch) (X : zX), zMi l yX12_fault cX12_fault 2 (some .int) ({ frames := 0, cells := 0, slots := 0, locals := 0 } : Room) X [.ref (X.1 + 128), .int a1] (I, J, Rr, D) r (sM_fault I J Rr D r) := by
  obtain ⟨r, hr, hT⟩ := @t_pM_fault a1 _ rfl (I 128 24) _ rfl (I 128 25) _ rfl r2 h
  exact ⟨r, hT, fun l X => c_X12_fault (I 128 24) rfl (I 128 25) rfl hr⟩
def sK_as (I : Nat → Nat → Int32) (J : Nat → Nat → Int64) (Rr : Nat → Nat → Option Nat) (D : zD) (r : Int32 × Int32) : zS := ((va_up I 0 (va_up (I 0) 5 (r.2))), J, Rr, D)
theorem k_K_as {a1 : Int32} {I : Nat → Nat → Int32} {J : Nat → Nat → Int64} {Rr : Nat → Nat → Option Nat} {D : zD} {r2 : Int × Int} (h : iK_as (mI a1) (mI (I 0 5)) (mI (I 37 6)) = some r2) : ∃ r : Int32 × Int32, ((mP mI mI) : Int32 × Int32 → Int × Int) r = r2 ∧ ∀ (l : Launch) (X : zX), zMi l yX11_as cX11_as 2 (some .boolean) ({ frames := 1, cells := 0, slots := 0, locals := 20 } : Room) X [.ref (X.1 + 0), .int a1] (I, J, Rr, D) r.1 (sK_as I J Rr D r) := by
  obtain ⟨r, hr, hT⟩ := @t_pK_as a1 _ rfl (I 0 5) _ rfl (I 37 6) _ rfl r2 h
  obtain ⟨rr, y_v_knownAt⟩ := r
  exact ⟨(rr, y_v_knownAt), hT, fun l X => c_X11_as (I 0) rfl (I 37 6) rfl (I 0 5) rfl hr⟩
def sM_as (I : Nat → Nat → Int32) (J : Nat → Nat → Int64) (Rr : Nat → Nat → Option Nat) (D : zD) (r : Int32 × Int32) : zS := ((va_up I 128 (va_up (I 128) 73 (r.2))), J, Rr, D)
theorem k_M_as {a1 : Int32} {I : Nat → Nat → Int32} {J : Nat → Nat → Int64} {Rr : Nat → Nat → Option Nat} {D : zD} {r2 : Int × Int} (h : iM_as (mI a1) (mI (I 128 67)) (mI (I 128 73)) = some r2) : ∃ r : Int32 × Int32, ((mP mI mI) : Int32 × Int32 → Int × Int) r = r2 ∧ ∀ (l : Launch) (X : zX), zMi l yX12_as cX12_as 2 (some .boolean) ({ frames := 1, cells := 0, slots := 0, locals := 25 } : Room) X [.ref (X.1 + 128), .int a1] (I, J, Rr, D) r.1 (sM_as I J Rr D r) := by
  obtain ⟨r, hr, hT⟩ := @t_pM_as a1 _ rfl (I 128 67) _ rfl (I 128 73) _ rfl r2 h
  obtain ⟨rr, y_v_as⟩ := r
  exact ⟨(rr, y_v_as), hT, fun l X => c_X12_as (I 128) rfl (I 128 67) rfl (I 128 73) rfl hr⟩
def sK_moved (I : Nat → Nat → Int32) (J : Nat → Nat → Int64) (Rr : Nat → Nat → Option Nat) (D : zD) (r : Int32) : zS := (I, J, Rr, D)
theorem k_K_moved {I : Nat → Nat → Int32} {J : Nat → Nat → Int64} {Rr : Nat → Nat → Option Nat} {D : zD} {r2 : Int} (h : iK_moved (mI (I 44 9)) = some r2) : ∃ r : Int32, ((mI) : Int32 → Int) r = r2 ∧ ∀ (l : Launch) (X : zX), zMi l yX11_moved cX11_moved 1 (some .int) ({ frames := 1, cells := 0, slots := 0, locals := 20 } : Room) X [.ref (X.1 + 0)] (I, J, Rr, D) r (sK_moved I J Rr D r) := by
  obtain ⟨r, hr, hT⟩ := @t_pK_moved (I 44 9) _ rfl r2 h
  exact ⟨r, hT, fun l X => c_X11_moved (I 44 9) rfl hr⟩
def sM_moved (I : Nat → Nat → Int32) (J : Nat → Nat → Int64) (Rr : Nat → Nat → Option Nat) (D : zD) (r : Int32) : zS := (I, J, Rr, D)
theorem k_M_moved {I : Nat → Nat → Int32} {J : Nat → Nat → Int64} {Rr : Nat → Nat → Option Nat} {D : zD} {r2 : Int} (h : iM_moved (mI (I 128 84)) = some r2) : ∃ r : Int32, ((mI) : Int32 → Int) r = r2 ∧ ∀ (l : Launch) (X : zX), zMi l yX12_moved cX12_moved 1 (some .int) ({ frames := 0, cells := 0, slots := 0, locals := 0 } : Room) X [.ref (X.1 + 128)] (I, J, Rr, D) r (sM_moved I J Rr D r) := by
  obtain ⟨r, hr, hT⟩ := @t_pM_moved (I 128 84) _ rfl r2 h
  exact ⟨r, hT, fun l X => c_X12_moved (I 128 84) rfl hr⟩
def sK_all (I : Nat → Nat → Int32) (J : Nat → Nat → Int64) (Rr : Nat → Nat → Option Nat) (D : zD) (r : Int32) : zS := (I, J, Rr, D)
theorem k_K_all {N : Nat} {a1 : Int32} {I : Nat → Nat → Int32} {J : Nat → Nat → Int64} {Rr : Nat → Nat → Option Nat} {D : zD} {r2 : Int} (h : iK_all N (mI a1) (mI (I 0 5)) (mI (I 37 6)) (mA (I 8)) = some r2) : ∃ r : Int32, ((mI) : Int32 → Int) r = r2 ∧ ∀ (l : Launch) (X : zX), zMi l yX11_all cX11_all 2 (some .int) ({ frames := 3, cells := 0, slots := 0, locals := 64 } : Room) X [.ref (X.1 + 0), .int a1] (I, J, Rr, D) r (sK_all I J Rr D r) := by
  obtain ⟨r, hr, hT⟩ := @t_pK_all N _ rfl a1 _ rfl (I 0 5) _ rfl (I 37 6) _ rfl (I 8) _ rfl r2 h
  exact ⟨r, hT, fun l X => c_X11_all (I 0 5) rfl (I 37 6) rfl (I 8) rfl hr⟩
def sM_all (I : Nat → Nat → Int32) (J : Nat → Nat → Int64) (Rr : Nat → Nat → Option Nat) (D : zD) (r : Int32) : zS := (I, J, Rr, D)
theorem k_M_all {N : Nat} {a1 : Int32} {I : Nat → Nat → Int32} {J : Nat → Nat → Int64} {Rr : Nat → Nat → Option Nat} {D : zD} {r2 : Int} (h : iM_all N (mI a1) (mI (I 128 67)) (mI (I 128 73)) (mA (I 135)) = some r2) : ∃ r : Int32, ((mI) : Int32 → Int) r = r2 ∧ ∀ (l : Launch) (X : zX), zMi l yX12_all cX12_all 4 (some .int) ({ frames := 1, cells := 0, slots := 0, locals := 21 } : Room) X [.ref (X.1 + 128), .int a1] (I, J, Rr, D) r (sM_all I J Rr D r) := by
  obtain ⟨r, hr, hT⟩ := @t_pM_all N _ rfl a1 _ rfl (I 128 67) _ rfl (I 128 73) _ rfl (I 135) _ rfl r2 h
  exact ⟨r, hT, fun l X => c_X12_all (I 128 67) rfl (I 128 73) rfl (I 135) rfl hr⟩
