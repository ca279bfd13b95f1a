set_option maxHeartbeats 4000000
set_option maxRecDepth 100000
-- ChequeredClothModel.tells
theorem dX12_tells_0 : decode cX12_tells 0 = .ok (.aload_n 0, 1) := by decide +kernel
theorem dX12_tells_1 : decode cX12_tells 1 = .ok (.iconst 0, 1) := by decide +kernel
theorem dX12_tells_2 : decode cX12_tells 2 = .ok (.putfield 394, 3) := by decide +kernel
theorem dX12_tells_5 : decode cX12_tells 5 = .ok (.iload_n 2, 1) := by decide +kernel
theorem dX12_tells_6 : decode cX12_tells 6 = .ok (.istore 4, 2) := by decide +kernel
theorem dX12_tells_8 : decode cX12_tells 8 = .ok (.iload 4, 2) := by decide +kernel
theorem dX12_tells_10 : decode cX12_tells 10 = .ok (.iload_n 3, 1) := by decide +kernel
theorem dX12_tells_11 : decode cX12_tells 11 = .ok (.if_icmp .ge 214, 3) := by decide +kernel
theorem dX12_tells_14 : decode cX12_tells 14 = .ok (.aload_n 0, 1) := by decide +kernel
theorem dX12_tells_15 : decode cX12_tells 15 = .ok (.getfield 159, 3) := by decide +kernel
theorem dX12_tells_18 : decode cX12_tells 18 = .ok (.sipush 640, 3) := by decide +kernel
theorem dX12_tells_21 : decode cX12_tells 21 = .ok (.iload_n 1, 1) := by decide +kernel
theorem dX12_tells_22 : decode cX12_tells 22 = .ok (.imul, 1) := by decide +kernel
theorem dX12_tells_23 : decode cX12_tells 23 = .ok (.iload 4, 2) := by decide +kernel
theorem dX12_tells_25 : decode cX12_tells 25 = .ok (.iadd, 1) := by decide +kernel
theorem dX12_tells_26 : decode cX12_tells 26 = .ok (.iaload, 1) := by decide +kernel
theorem dX12_tells_27 : decode cX12_tells 27 = .ok (.istore 5, 2) := by decide +kernel
theorem dX12_tells_29 : decode cX12_tells 29 = .ok (.iload 5, 2) := by decide +kernel
theorem dX12_tells_31 : decode cX12_tells 31 = .ok (.sipush 1000, 3) := by decide +kernel
theorem dX12_tells_34 : decode cX12_tells 34 = .ok (.if_icmp .lt 17, 3) := by decide +kernel
theorem dX12_tells_37 : decode cX12_tells 37 = .ok (.aload_n 0, 1) := by decide +kernel
theorem dX12_tells_38 : decode cX12_tells 38 = .ok (.iload 5, 2) := by decide +kernel
theorem dX12_tells_40 : decode cX12_tells 40 = .ok (.sipush 1000, 3) := by decide +kernel
theorem dX12_tells_43 : decode cX12_tells 43 = .ok (.isub, 1) := by decide +kernel
theorem dX12_tells_44 : decode cX12_tells 44 = .ok (.i2l, 1) := by decide +kernel
theorem dX12_tells_45 : decode cX12_tells 45 = .ok (.invokevirtual 401, 3) := by decide +kernel
theorem dX12_tells_48 : decode cX12_tells 48 = .ok (.goto 171, 3) := by decide +kernel
theorem dX12_tells_51 : decode cX12_tells 51 = .ok (.iload 5, 2) := by decide +kernel
theorem dX12_tells_53 : decode cX12_tells 53 = .ok (.bipush 100, 2) := by decide +kernel
theorem dX12_tells_55 : decode cX12_tells 55 = .ok (.if_icmp .lt 27, 3) := by decide +kernel
theorem dX12_tells_58 : decode cX12_tells 58 = .ok (.aload_n 0, 1) := by decide +kernel
theorem dX12_tells_59 : decode cX12_tells 59 = .ok (.iload 5, 2) := by decide +kernel
theorem dX12_tells_61 : decode cX12_tells 61 = .ok (.bipush 100, 2) := by decide +kernel
theorem dX12_tells_63 : decode cX12_tells 63 = .ok (.isub, 1) := by decide +kernel
theorem dX12_tells_64 : decode cX12_tells 64 = .ok (.aload_n 0, 1) := by decide +kernel
theorem dX12_tells_65 : decode cX12_tells 65 = .ok (.getfield 409, 3) := by decide +kernel
theorem dX12_tells_68 : decode cX12_tells 68 = .ok (.if_icmp .ne 7, 3) := by decide +kernel
theorem dX12_tells_71 : decode cX12_tells 71 = .ok (.lconst 1, 1) := by decide +kernel
theorem dX12_tells_72 : decode cX12_tells 72 = .ok (.goto 4, 3) := by decide +kernel
theorem dX12_tells_75 : decode cX12_tells 75 = .ok (.lconst 0, 1) := by decide +kernel
theorem dX12_tells_76 : decode cX12_tells 76 = .ok (.invokevirtual 401, 3) := by decide +kernel
theorem dX12_tells_79 : decode cX12_tells 79 = .ok (.goto 140, 3) := by decide +kernel
theorem dX12_tells_82 : decode cX12_tells 82 = .ok (.iload 5, 2) := by decide +kernel
theorem dX12_tells_84 : decode cX12_tells 84 = .ok (.bipush 7, 2) := by decide +kernel
theorem dX12_tells_86 : decode cX12_tells 86 = .ok (.if_icmp .ne 15, 3) := by decide +kernel
theorem dX12_tells_89 : decode cX12_tells 89 = .ok (.aload_n 0, 1) := by decide +kernel
theorem dX12_tells_90 : decode cX12_tells 90 = .ok (.aload_n 0, 1) := by decide +kernel
theorem dX12_tells_91 : decode cX12_tells 91 = .ok (.getfield 412, 3) := by decide +kernel
theorem dX12_tells_94 : decode cX12_tells 94 = .ok (.i2l, 1) := by decide +kernel
theorem dX12_tells_95 : decode cX12_tells 95 = .ok (.invokevirtual 401, 3) := by decide +kernel
theorem dX12_tells_98 : decode cX12_tells 98 = .ok (.goto 121, 3) := by decide +kernel
theorem dX12_tells_101 : decode cX12_tells 101 = .ok (.iload 5, 2) := by decide +kernel
theorem dX12_tells_103 : decode cX12_tells 103 = .ok (.bipush 8, 2) := by decide +kernel
theorem dX12_tells_105 : decode cX12_tells 105 = .ok (.if_icmp .ne 17, 3) := by decide +kernel
theorem dX12_tells_108 : decode cX12_tells 108 = .ok (.aload_n 0, 1) := by decide +kernel
theorem dX12_tells_109 : decode cX12_tells 109 = .ok (.aload_n 0, 1) := by decide +kernel
theorem dX12_tells_110 : decode cX12_tells 110 = .ok (.getfield 412, 3) := by decide +kernel
theorem dX12_tells_113 : decode cX12_tells 113 = .ok (.iconst 2, 1) := by decide +kernel
theorem dX12_tells_114 : decode cX12_tells 114 = .ok (.idiv, 1) := by decide +kernel
theorem dX12_tells_115 : decode cX12_tells 115 = .ok (.i2l, 1) := by decide +kernel
theorem dX12_tells_116 : decode cX12_tells 116 = .ok (.invokevirtual 401, 3) := by decide +kernel
theorem dX12_tells_119 : decode cX12_tells 119 = .ok (.goto 100, 3) := by decide +kernel
theorem dX12_tells_122 : decode cX12_tells 122 = .ok (.iload 5, 2) := by decide +kernel
theorem dX12_tells_124 : decode cX12_tells 124 = .ok (.bipush 9, 2) := by decide +kernel
theorem dX12_tells_126 : decode cX12_tells 126 = .ok (.if_icmp .ne 17, 3) := by decide +kernel
theorem dX12_tells_129 : decode cX12_tells 129 = .ok (.aload_n 0, 1) := by decide +kernel
theorem dX12_tells_130 : decode cX12_tells 130 = .ok (.aload_n 0, 1) := by decide +kernel
theorem dX12_tells_131 : decode cX12_tells 131 = .ok (.getfield 415, 3) := by decide +kernel
theorem dX12_tells_134 : decode cX12_tells 134 = .ok (.invokestatic 397, 3) := by decide +kernel
theorem dX12_tells_137 : decode cX12_tells 137 = .ok (.invokevirtual 401, 3) := by decide +kernel
theorem dX12_tells_140 : decode cX12_tells 140 = .ok (.goto 79, 3) := by decide +kernel
theorem dX12_tells_143 : decode cX12_tells 143 = .ok (.iload 5, 2) := by decide +kernel
theorem dX12_tells_145 : decode cX12_tells 145 = .ok (.bipush 10, 2) := by decide +kernel
theorem dX12_tells_147 : decode cX12_tells 147 = .ok (.if_icmp .ne 17, 3) := by decide +kernel
theorem dX12_tells_150 : decode cX12_tells 150 = .ok (.aload_n 0, 1) := by decide +kernel
theorem dX12_tells_151 : decode cX12_tells 151 = .ok (.aload_n 0, 1) := by decide +kernel
theorem dX12_tells_152 : decode cX12_tells 152 = .ok (.getfield 419, 3) := by decide +kernel
theorem dX12_tells_155 : decode cX12_tells 155 = .ok (.invokestatic 397, 3) := by decide +kernel
theorem dX12_tells_158 : decode cX12_tells 158 = .ok (.invokevirtual 401, 3) := by decide +kernel
theorem dX12_tells_161 : decode cX12_tells 161 = .ok (.goto 58, 3) := by decide +kernel
theorem dX12_tells_164 : decode cX12_tells 164 = .ok (.iload 5, 2) := by decide +kernel
theorem dX12_tells_166 : decode cX12_tells 166 = .ok (.bipush 17, 2) := by decide +kernel
theorem dX12_tells_168 : decode cX12_tells 168 = .ok (.if_icmp .ne 11, 3) := by decide +kernel
theorem dX12_tells_171 : decode cX12_tells 171 = .ok (.aload_n 0, 1) := by decide +kernel
theorem dX12_tells_172 : decode cX12_tells 172 = .ok (.lconst 1, 1) := by decide +kernel
theorem dX12_tells_173 : decode cX12_tells 173 = .ok (.invokevirtual 401, 3) := by decide +kernel
theorem dX12_tells_176 : decode cX12_tells 176 = .ok (.goto 43, 3) := by decide +kernel
theorem dX12_tells_179 : decode cX12_tells 179 = .ok (.iload 5, 2) := by decide +kernel
theorem dX12_tells_181 : decode cX12_tells 181 = .ok (.bipush 16, 2) := by decide +kernel
theorem dX12_tells_183 : decode cX12_tells 183 = .ok (.if_icmp .ne 30, 3) := by decide +kernel
theorem dX12_tells_186 : decode cX12_tells 186 = .ok (.aload_n 0, 1) := by decide +kernel
theorem dX12_tells_187 : decode cX12_tells 187 = .ok (.getfield 165, 3) := by decide +kernel
theorem dX12_tells_190 : decode cX12_tells 190 = .ok (.aload_n 0, 1) := by decide +kernel
theorem dX12_tells_191 : decode cX12_tells 191 = .ok (.getfield 394, 3) := by decide +kernel
theorem dX12_tells_194 : decode cX12_tells 194 = .ok (.iconst 1, 1) := by decide +kernel
theorem dX12_tells_195 : decode cX12_tells 195 = .ok (.isub, 1) := by decide +kernel
theorem dX12_tells_196 : decode cX12_tells 196 = .ok (.lconst 1, 1) := by decide +kernel
theorem dX12_tells_197 : decode cX12_tells 197 = .ok (.aload_n 0, 1) := by decide +kernel
theorem dX12_tells_198 : decode cX12_tells 198 = .ok (.getfield 165, 3) := by decide +kernel
theorem dX12_tells_201 : decode cX12_tells 201 = .ok (.aload_n 0, 1) := by decide +kernel
theorem dX12_tells_202 : decode cX12_tells 202 = .ok (.getfield 394, 3) := by decide +kernel
theorem dX12_tells_205 : decode cX12_tells 205 = .ok (.iconst 1, 1) := by decide +kernel
theorem dX12_tells_206 : decode cX12_tells 206 = .ok (.isub, 1) := by decide +kernel
theorem dX12_tells_207 : decode cX12_tells 207 = .ok (.laload, 1) := by decide +kernel
theorem dX12_tells_208 : decode cX12_tells 208 = .ok (.lsub, 1) := by decide +kernel
theorem dX12_tells_209 : decode cX12_tells 209 = .ok (.lastore, 1) := by decide +kernel
theorem dX12_tells_210 : decode cX12_tells 210 = .ok (.goto 9, 3) := by decide +kernel
theorem dX12_tells_213 : decode cX12_tells 213 = .ok (.aload_n 0, 1) := by decide +kernel
theorem dX12_tells_214 : decode cX12_tells 214 = .ok (.iload 5, 2) := by decide +kernel
theorem dX12_tells_216 : decode cX12_tells 216 = .ok (.invokevirtual 422, 3) := by decide +kernel
theorem dX12_tells_219 : decode cX12_tells 219 = .ok (.iinc 4 1, 3) := by decide +kernel
theorem dX12_tells_222 : decode cX12_tells 222 = .ok (.goto (-214), 3) := by decide +kernel
theorem dX12_tells_225 : decode cX12_tells 225 = .ok (.aload_n 0, 1) := by decide +kernel
theorem dX12_tells_226 : decode cX12_tells 226 = .ok (.getfield 165, 3) := by decide +kernel
theorem dX12_tells_229 : decode cX12_tells 229 = .ok (.iconst 0, 1) := by decide +kernel
theorem dX12_tells_230 : decode cX12_tells 230 = .ok (.laload, 1) := by decide +kernel
theorem dX12_tells_231 : decode cX12_tells 231 = .ok (.lreturn, 1) := by decide +kernel
theorem zy_X12_tells : zYv yX12_tells cX12_tells 6 (some .long) 3 := ⟨zw_1763, zws_92, zw_12, zw_1764, by decide, by decide, by decide⟩
theorem c_X12_tells_b76 {C : zC} {I : Nat → Nat → Int32} {J : Nat → Nat → Int64} {Rr : Nat → Nat → Option Nat} {D : zD} (N : Nat) (a1 : Int32) (a2 : Int32) (a3 : Int32) (v_debt : Int64) (e_v_debt : J 128 63 = v_debt) (v_now : Int32) (e_v_now : I 128 65 = v_now) (v_paid : Int64) (e_v_paid : J 128 64 = v_paid) (v_shireNow : Int32) (e_v_shireNow : I 128 66 = v_shireNow) (v_codes : (Nat → Int32)) (e_v_codes : I 173 = v_codes) (rr : Int64) (y_v_piled : Int32) (y_v_pile : (Nat → Int64)) (E : zE C RX12 cX12_tells 6 (some .long) ({ frames := 2, cells := 0, slots := 0, locals := 50 } : Room)) (hQ : C.Q = zQl C ({ frames := 2, cells := 0, slots := 0, locals := 50 } : Room) rr ((va_up I 128 (va_up (I 128) 62 y_v_piled)), (va_up J 175 y_v_pile), Rr, D)) (x4 : Int32) (s1 : Int64) (v_piled : Int32) (v_pile : (Nat → Int64)) (self : Int32 → Int32 → (Nat → Int64) → Option R_pM_tells) (ih : ∀ (x4 : Int32) (v_piled : Int32) (v_pile : (Nat → Int64)), self x4 v_piled v_pile = some (rr, y_v_piled, y_v_pile) → zB C (0, 0) 8 [(0, .ref (C.X.1 + 128)), (1, .int a1), (3, .int a3), (4, .int x4)] [] ((va_up I 128 (va_up (I 128) 62 v_piled)), (va_up J 175 v_pile), Rr, D)) (h : pM_tells_b76 N a1 a2 a3 v_debt v_now v_paid v_shireNow v_codes self x4 s1 v_piled v_pile = some (rr, y_v_piled, y_v_pile)) : zB C (0, 0) 76 [(0, .ref (C.X.1 + 128)), (1, .int a1), (3, .int a3), (4, .int x4)] [.long s1, .ref (C.X.1 + 128)] ((va_up I 128 (va_up (I 128) 62 v_piled)), (va_up J 175 v_pile), Rr, D) := by
  obtain ⟨v_piled_c12, v_pile_c12, hc_76, h⟩ := bd2_s h
  refine zb_cVv E [.long s1] 128 zy_X12_puts zw_1765 (by decide) (zF_128 _ _ _ _) rfl (c_X12_puts (va_up (I 128) 62 v_piled) rfl v_piled rfl v_pile rfl hc_76) (by decide) rfl rfl (by first | decide | simp [Value.category]) dX12_tells_76 (cs2 := (0, 0)) rfl ?_
  refine zb_S (S2 := ((va_up I 128 (va_up (I 128) 62 v_piled_c12)), (va_up J 175 v_pile_c12), Rr, D)) (zS_eq ((zcgV zn1).trans zn1) zn1) ?_
  refine zb_goto E dX12_tells_79 (tgt := 219) rfl ?_
  refine zb_iinc E dX12_tells_219 3 rfl (v := (x4 + 1)) rfl (by decide) (lv2 := [(4, .int (x4 + 1)), (0, .ref (C.X.1 + 128)), (1, .int a1), (3, .int a3)]) rfl ?_
  refine zb_goto E dX12_tells_222 (tgt := 8) rfl ?_
  refine zb_sub [1, 2, 3, 0] rfl ?_
  exact ih (x4 + 1) v_piled_c12 v_pile_c12 h
theorem c_X12_tells_b8 {C : zC} {I : Nat → Nat → Int32} {J : Nat → Nat → Int64} {Rr : Nat → Nat → Option Nat} {D : zD} (N : Nat) (a1 : Int32) (a2 : Int32) (a3 : Int32) (v_debt : Int64) (e_v_debt : J 128 63 = v_debt) (v_now : Int32) (e_v_now : I 128 65 = v_now) (v_paid : Int64) (e_v_paid : J 128 64 = v_paid) (v_shireNow : Int32) (e_v_shireNow : I 128 66 = v_shireNow) (v_codes : (Nat → Int32)) (e_v_codes : I 173 = v_codes) (rr : Int64) (y_v_piled : Int32) (y_v_pile : (Nat → Int64)) (E : zE C RX12 cX12_tells 6 (some .long) ({ frames := 2, cells := 0, slots := 0, locals := 50 } : Room)) (hQ : C.Q = zQl C ({ frames := 2, cells := 0, slots := 0, locals := 50 } : Room) rr ((va_up I 128 (va_up (I 128) 62 y_v_piled)), (va_up J 175 y_v_pile), Rr, D))  : ∀ (n9 : Nat) (x4 : Int32) (v_piled : Int32) (v_pile : (Nat → Int64)), pM_tells_b8 N a1 a2 a3 v_debt v_now v_paid v_shireNow v_codes n9 x4 v_piled v_pile = some (rr, y_v_piled, y_v_pile) → zB C (0, 0) 8 [(0, .ref (C.X.1 + 128)), (1, .int a1), (3, .int a3), (4, .int x4)] [] ((va_up I 128 (va_up (I 128) 62 v_piled)), (va_up J 175 v_pile), Rr, D) := by
  refine zlp3_ind (P := fun (x4 : Int32) (v_piled : Int32) (v_pile : (Nat → Int64)) => zB C (0, 0) 8 [(0, .ref (C.X.1 + 128)), (1, .int a1), (3, .int a3), (4, .int x4)] [] ((va_up I 128 (va_up (I 128) 62 v_piled)), (va_up J 175 v_pile), Rr, D)) (fun self ih => ?_)
  intro x4 v_piled v_pile h
  refine zb_iload E dX12_tells_8 3 rfl ?_
  refine zb_iload_n E dX12_tells_10 2 rfl rfl ?_
  refine zb_icmp_ge E dX12_tells_11 (tgt := 225) rfl (fun hc => ?_) (fun hc => ?_)
  · have h := if_t h hc
    refine zb_aload_n E dX12_tells_225 0 rfl rfl ?_
    refine zb_get E 128 (by decide) (zF_128 C.X) rfl zin12 61 (by decide) zw_1229 (v := .ref (C.X.1 + 175)) rfl dX12_tells_226 ?_
    refine zb_iconst E dX12_tells_229 (v := 0) rfl ?_
    refine zb_lald E 175 (by decide) zF_175 (f := v_pile) rfl (ib_in (by decide)) dX12_tells_230 ?_
    obtain ⟨rfl, rfl, rfl⟩ := zinj3 h
    exact zb_lret E hQ rfl ⟨Nat.zero_le _, Nat.zero_le _⟩ dX12_tells_231
  · have h := if_f h hc
    refine zb_aload_n E dX12_tells_14 0 rfl rfl ?_
    refine zb_get E 128 (by decide) (zF_128 C.X) rfl zin12 55 (by decide) zw_1223 (v := .ref (C.X.1 + 173)) rfl dX12_tells_15 ?_
    refine zb_sipush E dX12_tells_18 (v := 640) rfl ?_
    refine zb_iload_n E dX12_tells_21 1 rfl rfl ?_
    refine zb_imul E dX12_tells_22 ?_
    refine zb_iload E dX12_tells_23 3 rfl ?_
    refine zb_iadd E dX12_tells_25 ?_
    obtain ⟨g1, h⟩ := gd_s h
    refine zb_iald E 173 (by decide) zF_173 (f := v_codes) (by exact e_v_codes) (ib_in g1) dX12_tells_26 ?_
    refine zb_istore E dX12_tells_27 (by decide) (lv2 := [(5, .int (v_codes (ix ((640 * a1) + x4)))), (0, .ref (C.X.1 + 128)), (1, .int a1), (3, .int a3), (4, .int x4)]) rfl ?_
    refine zb_iload E dX12_tells_29 0 rfl ?_
    refine zb_sipush E dX12_tells_31 (v := 1000) rfl ?_
    refine zb_icmp_lt E dX12_tells_34 (tgt := 51) rfl (fun hc => ?_) (fun hc => ?_)
    · have h := if_t h hc
      refine zb_iload E dX12_tells_51 0 rfl ?_
      refine zb_bipush E dX12_tells_53 (v := 100) rfl ?_
      refine zb_icmp_lt E dX12_tells_55 (tgt := 82) rfl (fun hc => ?_) (fun hc => ?_)
      · have h := if_t h hc
        refine zb_iload E dX12_tells_82 0 rfl ?_
        refine zb_bipush E dX12_tells_84 (v := 7) rfl ?_
        refine zb_icmp_ne E dX12_tells_86 (tgt := 101) rfl (fun hc => ?_) (fun hc => ?_)
        · have h := if_f h hc
          refine zb_iload E dX12_tells_101 0 rfl ?_
          refine zb_bipush E dX12_tells_103 (v := 8) rfl ?_
          refine zb_icmp_ne E dX12_tells_105 (tgt := 122) rfl (fun hc => ?_) (fun hc => ?_)
          · have h := if_f h hc
            refine zb_iload E dX12_tells_122 0 rfl ?_
            refine zb_bipush E dX12_tells_124 (v := 9) rfl ?_
            refine zb_icmp_ne E dX12_tells_126 (tgt := 143) rfl (fun hc => ?_) (fun hc => ?_)
            · have h := if_f h hc
              refine zb_iload E dX12_tells_143 0 rfl ?_
              refine zb_bipush E dX12_tells_145 (v := 10) rfl ?_
              refine zb_icmp_ne E dX12_tells_147 (tgt := 164) rfl (fun hc => ?_) (fun hc => ?_)
              · have h := if_f h hc
                refine zb_iload E dX12_tells_164 0 rfl ?_
                refine zb_bipush E dX12_tells_166 (v := 17) rfl ?_
                refine zb_icmp_ne E dX12_tells_168 (tgt := 179) rfl (fun hc => ?_) (fun hc => ?_)
                · have h := if_f h hc
                  refine zb_iload E dX12_tells_179 0 rfl ?_
                  refine zb_bipush E dX12_tells_181 (v := 16) rfl ?_
                  refine zb_icmp_ne E dX12_tells_183 (tgt := 213) rfl (fun hc => ?_) (fun hc => ?_)
                  · have h := if_f h hc
                    refine zb_aload_n E dX12_tells_213 1 rfl rfl ?_
                    refine zb_iload E dX12_tells_214 0 rfl ?_
                    obtain ⟨v_piled_c2, v_pile_c2, hc_216, h⟩ := bd2_s h
                    refine zb_cVv E [.int (v_codes (ix ((640 * a1) + x4)))] 128 zy_X12_joins zw_1773 (by decide) (zF_128 _ _ _ _) rfl (c_X12_joins (va_up (I 128) 62 v_piled) rfl v_piled rfl v_pile rfl hc_216) (by decide) rfl rfl (by first | decide | simp [Value.category]) dX12_tells_216 (cs2 := (0, 0)) rfl ?_
                    refine zb_S (S2 := ((va_up I 128 (va_up (I 128) 62 v_piled_c2)), (va_up J 175 v_pile_c2), Rr, D)) (zS_eq ((zcgV zn1).trans zn1) zn1) ?_
                    refine zb_iinc E dX12_tells_219 4 rfl (v := (x4 + 1)) rfl (by decide) (lv2 := [(4, .int (x4 + 1)), (5, .int (v_codes (ix ((640 * a1) + x4)))), (0, .ref (C.X.1 + 128)), (1, .int a1), (3, .int a3)]) rfl ?_
                    refine zb_goto E dX12_tells_222 (tgt := 8) rfl ?_
                    refine zb_sub [2, 3, 4, 0] rfl ?_
                    exact ih (x4 + 1) v_piled_c2 v_pile_c2 h
                  · have h := if_t h hc
                    refine zb_aload_n E dX12_tells_186 1 rfl rfl ?_
                    refine zb_get E 128 (by decide) (zF_128 C.X) rfl zin12 61 (by decide) zw_1229 (v := .ref (C.X.1 + 175)) rfl dX12_tells_187 ?_
                    refine zb_aload_n E dX12_tells_190 1 rfl rfl ?_
                    refine zb_get E 128 (by decide) (zF_128 C.X) rfl zin12 62 (by decide) zw_1230 (v := .int v_piled) rfl dX12_tells_191 ?_
                    refine zb_iconst E dX12_tells_194 (v := 1) rfl ?_
                    refine zb_isub E dX12_tells_195 ?_
                    refine zb_lconst E dX12_tells_196 (v := 1) rfl ?_
                    refine zb_aload_n E dX12_tells_197 1 rfl rfl ?_
                    refine zb_get E 128 (by decide) (zF_128 C.X) rfl zin12 61 (by decide) zw_1229 (v := .ref (C.X.1 + 175)) rfl dX12_tells_198 ?_
                    refine zb_aload_n E dX12_tells_201 1 rfl rfl ?_
                    refine zb_get E 128 (by decide) (zF_128 C.X) rfl zin12 62 (by decide) zw_1230 (v := .int v_piled) rfl dX12_tells_202 ?_
                    refine zb_iconst E dX12_tells_205 (v := 1) rfl ?_
                    refine zb_isub E dX12_tells_206 ?_
                    obtain ⟨g3, h⟩ := gd_s h
                    refine zb_lald E 175 (by decide) zF_175 (f := v_pile) rfl (ib_in g3) dX12_tells_207 ?_
                    refine zb_lsub E dX12_tells_208 ?_
                    refine zb_last E 175 (by decide) zF_175 (f := v_pile) rfl (ib_in g3) dX12_tells_209 (J2 := (va_up J 175 (vp_updL v_pile (ix (v_piled - 1)) (1 - (v_pile (ix (v_piled - 1))))))) zn1 ?_
                    refine zb_goto E dX12_tells_210 (tgt := 219) rfl ?_
                    refine zb_iinc E dX12_tells_219 4 rfl (v := (x4 + 1)) rfl (by decide) (lv2 := [(4, .int (x4 + 1)), (5, .int (v_codes (ix ((640 * a1) + x4)))), (0, .ref (C.X.1 + 128)), (1, .int a1), (3, .int a3)]) rfl ?_
                    refine zb_goto E dX12_tells_222 (tgt := 8) rfl ?_
                    refine zb_sub [2, 3, 4, 0] rfl ?_
                    exact ih (x4 + 1) v_piled (vp_updL v_pile (ix (v_piled - 1)) (1 - (v_pile (ix (v_piled - 1))))) h
                · have h := if_t h hc
                  refine zb_aload_n E dX12_tells_171 1 rfl rfl ?_
                  refine zb_lconst E dX12_tells_172 (v := 1) rfl ?_
                  obtain ⟨v_piled_c4, v_pile_c4, hc_173, h⟩ := bd2_s h
                  refine zb_cVv E [.long 1] 128 zy_X12_puts zw_1765 (by decide) (zF_128 _ _ _ _) rfl (c_X12_puts (va_up (I 128) 62 v_piled) rfl v_piled rfl v_pile rfl hc_173) (by decide) rfl rfl (by first | decide | simp [Value.category]) dX12_tells_173 (cs2 := (0, 0)) rfl ?_
                  refine zb_S (S2 := ((va_up I 128 (va_up (I 128) 62 v_piled_c4)), (va_up J 175 v_pile_c4), Rr, D)) (zS_eq ((zcgV zn1).trans zn1) zn1) ?_
                  refine zb_goto E dX12_tells_176 (tgt := 219) rfl ?_
                  refine zb_iinc E dX12_tells_219 4 rfl (v := (x4 + 1)) rfl (by decide) (lv2 := [(4, .int (x4 + 1)), (5, .int (v_codes (ix ((640 * a1) + x4)))), (0, .ref (C.X.1 + 128)), (1, .int a1), (3, .int a3)]) rfl ?_
                  refine zb_goto E dX12_tells_222 (tgt := 8) rfl ?_
                  refine zb_sub [2, 3, 4, 0] rfl ?_
                  exact ih (x4 + 1) v_piled_c4 v_pile_c4 h
              · have h := if_t h hc
                refine zb_aload_n E dX12_tells_150 1 rfl rfl ?_
                refine zb_aload_n E dX12_tells_151 1 rfl rfl ?_
                refine zb_get E 128 (by decide) (zF_128 C.X) rfl zin12 64 (by decide) zw_1232 (v := .long v_paid) (by exact congrArg (fun z => some (Value.long z)) e_v_paid) dX12_tells_152 ?_
                obtain ⟨rc5, hc_155, h⟩ := bd1_s h
                refine zb_cSl E [.long v_paid] zy_X12_clip zw_1769 (c_X12_clip hc_155) (by decide) rfl rfl (by first | decide | simp [Value.category]) dX12_tells_155 (cs2 := (0, 0)) rfl ?_
                obtain ⟨v_piled_c6, v_pile_c6, hc_158, h⟩ := bd2_s h
                refine zb_cVv E [.long rc5] 128 zy_X12_puts zw_1765 (by decide) (zF_128 _ _ _ _) rfl (c_X12_puts (va_up (I 128) 62 v_piled) rfl v_piled rfl v_pile rfl hc_158) (by decide) rfl rfl (by first | decide | simp [Value.category]) dX12_tells_158 (cs2 := (0, 0)) rfl ?_
                refine zb_S (S2 := ((va_up I 128 (va_up (I 128) 62 v_piled_c6)), (va_up J 175 v_pile_c6), Rr, D)) (zS_eq ((zcgV zn1).trans zn1) zn1) ?_
                refine zb_goto E dX12_tells_161 (tgt := 219) rfl ?_
                refine zb_iinc E dX12_tells_219 4 rfl (v := (x4 + 1)) rfl (by decide) (lv2 := [(4, .int (x4 + 1)), (5, .int (v_codes (ix ((640 * a1) + x4)))), (0, .ref (C.X.1 + 128)), (1, .int a1), (3, .int a3)]) rfl ?_
                refine zb_goto E dX12_tells_222 (tgt := 8) rfl ?_
                refine zb_sub [2, 3, 4, 0] rfl ?_
                exact ih (x4 + 1) v_piled_c6 v_pile_c6 h
            · have h := if_t h hc
              refine zb_aload_n E dX12_tells_129 1 rfl rfl ?_
              refine zb_aload_n E dX12_tells_130 1 rfl rfl ?_
              refine zb_get E 128 (by decide) (zF_128 C.X) rfl zin12 63 (by decide) zw_1231 (v := .long v_debt) (by exact congrArg (fun z => some (Value.long z)) e_v_debt) dX12_tells_131 ?_
              obtain ⟨rc7, hc_134, h⟩ := bd1_s h
              refine zb_cSl E [.long v_debt] zy_X12_clip zw_1769 (c_X12_clip hc_134) (by decide) rfl rfl (by first | decide | simp [Value.category]) dX12_tells_134 (cs2 := (0, 0)) rfl ?_
              obtain ⟨v_piled_c8, v_pile_c8, hc_137, h⟩ := bd2_s h
              refine zb_cVv E [.long rc7] 128 zy_X12_puts zw_1765 (by decide) (zF_128 _ _ _ _) rfl (c_X12_puts (va_up (I 128) 62 v_piled) rfl v_piled rfl v_pile rfl hc_137) (by decide) rfl rfl (by first | decide | simp [Value.category]) dX12_tells_137 (cs2 := (0, 0)) rfl ?_
              refine zb_S (S2 := ((va_up I 128 (va_up (I 128) 62 v_piled_c8)), (va_up J 175 v_pile_c8), Rr, D)) (zS_eq ((zcgV zn1).trans zn1) zn1) ?_
              refine zb_goto E dX12_tells_140 (tgt := 219) rfl ?_
              refine zb_iinc E dX12_tells_219 4 rfl (v := (x4 + 1)) rfl (by decide) (lv2 := [(4, .int (x4 + 1)), (5, .int (v_codes (ix ((640 * a1) + x4)))), (0, .ref (C.X.1 + 128)), (1, .int a1), (3, .int a3)]) rfl ?_
              refine zb_goto E dX12_tells_222 (tgt := 8) rfl ?_
              refine zb_sub [2, 3, 4, 0] rfl ?_
              exact ih (x4 + 1) v_piled_c8 v_pile_c8 h
          · have h := if_t h hc
            refine zb_aload_n E dX12_tells_108 1 rfl rfl ?_
            refine zb_aload_n E dX12_tells_109 1 rfl rfl ?_
            refine zb_get E 128 (by decide) (zF_128 C.X) rfl zin12 65 (by decide) zw_1233 (v := .int v_now) (by exact congrArg (fun z => some (Value.int z)) e_v_now) dX12_tells_110 ?_
            refine zb_iconst E dX12_tells_113 (v := 2) rfl ?_
            refine zb_idiv E dX12_tells_114 (by decide) ?_
            refine zb_i2l E dX12_tells_115 ?_
            obtain ⟨v_piled_c9, v_pile_c9, hc_116, h⟩ := bd2_s h
            refine zb_cVv E [.long (i2l (v_now / 2))] 128 zy_X12_puts zw_1765 (by decide) (zF_128 _ _ _ _) rfl (c_X12_puts (va_up (I 128) 62 v_piled) rfl v_piled rfl v_pile rfl hc_116) (by decide) rfl rfl (by first | decide | simp [Value.category]) dX12_tells_116 (cs2 := (0, 0)) rfl ?_
            refine zb_S (S2 := ((va_up I 128 (va_up (I 128) 62 v_piled_c9)), (va_up J 175 v_pile_c9), Rr, D)) (zS_eq ((zcgV zn1).trans zn1) zn1) ?_
            refine zb_goto E dX12_tells_119 (tgt := 219) rfl ?_
            refine zb_iinc E dX12_tells_219 4 rfl (v := (x4 + 1)) rfl (by decide) (lv2 := [(4, .int (x4 + 1)), (5, .int (v_codes (ix ((640 * a1) + x4)))), (0, .ref (C.X.1 + 128)), (1, .int a1), (3, .int a3)]) rfl ?_
            refine zb_goto E dX12_tells_222 (tgt := 8) rfl ?_
            refine zb_sub [2, 3, 4, 0] rfl ?_
            exact ih (x4 + 1) v_piled_c9 v_pile_c9 h
        · have h := if_t h hc
          refine zb_aload_n E dX12_tells_89 1 rfl rfl ?_
          refine zb_aload_n E dX12_tells_90 1 rfl rfl ?_
          refine zb_get E 128 (by decide) (zF_128 C.X) rfl zin12 65 (by decide) zw_1233 (v := .int v_now) (by exact congrArg (fun z => some (Value.int z)) e_v_now) dX12_tells_91 ?_
          refine zb_i2l E dX12_tells_94 ?_
          obtain ⟨v_piled_c10, v_pile_c10, hc_95, h⟩ := bd2_s h
          refine zb_cVv E [.long (i2l v_now)] 128 zy_X12_puts zw_1765 (by decide) (zF_128 _ _ _ _) rfl (c_X12_puts (va_up (I 128) 62 v_piled) rfl v_piled rfl v_pile rfl hc_95) (by decide) rfl rfl (by first | decide | simp [Value.category]) dX12_tells_95 (cs2 := (0, 0)) rfl ?_
          refine zb_S (S2 := ((va_up I 128 (va_up (I 128) 62 v_piled_c10)), (va_up J 175 v_pile_c10), Rr, D)) (zS_eq ((zcgV zn1).trans zn1) zn1) ?_
          refine zb_goto E dX12_tells_98 (tgt := 219) rfl ?_
          refine zb_iinc E dX12_tells_219 4 rfl (v := (x4 + 1)) rfl (by decide) (lv2 := [(4, .int (x4 + 1)), (5, .int (v_codes (ix ((640 * a1) + x4)))), (0, .ref (C.X.1 + 128)), (1, .int a1), (3, .int a3)]) rfl ?_
          refine zb_goto E dX12_tells_222 (tgt := 8) rfl ?_
          refine zb_sub [2, 3, 4, 0] rfl ?_
          exact ih (x4 + 1) v_piled_c10 v_pile_c10 h
      · have h := if_f h hc
        refine zb_aload_n E dX12_tells_58 1 rfl rfl ?_
        refine zb_iload E dX12_tells_59 0 rfl ?_
        refine zb_bipush E dX12_tells_61 (v := 100) rfl ?_
        refine zb_isub E dX12_tells_63 ?_
        refine zb_aload_n E dX12_tells_64 1 rfl rfl ?_
        refine zb_get E 128 (by decide) (zF_128 C.X) rfl zin12 66 (by decide) zw_1234 (v := .int v_shireNow) (by exact congrArg (fun z => some (Value.int z)) e_v_shireNow) dX12_tells_65 ?_
        refine zb_icmp_ne E dX12_tells_68 (tgt := 75) rfl (fun hc => ?_) (fun hc => ?_)
        · have h := if_f h hc
          refine zb_lconst E dX12_tells_75 (v := 0) rfl ?_
          refine zb_sub [1, 2, 3, 4] rfl ?_
          exact c_X12_tells_b76 N a1 a2 a3 v_debt e_v_debt v_now e_v_now v_paid e_v_paid v_shireNow e_v_shireNow v_codes e_v_codes rr y_v_piled y_v_pile E hQ x4 0 v_piled v_pile self ih h
        · have h := if_t h hc
          refine zb_lconst E dX12_tells_71 (v := 1) rfl ?_
          refine zb_goto E dX12_tells_72 (tgt := 76) rfl ?_
          refine zb_sub [1, 2, 3, 4] rfl ?_
          exact c_X12_tells_b76 N a1 a2 a3 v_debt e_v_debt v_now e_v_now v_paid e_v_paid v_shireNow e_v_shireNow v_codes e_v_codes rr y_v_piled y_v_pile E hQ x4 1 v_piled v_pile self ih h
    · have h := if_f h hc
      refine zb_aload_n E dX12_tells_37 1 rfl rfl ?_
      refine zb_iload E dX12_tells_38 0 rfl ?_
      refine zb_sipush E dX12_tells_40 (v := 1000) rfl ?_
      refine zb_isub E dX12_tells_43 ?_
      refine zb_i2l E dX12_tells_44 ?_
      obtain ⟨v_piled_c11, v_pile_c11, hc_45, h⟩ := bd2_s h
      refine zb_cVv E [.long (i2l ((v_codes (ix ((640 * a1) + x4))) - 1000))] 128 zy_X12_puts zw_1765 (by decide) (zF_128 _ _ _ _) rfl (c_X12_puts (va_up (I 128) 62 v_piled) rfl v_piled rfl v_pile rfl hc_45) (by decide) rfl rfl (by first | decide | simp [Value.category]) dX12_tells_45 (cs2 := (0, 0)) rfl ?_
      refine zb_S (S2 := ((va_up I 128 (va_up (I 128) 62 v_piled_c11)), (va_up J 175 v_pile_c11), Rr, D)) (zS_eq ((zcgV zn1).trans zn1) zn1) ?_
      refine zb_goto E dX12_tells_48 (tgt := 219) rfl ?_
      refine zb_iinc E dX12_tells_219 4 rfl (v := (x4 + 1)) rfl (by decide) (lv2 := [(4, .int (x4 + 1)), (5, .int (v_codes (ix ((640 * a1) + x4)))), (0, .ref (C.X.1 + 128)), (1, .int a1), (3, .int a3)]) rfl ?_
      refine zb_goto E dX12_tells_222 (tgt := 8) rfl ?_
      refine zb_sub [2, 3, 4, 0] rfl ?_
      exact ih (x4 + 1) v_piled_c11 v_pile_c11 h
theorem c_X12_tells_0 {C : zC} {I : Nat → Nat → Int32} {J : Nat → Nat → Int64} {Rr : Nat → Nat → Option Nat} {D : zD} (N : Nat) (a1 : Int32) (a2 : Int32) (a3 : Int32) (v_debt : Int64) (e_v_debt : J 128 63 = v_debt) (v_now : Int32) (e_v_now : I 128 65 = v_now) (v_paid : Int64) (e_v_paid : J 128 64 = v_paid) (v_shireNow : Int32) (e_v_shireNow : I 128 66 = v_shireNow) (v_codes : (Nat → Int32)) (e_v_codes : I 173 = v_codes) (rr : Int64) (y_v_piled : Int32) (y_v_pile : (Nat → Int64)) (E : zE C RX12 cX12_tells 6 (some .long) ({ frames := 2, cells := 0, slots := 0, locals := 50 } : Room)) (hQ : C.Q = zQl C ({ frames := 2, cells := 0, slots := 0, locals := 50 } : Room) rr ((va_up I 128 (va_up (I 128) 62 y_v_piled)), (va_up J 175 y_v_pile), Rr, D)) (v_piled : Int32) (v_pile : (Nat → Int64)) (h : pM_tells N a1 a2 a3 v_debt v_now v_paid v_piled v_shireNow v_codes v_pile = some (rr, y_v_piled, y_v_pile)) : zB C (0, 0) 0 [(0, .ref (C.X.1 + 128)), (1, .int a1), (2, .int a2), (3, .int a3)] [] ((va_up I 128 (va_up (I 128) 62 v_piled)), (va_up J 175 v_pile), Rr, D) := by
  refine zb_aload_n E dX12_tells_0 0 rfl rfl ?_
  refine zb_iconst E dX12_tells_1 (v := 0) rfl ?_
  refine zb_put E 128 (by decide) (zF_128 C.X) rfl zin12 62 (by decide) zw_1230 tyX12 tyX12_ok nmX12 rfl rfl rfl (I2 := (va_up I 128 (va_up (I 128) 62 0))) (J2 := (va_up J 175 v_pile)) ((zset12_62 C.X (va_up (I 128) 62 v_piled) (J 128) 0).trans (congrArg (fun g => zf12 C.X g (J 128)) zn1)) (by rw [zflen12]; decide) (fun j hj => ⟨(zup_n hj).trans (zup_n hj).symm, rfl⟩) dX12_tells_2 ?_
  refine zb_iload_n E dX12_tells_5 2 rfl rfl ?_
  refine zb_istore E dX12_tells_6 (by decide) (lv2 := [(4, .int a2), (0, .ref (C.X.1 + 128)), (1, .int a1), (2, .int a2), (3, .int a3)]) rfl ?_
  refine zb_sub [1, 2, 4, 0] rfl ?_
  exact c_X12_tells_b8 N a1 a2 a3 v_debt e_v_debt v_now e_v_now v_paid e_v_paid v_shireNow e_v_shireNow v_codes e_v_codes rr y_v_piled y_v_pile E hQ _ a2 0 v_pile h
theorem c_X12_tells {l : Launch} {X : zX} {I : Nat → Nat → Int32} {J : Nat → Nat → Int64} {Rr : Nat → Nat → Option Nat} {D : zD} {N : Nat} {a1 : Int32} {a2 : Int32} {a3 : Int32} (oI128 : Nat → Int32) (eoI128 : I 128 = oI128) (v_debt : Int64) (e_v_debt : J 128 63 = v_debt) (v_now : Int32) (e_v_now : I 128 65 = v_now) (v_paid : Int64) (e_v_paid : J 128 64 = v_paid) (v_shireNow : Int32) (e_v_shireNow : I 128 66 = v_shireNow) (v_codes : (Nat → Int32)) (e_v_codes : I 173 = v_codes) (v_piled : Int32) (e_v_piled : I 128 62 = v_piled) (v_pile : (Nat → Int64)) (e_v_pile : J 175 = v_pile) {rr : Int64} {y_v_piled : Int32} {y_v_pile : (Nat → Int64)} (h : pM_tells N a1 a2 a3 v_debt v_now v_paid v_piled v_shireNow v_codes v_pile = some (rr, y_v_piled, y_v_pile)) : zMl l yX12_tells cX12_tells 6 (some .long) ({ frames := 2, cells := 0, slots := 0, locals := 50 } : Room) X [.ref (X.1 + 128), .int a1, .int a2, .int a3] (I, J, Rr, D) rr ((va_up I 128 (va_up oI128 62 y_v_piled)), (va_up J 175 y_v_pile), Rr, D) := by
  subst eoI128
  refine zMl.of (by decide) (Nat.le_of_ble_eq_true rfl) (fun C E hl hX hQ => ?_)
  subst hl
  subst hX
  have eI0 : (va_up I 128 (va_up (I 128) 62 v_piled)) = I := by rw [zup_idE e_v_piled, zup_id]
  have eJ0 : (va_up J 175 v_pile) = J := by rw [zup_idE e_v_pile]
  refine zb_S (S2 := ((va_up I 128 (va_up (I 128) 62 v_piled)), (va_up J 175 v_pile), Rr, D)) (zS_eq eI0.symm eJ0.symm) ?_
  exact c_X12_tells_0 N a1 a2 a3 v_debt e_v_debt v_now e_v_now v_paid e_v_paid v_shireNow e_v_shireNow v_codes e_v_codes rr y_v_piled y_v_pile E hQ v_piled v_pile h
-- ChequeredClothModel.isTerm
theorem dX12_isTerm_0 : decode cX12_isTerm 0 = .ok (.iload_n 0, 1) := by decide +kernel
theorem dX12_isTerm_1 : decode cX12_isTerm 1 = .ok (.i2l, 1) := by decide +kernel
theorem dX12_isTerm_2 : decode cX12_isTerm 2 = .ok (.lconst 0, 1) := by decide +kernel
theorem dX12_isTerm_3 : decode cX12_isTerm 3 = .ok (.ldc2_w 425, 3) := by decide +kernel
theorem dX12_isTerm_6 : decode cX12_isTerm 6 = .ok (.invokestatic 199, 3) := by decide +kernel
theorem dX12_isTerm_9 : decode cX12_isTerm 9 = .ok (.ireturn, 1) := by decide +kernel
theorem zy_X12_isTerm : zYs yX12_isTerm cX12_isTerm 1 (some .boolean) 1 := ⟨zw_1562, zw_12, zw_1563, by decide, by decide, by decide⟩
theorem c_X12_isTerm_0 {C : zC} {I : Nat → Nat → Int32} {J : Nat → Nat → Int64} {Rr : Nat → Nat → Option Nat} {D : zD} (a0 : Int32) (rr : Int32) (E : zE C RX12 cX12_isTerm 1 (some .boolean) ({ frames := 1, cells := 0, slots := 0, locals := 25 } : Room)) (hQ : C.Q = zQi C ({ frames := 1, cells := 0, slots := 0, locals := 25 } : Room) rr (I, J, Rr, D)) (h : pM_isTerm a0 = some rr) : zB C (0, 0) 0 [(0, .int a0)] [] (I, J, Rr, D) := by
  refine zb_iload_n E dX12_isTerm_0 0 rfl rfl ?_
  refine zb_i2l E dX12_isTerm_1 ?_
  refine zb_lconst E dX12_isTerm_2 (v := 0) rfl ?_
  refine zb_ldc2 E dX12_isTerm_3 (v := 39) zw_1564 ?_
  obtain ⟨rc1, hc_6, h⟩ := bd1_s h
  refine zb_cSi E [.long (i2l a0), .long 0, .long 39] zy_X12_isIn zw_1429 (c_X12_isIn hc_6) (by decide) rfl rfl (by first | decide | simp [Value.category]) dX12_isTerm_6 (cs2 := (0, 0)) rfl ?_
  obtain ⟨gB, h⟩ := gd_s h
  obtain rfl := zinj1 h
  exact zb_zret E hQ (ty := .boolean) rfl (isB_n gB) ⟨Nat.zero_le _, Nat.zero_le _⟩ dX12_isTerm_9
theorem c_X12_isTerm {l : Launch} {X : zX} {I : Nat → Nat → Int32} {J : Nat → Nat → Int64} {Rr : Nat → Nat → Option Nat} {D : zD} {a0 : Int32} {rr : Int32} (h : pM_isTerm a0 = some rr) : zMi l yX12_isTerm cX12_isTerm 1 (some .boolean) ({ frames := 1, cells := 0, slots := 0, locals := 25 } : Room) X [.int a0] (I, J, Rr, D) rr (I, J, Rr, D) := by
  refine zMi.of (by decide) (Nat.le_of_ble_eq_true rfl) (fun C E hl hX hQ => ?_)
  subst hl
  subst hX
  have eI0 : I = I := rfl
  have eJ0 : J = J := rfl
  refine zb_S (S2 := (I, J, Rr, D)) (zS_eq eI0.symm eJ0.symm) ?_
  exact c_X12_isTerm_0 a0 rr E hQ h
-- ChequeredClothModel.isShire
theorem dX12_isShire_0 : decode cX12_isShire 0 = .ok (.iload_n 0, 1) := by decide +kernel
theorem dX12_isShire_1 : decode cX12_isShire 1 = .ok (.i2l, 1) := by decide +kernel
theorem dX12_isShire_2 : decode cX12_isShire 2 = .ok (.lconst 0, 1) := by decide +kernel
theorem dX12_isShire_3 : decode cX12_isShire 3 = .ok (.ldc2_w 427, 3) := by decide +kernel
theorem dX12_isShire_6 : decode cX12_isShire 6 = .ok (.invokestatic 199, 3) := by decide +kernel
theorem dX12_isShire_9 : decode cX12_isShire 9 = .ok (.ireturn, 1) := by decide +kernel
theorem zy_X12_isShire : zYs yX12_isShire cX12_isShire 1 (some .boolean) 1 := ⟨zw_1701, zw_12, zw_1702, by decide, by decide, by decide⟩
theorem c_X12_isShire_0 {C : zC} {I : Nat → Nat → Int32} {J : Nat → Nat → Int64} {Rr : Nat → Nat → Option Nat} {D : zD} (a0 : Int32) (rr : Int32) (E : zE C RX12 cX12_isShire 1 (some .boolean) ({ frames := 1, cells := 0, slots := 0, locals := 25 } : Room)) (hQ : C.Q = zQi C ({ frames := 1, cells := 0, slots := 0, locals := 25 } : Room) rr (I, J, Rr, D)) (h : pM_isShire a0 = some rr) : zB C (0, 0) 0 [(0, .int a0)] [] (I, J, Rr, D) := by
  refine zb_iload_n E dX12_isShire_0 0 rfl rfl ?_
  refine zb_i2l E dX12_isShire_1 ?_
  refine zb_lconst E dX12_isShire_2 (v := 0) rfl ?_
  refine zb_ldc2 E dX12_isShire_3 (v := 7) zw_1703 ?_
  obtain ⟨rc1, hc_6, h⟩ := bd1_s h
  refine zb_cSi E [.long (i2l a0), .long 0, .long 7] zy_X12_isIn zw_1429 (c_X12_isIn hc_6) (by decide) rfl rfl (by first | decide | simp [Value.category]) dX12_isShire_6 (cs2 := (0, 0)) rfl ?_
  obtain ⟨gB, h⟩ := gd_s h
  obtain rfl := zinj1 h
  exact zb_zret E hQ (ty := .boolean) rfl (isB_n gB) ⟨Nat.zero_le _, Nat.zero_le _⟩ dX12_isShire_9
theorem c_X12_isShire {l : Launch} {X : zX} {I : Nat → Nat → Int32} {J : Nat → Nat → Int64} {Rr : Nat → Nat → Option Nat} {D : zD} {a0 : Int32} {rr : Int32} (h : pM_isShire a0 = some rr) : zMi l yX12_isShire cX12_isShire 1 (some .boolean) ({ frames := 1, cells := 0, slots := 0, locals := 25 } : Room) X [.int a0] (I, J, Rr, D) rr (I, J, Rr, D) := by
  refine zMi.of (by decide) (Nat.le_of_ble_eq_true rfl) (fun C E hl hX hQ => ?_)
  subst hl
  subst hX
  have eI0 : I = I := rfl
  have eJ0 : J = J := rfl
  refine zb_S (S2 := (I, J, Rr, D)) (zS_eq eI0.symm eJ0.symm) ?_
  exact c_X12_isShire_0 a0 rr E hQ h
-- ChequeredClothModel.act
theorem dX12_act_0 : decode cX12_act 0 = .ok (.aload_n 0, 1) := by decide +kernel
theorem dX12_act_1 : decode cX12_act 1 = .ok (.getfield 429, 3) := by decide +kernel
theorem dX12_act_4 : decode cX12_act 4 = .ok (.sipush 200, 3) := by decide +kernel
theorem dX12_act_7 : decode cX12_act 7 = .ok (.if_icmp .ne 5, 3) := by decide +kernel
theorem dX12_act_10 : decode cX12_act 10 = .ok (.iconst (-1), 1) := by decide +kernel
theorem dX12_act_11 : decode cX12_act 11 = .ok (.ireturn, 1) := by decide +kernel
theorem dX12_act_12 : decode cX12_act 12 = .ok (.aload_n 0, 1) := by decide +kernel
theorem dX12_act_13 : decode cX12_act 13 = .ok (.dup, 1) := by decide +kernel
theorem dX12_act_14 : decode cX12_act 14 = .ok (.getfield 429, 3) := by decide +kernel
theorem dX12_act_17 : decode cX12_act 17 = .ok (.iconst 1, 1) := by decide +kernel
theorem dX12_act_18 : decode cX12_act 18 = .ok (.iadd, 1) := by decide +kernel
theorem dX12_act_19 : decode cX12_act 19 = .ok (.putfield 429, 3) := by decide +kernel
theorem dX12_act_22 : decode cX12_act 22 = .ok (.aload_n 0, 1) := by decide +kernel
theorem dX12_act_23 : decode cX12_act 23 = .ok (.getfield 169, 3) := by decide +kernel
theorem dX12_act_26 : decode cX12_act 26 = .ok (.aload_n 0, 1) := by decide +kernel
theorem dX12_act_27 : decode cX12_act 27 = .ok (.getfield 429, 3) := by decide +kernel
theorem dX12_act_30 : decode cX12_act 30 = .ok (.iload_n 1, 1) := by decide +kernel
theorem dX12_act_31 : decode cX12_act 31 = .ok (.iastore, 1) := by decide +kernel
theorem dX12_act_32 : decode cX12_act 32 = .ok (.aload_n 0, 1) := by decide +kernel
theorem dX12_act_33 : decode cX12_act 33 = .ok (.getfield 175, 3) := by decide +kernel
theorem dX12_act_36 : decode cX12_act 36 = .ok (.aload_n 0, 1) := by decide +kernel
theorem dX12_act_37 : decode cX12_act 37 = .ok (.getfield 429, 3) := by decide +kernel
theorem dX12_act_40 : decode cX12_act 40 = .ok (.iload_n 2, 1) := by decide +kernel
theorem dX12_act_41 : decode cX12_act 41 = .ok (.iastore, 1) := by decide +kernel
theorem dX12_act_42 : decode cX12_act 42 = .ok (.aload_n 0, 1) := by decide +kernel
theorem dX12_act_43 : decode cX12_act 43 = .ok (.getfield 172, 3) := by decide +kernel
theorem dX12_act_46 : decode cX12_act 46 = .ok (.aload_n 0, 1) := by decide +kernel
theorem dX12_act_47 : decode cX12_act 47 = .ok (.getfield 429, 3) := by decide +kernel
theorem dX12_act_50 : decode cX12_act 50 = .ok (.iload_n 3, 1) := by decide +kernel
theorem dX12_act_51 : decode cX12_act 51 = .ok (.iastore, 1) := by decide +kernel
theorem dX12_act_52 : decode cX12_act 52 = .ok (.aload_n 0, 1) := by decide +kernel
theorem dX12_act_53 : decode cX12_act 53 = .ok (.getfield 178, 3) := by decide +kernel
theorem dX12_act_56 : decode cX12_act 56 = .ok (.aload_n 0, 1) := by decide +kernel
theorem dX12_act_57 : decode cX12_act 57 = .ok (.getfield 429, 3) := by decide +kernel
theorem dX12_act_60 : decode cX12_act 60 = .ok (.iload 4, 2) := by decide +kernel
theorem dX12_act_62 : decode cX12_act 62 = .ok (.iastore, 1) := by decide +kernel
theorem dX12_act_63 : decode cX12_act 63 = .ok (.aload_n 0, 1) := by decide +kernel
theorem dX12_act_64 : decode cX12_act 64 = .ok (.getfield 181, 3) := by decide +kernel
theorem dX12_act_67 : decode cX12_act 67 = .ok (.aload_n 0, 1) := by decide +kernel
theorem dX12_act_68 : decode cX12_act 68 = .ok (.getfield 429, 3) := by decide +kernel
theorem dX12_act_71 : decode cX12_act 71 = .ok (.iconst 0, 1) := by decide +kernel
theorem dX12_act_72 : decode cX12_act 72 = .ok (.iastore, 1) := by decide +kernel
theorem dX12_act_73 : decode cX12_act 73 = .ok (.aload_n 0, 1) := by decide +kernel
theorem dX12_act_74 : decode cX12_act 74 = .ok (.getfield 429, 3) := by decide +kernel
theorem dX12_act_77 : decode cX12_act 77 = .ok (.ireturn, 1) := by decide +kernel
theorem zy_X12_act : zYv yX12_act cX12_act 5 (some .int) 4 := ⟨zw_1678, zws_81, zw_12, zw_1679, by decide, by decide, by decide⟩
theorem c_X12_act_0 {C : zC} {I : Nat → Nat → Int32} {J : Nat → Nat → Int64} {Rr : Nat → Nat → Option Nat} {D : zD} (a1 : Int32) (a2 : Int32) (a3 : Int32) (a4 : Int32) (rr : Int32) (y_v_acts : Int32) (y_v_actKind : (Nat → Int32)) (y_v_actNumber : (Nat → Int32)) (y_v_actShire : (Nat → Int32)) (y_v_actTerm : (Nat → Int32)) (y_v_voidAt : (Nat → Int32)) (E : zE C RX12 cX12_act 5 (some .int) ({ frames := 0, cells := 0, slots := 0, locals := 0 } : Room)) (hQ : C.Q = zQi C ({ frames := 0, cells := 0, slots := 0, locals := 0 } : Room) rr ((va_up (va_up (va_up (va_up (va_up (va_up I 128 (va_up (I 128) 67 y_v_acts)) 176 y_v_actKind) 177 y_v_actTerm) 178 y_v_actShire) 179 y_v_actNumber) 180 y_v_voidAt), J, Rr, D)) (v_acts : Int32) (v_actKind : (Nat → Int32)) (v_actNumber : (Nat → Int32)) (v_actShire : (Nat → Int32)) (v_actTerm : (Nat → Int32)) (v_voidAt : (Nat → Int32)) (h : pM_act a1 a2 a3 a4 v_acts v_actKind v_actNumber v_actShire v_actTerm v_voidAt = some (rr, y_v_acts, y_v_actKind, y_v_actNumber, y_v_actShire, y_v_actTerm, y_v_voidAt)) : zB C (0, 0) 0 [(0, .ref (C.X.1 + 128)), (1, .int a1), (2, .int a2), (3, .int a3), (4, .int a4)] [] ((va_up (va_up (va_up (va_up (va_up (va_up I 128 (va_up (I 128) 67 v_acts)) 176 v_actKind) 177 v_actTerm) 178 v_actShire) 179 v_actNumber) 180 v_voidAt), J, Rr, D) := by
  refine zb_aload_n E dX12_act_0 0 rfl rfl ?_
  refine zb_get E 128 (by decide) (zF_128 C.X) rfl zin12 67 (by decide) zw_1235 (v := .int v_acts) rfl dX12_act_1 ?_
  refine zb_sipush E dX12_act_4 (v := 200) rfl ?_
  refine zb_icmp_ne E dX12_act_7 (tgt := 12) rfl (fun hc => ?_) (fun hc => ?_)
  · have h := if_f h hc
    refine zb_aload_n E dX12_act_12 0 rfl rfl ?_
    refine zb_dup E dX12_act_13 rfl ?_
    refine zb_get E 128 (by decide) (zF_128 C.X) rfl zin12 67 (by decide) zw_1235 (v := .int v_acts) rfl dX12_act_14 ?_
    refine zb_iconst E dX12_act_17 (v := 1) rfl ?_
    refine zb_iadd E dX12_act_18 ?_
    refine zb_put E 128 (by decide) (zF_128 C.X) rfl zin12 67 (by decide) zw_1235 tyX12 tyX12_ok nmX12 rfl rfl rfl (I2 := (va_up (va_up (va_up (va_up (va_up (va_up I 128 (va_up (I 128) 67 (v_acts + 1))) 176 v_actKind) 177 v_actTerm) 178 v_actShire) 179 v_actNumber) 180 v_voidAt)) (J2 := J) ((zset12_67 C.X (va_up (I 128) 67 v_acts) (J 128) (v_acts + 1)).trans (congrArg (fun g => zf12 C.X g (J 128)) zn1)) (by rw [zflen12]; decide) (fun j hj => ⟨zup_cg (zup_cg (zup_cg (zup_cg (zup_cg ((zup_n hj).trans (zup_n hj).symm))))), rfl⟩) dX12_act_19 ?_
    refine zb_aload_n E dX12_act_22 0 rfl rfl ?_
    refine zb_get E 128 (by decide) (zF_128 C.X) rfl zin12 68 (by decide) zw_1236 (v := .ref (C.X.1 + 176)) rfl dX12_act_23 ?_
    refine zb_aload_n E dX12_act_26 0 rfl rfl ?_
    refine zb_get E 128 (by decide) (zF_128 C.X) rfl zin12 67 (by decide) zw_1235 (v := .int (v_acts + 1)) rfl dX12_act_27 ?_
    refine zb_iload_n E dX12_act_30 1 rfl rfl ?_
    obtain ⟨g1, h⟩ := gd_s h
    refine zb_iast E 176 (by decide) zF_176 (f := v_actKind) rfl (ib_in g1) dX12_act_31 (I2 := (va_up (va_up (va_up (va_up (va_up (va_up I 128 (va_up (I 128) 67 (v_acts + 1))) 176 (upd v_actKind (ix (v_acts + 1)) a1)) 177 v_actTerm) 178 v_actShire) 179 v_actNumber) 180 v_voidAt)) (zn5 (by decide : (180 : Nat) ≠ 176) (by decide : (179 : Nat) ≠ 176) (by decide : (178 : Nat) ≠ 176) (by decide : (177 : Nat) ≠ 176)) ?_
    refine zb_aload_n E dX12_act_32 0 rfl rfl ?_
    refine zb_get E 128 (by decide) (zF_128 C.X) rfl zin12 70 (by decide) zw_1238 (v := .ref (C.X.1 + 178)) rfl dX12_act_33 ?_
    refine zb_aload_n E dX12_act_36 0 rfl rfl ?_
    refine zb_get E 128 (by decide) (zF_128 C.X) rfl zin12 67 (by decide) zw_1235 (v := .int (v_acts + 1)) rfl dX12_act_37 ?_
    refine zb_iload_n E dX12_act_40 2 rfl rfl ?_
    refine zb_iast E 178 (by decide) zF_178 (f := v_actShire) rfl (ib_in g1) dX12_act_41 (I2 := (va_up (va_up (va_up (va_up (va_up (va_up I 128 (va_up (I 128) 67 (v_acts + 1))) 176 (upd v_actKind (ix (v_acts + 1)) a1)) 177 v_actTerm) 178 (upd v_actShire (ix (v_acts + 1)) a2)) 179 v_actNumber) 180 v_voidAt)) (zn3 (by decide : (180 : Nat) ≠ 178) (by decide : (179 : Nat) ≠ 178)) ?_
    refine zb_aload_n E dX12_act_42 0 rfl rfl ?_
    refine zb_get E 128 (by decide) (zF_128 C.X) rfl zin12 69 (by decide) zw_1237 (v := .ref (C.X.1 + 177)) rfl dX12_act_43 ?_
    refine zb_aload_n E dX12_act_46 0 rfl rfl ?_
    refine zb_get E 128 (by decide) (zF_128 C.X) rfl zin12 67 (by decide) zw_1235 (v := .int (v_acts + 1)) rfl dX12_act_47 ?_
    refine zb_iload_n E dX12_act_50 3 rfl rfl ?_
    refine zb_iast E 177 (by decide) zF_177 (f := v_actTerm) rfl (ib_in g1) dX12_act_51 (I2 := (va_up (va_up (va_up (va_up (va_up (va_up I 128 (va_up (I 128) 67 (v_acts + 1))) 176 (upd v_actKind (ix (v_acts + 1)) a1)) 177 (upd v_actTerm (ix (v_acts + 1)) a3)) 178 (upd v_actShire (ix (v_acts + 1)) a2)) 179 v_actNumber) 180 v_voidAt)) (zn4 (by decide : (180 : Nat) ≠ 177) (by decide : (179 : Nat) ≠ 177) (by decide : (178 : Nat) ≠ 177)) ?_
    refine zb_aload_n E dX12_act_52 0 rfl rfl ?_
    refine zb_get E 128 (by decide) (zF_128 C.X) rfl zin12 71 (by decide) zw_1239 (v := .ref (C.X.1 + 179)) rfl dX12_act_53 ?_
    refine zb_aload_n E dX12_act_56 0 rfl rfl ?_
    refine zb_get E 128 (by decide) (zF_128 C.X) rfl zin12 67 (by decide) zw_1235 (v := .int (v_acts + 1)) rfl dX12_act_57 ?_
    refine zb_iload E dX12_act_60 4 rfl ?_
    refine zb_iast E 179 (by decide) zF_179 (f := v_actNumber) rfl (ib_in g1) dX12_act_62 (I2 := (va_up (va_up (va_up (va_up (va_up (va_up I 128 (va_up (I 128) 67 (v_acts + 1))) 176 (upd v_actKind (ix (v_acts + 1)) a1)) 177 (upd v_actTerm (ix (v_acts + 1)) a3)) 178 (upd v_actShire (ix (v_acts + 1)) a2)) 179 (upd v_actNumber (ix (v_acts + 1)) a4)) 180 v_voidAt)) (zn2 (by decide : (180 : Nat) ≠ 179)) ?_
    refine zb_aload_n E dX12_act_63 0 rfl rfl ?_
    refine zb_get E 128 (by decide) (zF_128 C.X) rfl zin12 72 (by decide) zw_1240 (v := .ref (C.X.1 + 180)) rfl dX12_act_64 ?_
    refine zb_aload_n E dX12_act_67 0 rfl rfl ?_
    refine zb_get E 128 (by decide) (zF_128 C.X) rfl zin12 67 (by decide) zw_1235 (v := .int (v_acts + 1)) rfl dX12_act_68 ?_
    refine zb_iconst E dX12_act_71 (v := 0) rfl ?_
    refine zb_iast E 180 (by decide) zF_180 (f := v_voidAt) rfl (ib_in g1) dX12_act_72 (I2 := (va_up (va_up (va_up (va_up (va_up (va_up I 128 (va_up (I 128) 67 (v_acts + 1))) 176 (upd v_actKind (ix (v_acts + 1)) a1)) 177 (upd v_actTerm (ix (v_acts + 1)) a3)) 178 (upd v_actShire (ix (v_acts + 1)) a2)) 179 (upd v_actNumber (ix (v_acts + 1)) a4)) 180 (upd v_voidAt (ix (v_acts + 1)) 0))) zn1 ?_
    refine zb_aload_n E dX12_act_73 0 rfl rfl ?_
    refine zb_get E 128 (by decide) (zF_128 C.X) rfl zin12 67 (by decide) zw_1235 (v := .int (v_acts + 1)) rfl dX12_act_74 ?_
    obtain ⟨rfl, rfl, rfl, rfl, rfl, rfl, rfl⟩ := zinj7 h
    exact zb_iret E hQ rfl ⟨Nat.zero_le _, Nat.zero_le _⟩ dX12_act_77
  · have h := if_t h hc
    refine zb_iconst E dX12_act_10 (v := (-1)) rfl ?_
    obtain ⟨rfl, rfl, rfl, rfl, rfl, rfl, rfl⟩ := zinj7 h
    exact zb_iret E hQ rfl ⟨Nat.zero_le _, Nat.zero_le _⟩ dX12_act_11
theorem c_X12_act {l : Launch} {X : zX} {I : Nat → Nat → Int32} {J : Nat → Nat → Int64} {Rr : Nat → Nat → Option Nat} {D : zD} {a1 : Int32} {a2 : Int32} {a3 : Int32} {a4 : Int32} (oI128 : Nat → Int32) (eoI128 : I 128 = oI128) (v_acts : Int32) (e_v_acts : I 128 67 = v_acts) (v_actKind : (Nat → Int32)) (e_v_actKind : I 176 = v_actKind) (v_actNumber : (Nat → Int32)) (e_v_actNumber : I 179 = v_actNumber) (v_actShire : (Nat → Int32)) (e_v_actShire : I 178 = v_actShire) (v_actTerm : (Nat → Int32)) (e_v_actTerm : I 177 = v_actTerm) (v_voidAt : (Nat → Int32)) (e_v_voidAt : I 180 = v_voidAt) {rr : Int32} {y_v_acts : Int32} {y_v_actKind : (Nat → Int32)} {y_v_actNumber : (Nat → Int32)} {y_v_actShire : (Nat → Int32)} {y_v_actTerm : (Nat → Int32)} {y_v_voidAt : (Nat → Int32)} (h : pM_act a1 a2 a3 a4 v_acts v_actKind v_actNumber v_actShire v_actTerm v_voidAt = some (rr, y_v_acts, y_v_actKind, y_v_actNumber, y_v_actShire, y_v_actTerm, y_v_voidAt)) : zMi l yX12_act cX12_act 5 (some .int) ({ frames := 0, cells := 0, slots := 0, locals := 0 } : Room) X [.ref (X.1 + 128), .int a1, .int a2, .int a3, .int a4] (I, J, Rr, D) rr ((va_up (va_up (va_up (va_up (va_up (va_up I 128 (va_up oI128 67 y_v_acts)) 176 y_v_actKind) 177 y_v_actTerm) 178 y_v_actShire) 179 y_v_actNumber) 180 y_v_voidAt), J, Rr, D) := by
  subst eoI128
  refine zMi.of (by decide) (Nat.le_of_ble_eq_true rfl) (fun C E hl hX hQ => ?_)
  subst hl
  subst hX
  have eI0 : (va_up (va_up (va_up (va_up (va_up (va_up I 128 (va_up (I 128) 67 v_acts)) 176 v_actKind) 177 v_actTerm) 178 v_actShire) 179 v_actNumber) 180 v_voidAt) = I := by rw [zup_idE e_v_acts, zup_id, zup_idE e_v_actKind, zup_idE e_v_actTerm, zup_idE e_v_actShire, zup_idE e_v_actNumber, zup_idE e_v_voidAt]
  have eJ0 : J = J := rfl
  refine zb_S (S2 := ((va_up (va_up (va_up (va_up (va_up (va_up I 128 (va_up (I 128) 67 v_acts)) 176 v_actKind) 177 v_actTerm) 178 v_actShire) 179 v_actNumber) 180 v_voidAt), J, Rr, D)) (zS_eq eI0.symm eJ0.symm) ?_
  exact c_X12_act_0 a1 a2 a3 a4 rr y_v_acts y_v_actKind y_v_actNumber y_v_actShire y_v_actTerm y_v_voidAt E hQ v_acts v_actKind v_actNumber v_actShire v_actTerm v_voidAt h
-- ChequeredClothModel.writ
theorem dX12_writ_0 : decode cX12_writ 0 = .ok (.iload_n 1, 1) := by decide +kernel
theorem dX12_writ_1 : decode cX12_writ 1 = .ok (.invokestatic 432, 3) := by decide +kernel
theorem dX12_writ_4 : decode cX12_writ 4 = .ok (.ifCond .eq 13, 3) := by decide +kernel
theorem dX12_writ_7 : decode cX12_writ 7 = .ok (.aload_n 0, 1) := by decide +kernel
theorem dX12_writ_8 : decode cX12_writ 8 = .ok (.getfield 429, 3) := by decide +kernel
theorem dX12_writ_11 : decode cX12_writ 11 = .ok (.sipush 200, 3) := by decide +kernel
theorem dX12_writ_14 : decode cX12_writ 14 = .ok (.if_icmp .ne 11, 3) := by decide +kernel
theorem dX12_writ_17 : decode cX12_writ 17 = .ok (.aload_n 0, 1) := by decide +kernel
theorem dX12_writ_18 : decode cX12_writ 18 = .ok (.iconst 0, 1) := by decide +kernel
theorem dX12_writ_19 : decode cX12_writ 19 = .ok (.putfield 272, 3) := by decide +kernel
theorem dX12_writ_22 : decode cX12_writ 22 = .ok (.bipush (-2), 2) := by decide +kernel
theorem dX12_writ_24 : decode cX12_writ 24 = .ok (.ireturn, 1) := by decide +kernel
theorem dX12_writ_25 : decode cX12_writ 25 = .ok (.aload_n 0, 1) := by decide +kernel
theorem dX12_writ_26 : decode cX12_writ 26 = .ok (.invokevirtual 435, 3) := by decide +kernel
theorem dX12_writ_29 : decode cX12_writ 29 = .ok (.ifCond .ne 5, 3) := by decide +kernel
theorem dX12_writ_32 : decode cX12_writ 32 = .ok (.iconst (-1), 1) := by decide +kernel
theorem dX12_writ_33 : decode cX12_writ 33 = .ok (.ireturn, 1) := by decide +kernel
theorem dX12_writ_34 : decode cX12_writ 34 = .ok (.aload_n 0, 1) := by decide +kernel
theorem dX12_writ_35 : decode cX12_writ 35 = .ok (.iconst 1, 1) := by decide +kernel
theorem dX12_writ_36 : decode cX12_writ 36 = .ok (.iconst 0, 1) := by decide +kernel
theorem dX12_writ_37 : decode cX12_writ 37 = .ok (.iload_n 1, 1) := by decide +kernel
theorem dX12_writ_38 : decode cX12_writ 38 = .ok (.iconst 0, 1) := by decide +kernel
theorem dX12_writ_39 : decode cX12_writ 39 = .ok (.invokevirtual 438, 3) := by decide +kernel
theorem dX12_writ_42 : decode cX12_writ 42 = .ok (.istore_n 2, 1) := by decide +kernel
theorem dX12_writ_43 : decode cX12_writ 43 = .ok (.aload_n 0, 1) := by decide +kernel
theorem dX12_writ_44 : decode cX12_writ 44 = .ok (.iload_n 2, 1) := by decide +kernel
theorem dX12_writ_45 : decode cX12_writ 45 = .ok (.invokevirtual 442, 3) := by decide +kernel
theorem dX12_writ_48 : decode cX12_writ 48 = .ok (.iload_n 2, 1) := by decide +kernel
theorem dX12_writ_49 : decode cX12_writ 49 = .ok (.ireturn, 1) := by decide +kernel
theorem zy_X12_writ : zYv yX12_writ cX12_writ 3 (some .int) 1 := ⟨zw_1558, zw_1559, zw_12, zw_1560, by decide, by decide, by decide⟩
theorem c_X12_writ_b17 {C : zC} {I : Nat → Nat → Int32} {J : Nat → Nat → Int64} {Rr : Nat → Nat → Option Nat} {D : zD} (N : Nat) (a1 : Int32) (v_allWord : (Nat → Int32)) (e_v_allWord : I 154 = v_allWord) (v_allowWord : (Nat → Int32)) (e_v_allowWord : I 146 = v_allowWord) (v_andWord : (Nat → Int32)) (e_v_andWord : I 152 = v_andWord) (v_blanchedWord : (Nat → Int32)) (e_v_blanchedWord : I 145 = v_blanchedWord) (v_debtWord : (Nat → Int32)) (e_v_debtWord : I 161 = v_debtWord) (v_farmWord : (Nat → Int32)) (e_v_farmWord : I 144 = v_farmWord) (v_forWord : (Nat → Int32)) (e_v_forWord : I 150 = v_forWord) (v_inWord : (Nat → Int32)) (e_v_inWord : I 149 = v_inWord) (v_maxWord : (Nat → Int32)) (e_v_maxWord : I 164 = v_maxWord) (v_minWord : (Nat → Int32)) (e_v_minWord : I 163 = v_minWord) (v_notWord : (Nat → Int32)) (e_v_notWord : I 153 = v_notWord) (v_orWord : (Nat → Int32)) (e_v_orWord : I 151 = v_orWord) (v_paidWord : (Nat → Int32)) (e_v_paidWord : I 162 = v_paidWord) (v_pardonWord : (Nat → Int32)) (e_v_pardonWord : I 147 = v_pardonWord) (v_penceWord : (Nat → Int32)) (e_v_penceWord : I 156 = v_penceWord) (v_poundsWord : (Nat → Int32)) (e_v_poundsWord : I 158 = v_poundsWord) (v_shillingsWord : (Nat → Int32)) (e_v_shillingsWord : I 157 = v_shillingsWord) (v_shireWord : (Nat → Int32)) (e_v_shireWord : I 155 = v_shireWord) (v_splitWord : (Nat → Int32)) (e_v_splitWord : I 148 = v_splitWord) (v_tape : (Nat → Int32)) (e_v_tape : I 143 = v_tape) (v_termWord : (Nat → Int32)) (e_v_termWord : I 159 = v_termWord) (v_yearWord : (Nat → Int32)) (e_v_yearWord : I 160 = v_yearWord) (rr : Int32) (y_v_acts : Int32) (y_v_at : Int32) (y_v_bad : Int32) (y_v_badPlace : Int32) (y_v_base : Int32) (y_v_coded : Int32) (y_v_end : Int32) (y_v_ended : Int32) (y_v_fault : Int32) (y_v_faultPlace : Int32) (y_v_open : Int32) (y_v_taped : Int32) (y_v_waits : Int32) (y_v_actKind : (Nat → Int32)) (y_v_actNumber : (Nat → Int32)) (y_v_actShire : (Nat → Int32)) (y_v_actTerm : (Nat → Int32)) (y_v_codes : (Nat → Int32)) (y_v_first : (Nat → Int32)) (y_v_isBlanched : (Nat → Int32)) (y_v_many : (Nat → Int32)) (y_v_second : (Nat → Int32)) (y_v_sort : (Nat → Int32)) (y_v_sumEnd : (Nat → Int32)) (y_v_sumFrom : (Nat → Int32)) (y_v_testEnd : (Nat → Int32)) (y_v_voidAt : (Nat → Int32)) (y_v_wait : (Nat → Int32)) (E : zE C RX12 cX12_writ 3 (some .int) ({ frames := 10, cells := 0, slots := 0, locals := 216 } : Room)) (hQ : C.Q = zQi C ({ frames := 10, cells := 0, slots := 0, locals := 216 } : Room) rr ((va_up (va_up (va_up (va_up (va_up (va_up (va_up (va_up (va_up (va_up (va_up (va_up (va_up (va_up (va_up (va_up I 128 (va_up (va_up (va_up (va_up (va_up (va_up (va_up (va_up (va_up (va_up (va_up (va_up (va_up (I 128) 18 y_v_taped) 19 y_v_at) 20 y_v_end) 21 y_v_ended) 22 y_v_bad) 23 y_v_badPlace) 24 y_v_fault) 25 y_v_faultPlace) 56 y_v_coded) 58 y_v_waits) 59 y_v_open) 60 y_v_base) 67 y_v_acts)) 165 y_v_many) 166 y_v_sort) 167 y_v_isBlanched) 168 y_v_first) 169 y_v_second) 170 y_v_sumFrom) 171 y_v_sumEnd) 172 y_v_testEnd) 173 y_v_codes) 174 y_v_wait) 176 y_v_actKind) 177 y_v_actTerm) 178 y_v_actShire) 179 y_v_actNumber) 180 y_v_voidAt), J, Rr, D)) (v_acts : Int32) (v_at : Int32) (v_bad : Int32) (v_badPlace : Int32) (v_base : Int32) (v_coded : Int32) (v_end : Int32) (v_ended : Int32) (v_fault : Int32) (v_faultPlace : Int32) (v_open : Int32) (v_taped : Int32) (v_waits : Int32) (v_actKind : (Nat → Int32)) (v_actNumber : (Nat → Int32)) (v_actShire : (Nat → Int32)) (v_actTerm : (Nat → Int32)) (v_codes : (Nat → Int32)) (v_first : (Nat → Int32)) (v_isBlanched : (Nat → Int32)) (v_many : (Nat → Int32)) (v_second : (Nat → Int32)) (v_sort : (Nat → Int32)) (v_sumEnd : (Nat → Int32)) (v_sumFrom : (Nat → Int32)) (v_testEnd : (Nat → Int32)) (v_voidAt : (Nat → Int32)) (v_wait : (Nat → Int32)) (h : pM_writ_b17 N a1 v_allWord v_allowWord v_andWord v_blanchedWord v_debtWord v_farmWord v_forWord v_inWord v_maxWord v_minWord v_notWord v_orWord v_paidWord v_pardonWord v_penceWord v_poundsWord v_shillingsWord v_shireWord v_splitWord v_tape v_termWord v_yearWord v_acts v_at v_bad v_badPlace v_base v_coded v_end v_ended v_fault v_faultPlace v_open v_taped v_waits v_actKind v_actNumber v_actShire v_actTerm v_codes v_first v_isBlanched v_many v_second v_sort v_sumEnd v_sumFrom v_testEnd v_voidAt v_wait = some (rr, y_v_acts, y_v_at, y_v_bad, y_v_badPlace, y_v_base, y_v_coded, y_v_end, y_v_ended, y_v_fault, y_v_faultPlace, y_v_open, y_v_taped, y_v_waits, y_v_actKind, y_v_actNumber, y_v_actShire, y_v_actTerm, y_v_codes, y_v_first, y_v_isBlanched, y_v_many, y_v_second, y_v_sort, y_v_sumEnd, y_v_sumFrom, y_v_testEnd, y_v_voidAt, y_v_wait)) : zB C (0, 0) 17 [(0, .ref (C.X.1 + 128))] [] ((va_up (va_up (va_up (va_up (va_up (va_up (va_up (va_up (va_up (va_up (va_up (va_up (va_up (va_up (va_up (va_up I 128 (va_up (va_up (va_up (va_up (va_up (va_up (va_up (va_up (va_up (va_up (va_up (va_up (va_up (I 128) 18 v_taped) 19 v_at) 20 v_end) 21 v_ended) 22 v_bad) 23 v_badPlace) 24 v_fault) 25 v_faultPlace) 56 v_coded) 58 v_waits) 59 v_open) 60 v_base) 67 v_acts)) 165 v_many) 166 v_sort) 167 v_isBlanched) 168 v_first) 169 v_second) 170 v_sumFrom) 171 v_sumEnd) 172 v_testEnd) 173 v_codes) 174 v_wait) 176 v_actKind) 177 v_actTerm) 178 v_actShire) 179 v_actNumber) 180 v_voidAt), J, Rr, D) := by
  refine zb_aload_n E dX12_writ_17 0 rfl rfl ?_
  refine zb_iconst E dX12_writ_18 (v := 0) rfl ?_
  refine zb_put E 128 (by decide) (zF_128 C.X) rfl zin12 18 (by decide) zw_1186 tyX12 tyX12_ok nmX12 rfl rfl rfl (I2 := (va_up (va_up (va_up (va_up (va_up (va_up (va_up (va_up (va_up (va_up (va_up (va_up (va_up (va_up (va_up (va_up I 128 (va_up (va_up (va_up (va_up (va_up (va_up (va_up (va_up (va_up (va_up (va_up (va_up (va_up (I 128) 18 0) 19 v_at) 20 v_end) 21 v_ended) 22 v_bad) 23 v_badPlace) 24 v_fault) 25 v_faultPlace) 56 v_coded) 58 v_waits) 59 v_open) 60 v_base) 67 v_acts)) 165 v_many) 166 v_sort) 167 v_isBlanched) 168 v_first) 169 v_second) 170 v_sumFrom) 171 v_sumEnd) 172 v_testEnd) 173 v_codes) 174 v_wait) 176 v_actKind) 177 v_actTerm) 178 v_actShire) 179 v_actNumber) 180 v_voidAt)) (J2 := J) ((zset12_18 C.X (va_up (va_up (va_up (va_up (va_up (va_up (va_up (va_up (va_up (va_up (va_up (va_up (va_up (I 128) 18 v_taped) 19 v_at) 20 v_end) 21 v_ended) 22 v_bad) 23 v_badPlace) 24 v_fault) 25 v_faultPlace) 56 v_coded) 58 v_waits) 59 v_open) 60 v_base) 67 v_acts) (J 128) 0).trans (congrArg (fun g => zf12 C.X g (J 128)) (zn13 (by decide : (67 : Nat) ≠ 18) (by decide : (60 : Nat) ≠ 18) (by decide : (59 : Nat) ≠ 18) (by decide : (58 : Nat) ≠ 18) (by decide : (56 : Nat) ≠ 18) (by decide : (25 : Nat) ≠ 18) (by decide : (24 : Nat) ≠ 18) (by decide : (23 : Nat) ≠ 18) (by decide : (22 : Nat) ≠ 18) (by decide : (21 : Nat) ≠ 18) (by decide : (20 : Nat) ≠ 18) (by decide : (19 : Nat) ≠ 18)))) (by rw [zflen12]; decide) (fun j hj => ⟨zup_cg (zup_cg (zup_cg (zup_cg (zup_cg (zup_cg (zup_cg (zup_cg (zup_cg (zup_cg (zup_cg (zup_cg (zup_cg (zup_cg (zup_cg ((zup_n hj).trans (zup_n hj).symm))))))))))))))), rfl⟩) dX12_writ_19 ?_
  refine zb_bipush E dX12_writ_22 (v := (-2)) rfl ?_
  obtain ⟨rfl, rfl, rfl, rfl, rfl, rfl, rfl, rfl, rfl, rfl, rfl, rfl, rfl, rfl, rfl, rfl, rfl, rfl, rfl, rfl, rfl, rfl, rfl, rfl, rfl, rfl, rfl, rfl, rfl⟩ := zinj29 h
  exact zb_iret E hQ rfl ⟨Nat.zero_le _, Nat.zero_le _⟩ dX12_writ_24
theorem c_X12_writ_0 {C : zC} {I : Nat → Nat → Int32} {J : Nat → Nat → Int64} {Rr : Nat → Nat → Option Nat} {D : zD} (N : Nat) (a1 : Int32) (v_allWord : (Nat → Int32)) (e_v_allWord : I 154 = v_allWord) (v_allowWord : (Nat → Int32)) (e_v_allowWord : I 146 = v_allowWord) (v_andWord : (Nat → Int32)) (e_v_andWord : I 152 = v_andWord) (v_blanchedWord : (Nat → Int32)) (e_v_blanchedWord : I 145 = v_blanchedWord) (v_debtWord : (Nat → Int32)) (e_v_debtWord : I 161 = v_debtWord) (v_farmWord : (Nat → Int32)) (e_v_farmWord : I 144 = v_farmWord) (v_forWord : (Nat → Int32)) (e_v_forWord : I 150 = v_forWord) (v_inWord : (Nat → Int32)) (e_v_inWord : I 149 = v_inWord) (v_maxWord : (Nat → Int32)) (e_v_maxWord : I 164 = v_maxWord) (v_minWord : (Nat → Int32)) (e_v_minWord : I 163 = v_minWord) (v_notWord : (Nat → Int32)) (e_v_notWord : I 153 = v_notWord) (v_orWord : (Nat → Int32)) (e_v_orWord : I 151 = v_orWord) (v_paidWord : (Nat → Int32)) (e_v_paidWord : I 162 = v_paidWord) (v_pardonWord : (Nat → Int32)) (e_v_pardonWord : I 147 = v_pardonWord) (v_penceWord : (Nat → Int32)) (e_v_penceWord : I 156 = v_penceWord) (v_poundsWord : (Nat → Int32)) (e_v_poundsWord : I 158 = v_poundsWord) (v_shillingsWord : (Nat → Int32)) (e_v_shillingsWord : I 157 = v_shillingsWord) (v_shireWord : (Nat → Int32)) (e_v_shireWord : I 155 = v_shireWord) (v_splitWord : (Nat → Int32)) (e_v_splitWord : I 148 = v_splitWord) (v_tape : (Nat → Int32)) (e_v_tape : I 143 = v_tape) (v_termWord : (Nat → Int32)) (e_v_termWord : I 159 = v_termWord) (v_yearWord : (Nat → Int32)) (e_v_yearWord : I 160 = v_yearWord) (rr : Int32) (y_v_acts : Int32) (y_v_at : Int32) (y_v_bad : Int32) (y_v_badPlace : Int32) (y_v_base : Int32) (y_v_coded : Int32) (y_v_end : Int32) (y_v_ended : Int32) (y_v_fault : Int32) (y_v_faultPlace : Int32) (y_v_open : Int32) (y_v_taped : Int32) (y_v_waits : Int32) (y_v_actKind : (Nat → Int32)) (y_v_actNumber : (Nat → Int32)) (y_v_actShire : (Nat → Int32)) (y_v_actTerm : (Nat → Int32)) (y_v_codes : (Nat → Int32)) (y_v_first : (Nat → Int32)) (y_v_isBlanched : (Nat → Int32)) (y_v_many : (Nat → Int32)) (y_v_second : (Nat → Int32)) (y_v_sort : (Nat → Int32)) (y_v_sumEnd : (Nat → Int32)) (y_v_sumFrom : (Nat → Int32)) (y_v_testEnd : (Nat → Int32)) (y_v_voidAt : (Nat → Int32)) (y_v_wait : (Nat → Int32)) (E : zE C RX12 cX12_writ 3 (some .int) ({ frames := 10, cells := 0, slots := 0, locals := 216 } : Room)) (hQ : C.Q = zQi C ({ frames := 10, cells := 0, slots := 0, locals := 216 } : Room) rr ((va_up (va_up (va_up (va_up (va_up (va_up (va_up (va_up (va_up (va_up (va_up (va_up (va_up (va_up (va_up (va_up I 128 (va_up (va_up (va_up (va_up (va_up (va_up (va_up (va_up (va_up (va_up (va_up (va_up (va_up (I 128) 18 y_v_taped) 19 y_v_at) 20 y_v_end) 21 y_v_ended) 22 y_v_bad) 23 y_v_badPlace) 24 y_v_fault) 25 y_v_faultPlace) 56 y_v_coded) 58 y_v_waits) 59 y_v_open) 60 y_v_base) 67 y_v_acts)) 165 y_v_many) 166 y_v_sort) 167 y_v_isBlanched) 168 y_v_first) 169 y_v_second) 170 y_v_sumFrom) 171 y_v_sumEnd) 172 y_v_testEnd) 173 y_v_codes) 174 y_v_wait) 176 y_v_actKind) 177 y_v_actTerm) 178 y_v_actShire) 179 y_v_actNumber) 180 y_v_voidAt), J, Rr, D)) (v_acts : Int32) (v_at : Int32) (v_bad : Int32) (v_badPlace : Int32) (v_base : Int32) (v_coded : Int32) (v_end : Int32) (v_ended : Int32) (v_fault : Int32) (v_faultPlace : Int32) (v_open : Int32) (v_taped : Int32) (v_waits : Int32) (v_actKind : (Nat → Int32)) (v_actNumber : (Nat → Int32)) (v_actShire : (Nat → Int32)) (v_actTerm : (Nat → Int32)) (v_codes : (Nat → Int32)) (v_first : (Nat → Int32)) (v_isBlanched : (Nat → Int32)) (v_many : (Nat → Int32)) (v_second : (Nat → Int32)) (v_sort : (Nat → Int32)) (v_sumEnd : (Nat → Int32)) (v_sumFrom : (Nat → Int32)) (v_testEnd : (Nat → Int32)) (v_voidAt : (Nat → Int32)) (v_wait : (Nat → Int32)) (h : pM_writ N a1 v_acts v_at v_bad v_badPlace v_base v_coded v_end v_ended v_fault v_faultPlace v_open v_taped v_waits v_actKind v_actNumber v_actShire v_actTerm v_allWord v_allowWord v_andWord v_blanchedWord v_codes v_debtWord v_farmWord v_first v_forWord v_inWord v_isBlanched v_many v_maxWord v_minWord v_notWord v_orWord v_paidWord v_pardonWord v_penceWord v_poundsWord v_second v_shillingsWord v_shireWord v_sort v_splitWord v_sumEnd v_sumFrom v_tape v_termWord v_testEnd v_voidAt v_wait v_yearWord = some (rr, y_v_acts, y_v_at, y_v_bad, y_v_badPlace, y_v_base, y_v_coded, y_v_end, y_v_ended, y_v_fault, y_v_faultPlace, y_v_open, y_v_taped, y_v_waits, y_v_actKind, y_v_actNumber, y_v_actShire, y_v_actTerm, y_v_codes, y_v_first, y_v_isBlanched, y_v_many, y_v_second, y_v_sort, y_v_sumEnd, y_v_sumFrom, y_v_testEnd, y_v_voidAt, y_v_wait)) : zB C (0, 0) 0 [(0, .ref (C.X.1 + 128)), (1, .int a1)] [] ((va_up (va_up (va_up (va_up (va_up (va_up (va_up (va_up (va_up (va_up (va_up (va_up (va_up (va_up (va_up (va_up I 128 (va_up (va_up (va_up (va_up (va_up (va_up (va_up (va_up (va_up (va_up (va_up (va_up (va_up (I 128) 18 v_taped) 19 v_at) 20 v_end) 21 v_ended) 22 v_bad) 23 v_badPlace) 24 v_fault) 25 v_faultPlace) 56 v_coded) 58 v_waits) 59 v_open) 60 v_base) 67 v_acts)) 165 v_many) 166 v_sort) 167 v_isBlanched) 168 v_first) 169 v_second) 170 v_sumFrom) 171 v_sumEnd) 172 v_testEnd) 173 v_codes) 174 v_wait) 176 v_actKind) 177 v_actTerm) 178 v_actShire) 179 v_actNumber) 180 v_voidAt), J, Rr, D) := by
  refine zb_iload_n E dX12_writ_0 1 rfl rfl ?_
  obtain ⟨rc1, hc_1, h⟩ := bd1_s h
  refine zb_cSi E [.int a1] zy_X12_isTerm zw_1561 (c_X12_isTerm hc_1) (by decide) rfl rfl (by first | decide | simp [Value.category]) dX12_writ_1 (cs2 := (0, 0)) rfl ?_
  refine zb_if_eq E dX12_writ_4 (tgt := 17) rfl (fun hc => ?_) (fun hc => ?_)
  · have h := if_t h hc
    refine zb_sub [0] rfl ?_
    exact c_X12_writ_b17 N a1 v_allWord e_v_allWord v_allowWord e_v_allowWord v_andWord e_v_andWord v_blanchedWord e_v_blanchedWord v_debtWord e_v_debtWord v_farmWord e_v_farmWord v_forWord e_v_forWord v_inWord e_v_inWord v_maxWord e_v_maxWord v_minWord e_v_minWord v_notWord e_v_notWord v_orWord e_v_orWord v_paidWord e_v_paidWord v_pardonWord e_v_pardonWord v_penceWord e_v_penceWord v_poundsWord e_v_poundsWord v_shillingsWord e_v_shillingsWord v_shireWord e_v_shireWord v_splitWord e_v_splitWord v_tape e_v_tape v_termWord e_v_termWord v_yearWord e_v_yearWord rr y_v_acts y_v_at y_v_bad y_v_badPlace y_v_base y_v_coded y_v_end y_v_ended y_v_fault y_v_faultPlace y_v_open y_v_taped y_v_waits y_v_actKind y_v_actNumber y_v_actShire y_v_actTerm y_v_codes y_v_first y_v_isBlanched y_v_many y_v_second y_v_sort y_v_sumEnd y_v_sumFrom y_v_testEnd y_v_voidAt y_v_wait E hQ v_acts v_at v_bad v_badPlace v_base v_coded v_end v_ended v_fault v_faultPlace v_open v_taped v_waits v_actKind v_actNumber v_actShire v_actTerm v_codes v_first v_isBlanched v_many v_second v_sort v_sumEnd v_sumFrom v_testEnd v_voidAt v_wait h
  · have h := if_f h hc
    refine zb_aload_n E dX12_writ_7 0 rfl rfl ?_
    refine zb_get E 128 (by decide) (zF_128 C.X) rfl zin12 67 (by decide) zw_1235 (v := .int v_acts) rfl dX12_writ_8 ?_
    refine zb_sipush E dX12_writ_11 (v := 200) rfl ?_
    refine zb_icmp_ne E dX12_writ_14 (tgt := 25) rfl (fun hc => ?_) (fun hc => ?_)
    · have h := if_f h hc
      refine zb_aload_n E dX12_writ_25 0 rfl rfl ?_
      obtain ⟨rc2, v_at_c2, v_bad_c2, v_badPlace_c2, v_base_c2, v_coded_c2, v_end_c2, v_ended_c2, v_fault_c2, v_faultPlace_c2, v_open_c2, v_taped_c2, v_waits_c2, v_codes_c2, v_first_c2, v_isBlanched_c2, v_many_c2, v_second_c2, v_sort_c2, v_sumEnd_c2, v_sumFrom_c2, v_testEnd_c2, v_wait_c2, hc_26, h⟩ := bd23_s h
      refine zb_cVi E [] 128 zy_X12_reads zw_1565 (by decide) (zF_128 _ _ _ _) rfl (c_X12_reads (va_up (va_up (va_up (va_up (va_up (va_up (va_up (va_up (va_up (va_up (va_up (va_up (va_up (I 128) 18 v_taped) 19 v_at) 20 v_end) 21 v_ended) 22 v_bad) 23 v_badPlace) 24 v_fault) 25 v_faultPlace) 56 v_coded) 58 v_waits) 59 v_open) 60 v_base) 67 v_acts) rfl v_allWord (by exact e_v_allWord) v_allowWord (by exact e_v_allowWord) v_andWord (by exact e_v_andWord) v_blanchedWord (by exact e_v_blanchedWord) v_debtWord (by exact e_v_debtWord) v_farmWord (by exact e_v_farmWord) v_forWord (by exact e_v_forWord) v_inWord (by exact e_v_inWord) v_maxWord (by exact e_v_maxWord) v_minWord (by exact e_v_minWord) v_notWord (by exact e_v_notWord) v_orWord (by exact e_v_orWord) v_paidWord (by exact e_v_paidWord) v_pardonWord (by exact e_v_pardonWord) v_penceWord (by exact e_v_penceWord) v_poundsWord (by exact e_v_poundsWord) v_shillingsWord (by exact e_v_shillingsWord) v_shireWord (by exact e_v_shireWord) v_splitWord (by exact e_v_splitWord) v_tape (by exact e_v_tape) v_termWord (by exact e_v_termWord) v_yearWord (by exact e_v_yearWord) v_at rfl v_bad rfl v_badPlace rfl v_base rfl v_coded rfl v_end rfl v_ended rfl v_fault rfl v_faultPlace rfl v_open rfl v_taped rfl v_waits rfl v_codes rfl v_first rfl v_isBlanched rfl v_many rfl v_second rfl v_sort rfl v_sumEnd rfl v_sumFrom rfl v_testEnd rfl v_wait rfl hc_26) (by decide) rfl rfl (by first | decide | simp [Value.category]) dX12_writ_26 (cs2 := (0, 0)) rfl ?_
      refine zb_S (S2 := ((va_up (va_up (va_up (va_up (va_up (va_up (va_up (va_up (va_up (va_up (va_up (va_up (va_up (va_up (va_up (va_up I 128 (va_up (va_up (va_up (va_up (va_up (va_up (va_up (va_up (va_up (va_up (va_up (va_up (va_up (I 128) 18 v_taped_c2) 19 v_at_c2) 20 v_end_c2) 21 v_ended_c2) 22 v_bad_c2) 23 v_badPlace_c2) 24 v_fault_c2) 25 v_faultPlace_c2) 56 v_coded_c2) 58 v_waits_c2) 59 v_open_c2) 60 v_base_c2) 67 v_acts)) 165 v_many_c2) 166 v_sort_c2) 167 v_isBlanched_c2) 168 v_first_c2) 169 v_second_c2) 170 v_sumFrom_c2) 171 v_sumEnd_c2) 172 v_testEnd_c2) 173 v_codes_c2) 174 v_wait_c2) 176 v_actKind) 177 v_actTerm) 178 v_actShire) 179 v_actNumber) 180 v_voidAt), J, Rr, D)) (zS_eq ((zcgF ((zcgF ((zcgF ((zcgF ((zcgF ((zcgF ((zcgF ((zcgF ((zcgF ((zcgF ((zcgV ((zcgF ((zcgF ((zcgF ((zcgF ((zcgF ((zcgF ((zcgF ((zcgF ((zcgF ((zcgF ((zcgF (zn13 (by decide : (67 : Nat) ≠ 18) (by decide : (60 : Nat) ≠ 18) (by decide : (59 : Nat) ≠ 18) (by decide : (58 : Nat) ≠ 18) (by decide : (56 : Nat) ≠ 18) (by decide : (25 : Nat) ≠ 18) (by decide : (24 : Nat) ≠ 18) (by decide : (23 : Nat) ≠ 18) (by decide : (22 : Nat) ≠ 18) (by decide : (21 : Nat) ≠ 18) (by decide : (20 : Nat) ≠ 18) (by decide : (19 : Nat) ≠ 18))).trans (zn12 (by decide : (67 : Nat) ≠ 19) (by decide : (60 : Nat) ≠ 19) (by decide : (59 : Nat) ≠ 19) (by decide : (58 : Nat) ≠ 19) (by decide : (56 : Nat) ≠ 19) (by decide : (25 : Nat) ≠ 19) (by decide : (24 : Nat) ≠ 19) (by decide : (23 : Nat) ≠ 19) (by decide : (22 : Nat) ≠ 19) (by decide : (21 : Nat) ≠ 19) (by decide : (20 : Nat) ≠ 19)))).trans (zn11 (by decide : (67 : Nat) ≠ 20) (by decide : (60 : Nat) ≠ 20) (by decide : (59 : Nat) ≠ 20) (by decide : (58 : Nat) ≠ 20) (by decide : (56 : Nat) ≠ 20) (by decide : (25 : Nat) ≠ 20) (by decide : (24 : Nat) ≠ 20) (by decide : (23 : Nat) ≠ 20) (by decide : (22 : Nat) ≠ 20) (by decide : (21 : Nat) ≠ 20)))).trans (zn10 (by decide : (67 : Nat) ≠ 21) (by decide : (60 : Nat) ≠ 21) (by decide : (59 : Nat) ≠ 21) (by decide : (58 : Nat) ≠ 21) (by decide : (56 : Nat) ≠ 21) (by decide : (25 : Nat) ≠ 21) (by decide : (24 : Nat) ≠ 21) (by decide : (23 : Nat) ≠ 21) (by decide : (22 : Nat) ≠ 21)))).trans (zn9 (by decide : (67 : Nat) ≠ 22) (by decide : (60 : Nat) ≠ 22) (by decide : (59 : Nat) ≠ 22) (by decide : (58 : Nat) ≠ 22) (by decide : (56 : Nat) ≠ 22) (by decide : (25 : Nat) ≠ 22) (by decide : (24 : Nat) ≠ 22) (by decide : (23 : Nat) ≠ 22)))).trans (zn8 (by decide : (67 : Nat) ≠ 23) (by decide : (60 : Nat) ≠ 23) (by decide : (59 : Nat) ≠ 23) (by decide : (58 : Nat) ≠ 23) (by decide : (56 : Nat) ≠ 23) (by decide : (25 : Nat) ≠ 23) (by decide : (24 : Nat) ≠ 23)))).trans (zn7 (by decide : (67 : Nat) ≠ 24) (by decide : (60 : Nat) ≠ 24) (by decide : (59 : Nat) ≠ 24) (by decide : (58 : Nat) ≠ 24) (by decide : (56 : Nat) ≠ 24) (by decide : (25 : Nat) ≠ 24)))).trans (zn6 (by decide : (67 : Nat) ≠ 25) (by decide : (60 : Nat) ≠ 25) (by decide : (59 : Nat) ≠ 25) (by decide : (58 : Nat) ≠ 25) (by decide : (56 : Nat) ≠ 25)))).trans (zn5 (by decide : (67 : Nat) ≠ 56) (by decide : (60 : Nat) ≠ 56) (by decide : (59 : Nat) ≠ 56) (by decide : (58 : Nat) ≠ 56)))).trans (zn4 (by decide : (67 : Nat) ≠ 58) (by decide : (60 : Nat) ≠ 58) (by decide : (59 : Nat) ≠ 58)))).trans (zn3 (by decide : (67 : Nat) ≠ 59) (by decide : (60 : Nat) ≠ 59)))).trans (zn2 (by decide : (67 : Nat) ≠ 60)))).trans (zn16 (by decide : (180 : Nat) ≠ 128) (by decide : (179 : Nat) ≠ 128) (by decide : (178 : Nat) ≠ 128) (by decide : (177 : Nat) ≠ 128) (by decide : (176 : Nat) ≠ 128) (by decide : (174 : Nat) ≠ 128) (by decide : (173 : Nat) ≠ 128) (by decide : (172 : Nat) ≠ 128) (by decide : (171 : Nat) ≠ 128) (by decide : (170 : Nat) ≠ 128) (by decide : (169 : Nat) ≠ 128) (by decide : (168 : Nat) ≠ 128) (by decide : (167 : Nat) ≠ 128) (by decide : (166 : Nat) ≠ 128) (by decide : (165 : Nat) ≠ 128)))).trans (zn15 (by decide : (180 : Nat) ≠ 165) (by decide : (179 : Nat) ≠ 165) (by decide : (178 : Nat) ≠ 165) (by decide : (177 : Nat) ≠ 165) (by decide : (176 : Nat) ≠ 165) (by decide : (174 : Nat) ≠ 165) (by decide : (173 : Nat) ≠ 165) (by decide : (172 : Nat) ≠ 165) (by decide : (171 : Nat) ≠ 165) (by decide : (170 : Nat) ≠ 165) (by decide : (169 : Nat) ≠ 165) (by decide : (168 : Nat) ≠ 165) (by decide : (167 : Nat) ≠ 165) (by decide : (166 : Nat) ≠ 165)))).trans (zn14 (by decide : (180 : Nat) ≠ 166) (by decide : (179 : Nat) ≠ 166) (by decide : (178 : Nat) ≠ 166) (by decide : (177 : Nat) ≠ 166) (by decide : (176 : Nat) ≠ 166) (by decide : (174 : Nat) ≠ 166) (by decide : (173 : Nat) ≠ 166) (by decide : (172 : Nat) ≠ 166) (by decide : (171 : Nat) ≠ 166) (by decide : (170 : Nat) ≠ 166) (by decide : (169 : Nat) ≠ 166) (by decide : (168 : Nat) ≠ 166) (by decide : (167 : Nat) ≠ 166)))).trans (zn13 (by decide : (180 : Nat) ≠ 167) (by decide : (179 : Nat) ≠ 167) (by decide : (178 : Nat) ≠ 167) (by decide : (177 : Nat) ≠ 167) (by decide : (176 : Nat) ≠ 167) (by decide : (174 : Nat) ≠ 167) (by decide : (173 : Nat) ≠ 167) (by decide : (172 : Nat) ≠ 167) (by decide : (171 : Nat) ≠ 167) (by decide : (170 : Nat) ≠ 167) (by decide : (169 : Nat) ≠ 167) (by decide : (168 : Nat) ≠ 167)))).trans (zn12 (by decide : (180 : Nat) ≠ 168) (by decide : (179 : Nat) ≠ 168) (by decide : (178 : Nat) ≠ 168) (by decide : (177 : Nat) ≠ 168) (by decide : (176 : Nat) ≠ 168) (by decide : (174 : Nat) ≠ 168) (by decide : (173 : Nat) ≠ 168) (by decide : (172 : Nat) ≠ 168) (by decide : (171 : Nat) ≠ 168) (by decide : (170 : Nat) ≠ 168) (by decide : (169 : Nat) ≠ 168)))).trans (zn11 (by decide : (180 : Nat) ≠ 169) (by decide : (179 : Nat) ≠ 169) (by decide : (178 : Nat) ≠ 169) (by decide : (177 : Nat) ≠ 169) (by decide : (176 : Nat) ≠ 169) (by decide : (174 : Nat) ≠ 169) (by decide : (173 : Nat) ≠ 169) (by decide : (172 : Nat) ≠ 169) (by decide : (171 : Nat) ≠ 169) (by decide : (170 : Nat) ≠ 169)))).trans (zn10 (by decide : (180 : Nat) ≠ 170) (by decide : (179 : Nat) ≠ 170) (by decide : (178 : Nat) ≠ 170) (by decide : (177 : Nat) ≠ 170) (by decide : (176 : Nat) ≠ 170) (by decide : (174 : Nat) ≠ 170) (by decide : (173 : Nat) ≠ 170) (by decide : (172 : Nat) ≠ 170) (by decide : (171 : Nat) ≠ 170)))).trans (zn9 (by decide : (180 : Nat) ≠ 171) (by decide : (179 : Nat) ≠ 171) (by decide : (178 : Nat) ≠ 171) (by decide : (177 : Nat) ≠ 171) (by decide : (176 : Nat) ≠ 171) (by decide : (174 : Nat) ≠ 171) (by decide : (173 : Nat) ≠ 171) (by decide : (172 : Nat) ≠ 171)))).trans (zn8 (by decide : (180 : Nat) ≠ 172) (by decide : (179 : Nat) ≠ 172) (by decide : (178 : Nat) ≠ 172) (by decide : (177 : Nat) ≠ 172) (by decide : (176 : Nat) ≠ 172) (by decide : (174 : Nat) ≠ 172) (by decide : (173 : Nat) ≠ 172)))).trans (zn7 (by decide : (180 : Nat) ≠ 173) (by decide : (179 : Nat) ≠ 173) (by decide : (178 : Nat) ≠ 173) (by decide : (177 : Nat) ≠ 173) (by decide : (176 : Nat) ≠ 173) (by decide : (174 : Nat) ≠ 173)))).trans (zn6 (by decide : (180 : Nat) ≠ 174) (by decide : (179 : Nat) ≠ 174) (by decide : (178 : Nat) ≠ 174) (by decide : (177 : Nat) ≠ 174) (by decide : (176 : Nat) ≠ 174))) rfl) ?_
      refine zb_if_ne E dX12_writ_29 (tgt := 34) rfl (fun hc => ?_) (fun hc => ?_)
      · have h := if_f h hc
        refine zb_aload_n E dX12_writ_34 0 rfl rfl ?_
        refine zb_iconst E dX12_writ_35 (v := 1) rfl ?_
        refine zb_iconst E dX12_writ_36 (v := 0) rfl ?_
        refine zb_iload_n E dX12_writ_37 1 rfl rfl ?_
        refine zb_iconst E dX12_writ_38 (v := 0) rfl ?_
        obtain ⟨rc3, v_acts_c3, v_actKind_c3, v_actNumber_c3, v_actShire_c3, v_actTerm_c3, v_voidAt_c3, hc_39, h⟩ := bd7_s h
        refine zb_cVi E [.int 1, .int 0, .int a1, .int 0] 128 zy_X12_act zw_1676 (by decide) (zF_128 _ _ _ _) rfl (c_X12_act (va_up (va_up (va_up (va_up (va_up (va_up (va_up (va_up (va_up (va_up (va_up (va_up (va_up (I 128) 18 v_taped_c2) 19 v_at_c2) 20 v_end_c2) 21 v_ended_c2) 22 v_bad_c2) 23 v_badPlace_c2) 24 v_fault_c2) 25 v_faultPlace_c2) 56 v_coded_c2) 58 v_waits_c2) 59 v_open_c2) 60 v_base_c2) 67 v_acts) rfl v_acts rfl v_actKind rfl v_actNumber rfl v_actShire rfl v_actTerm rfl v_voidAt rfl hc_39) (by decide) rfl rfl (by first | decide | simp [Value.category]) dX12_writ_39 (cs2 := (0, 0)) rfl ?_
        refine zb_S (S2 := ((va_up (va_up (va_up (va_up (va_up (va_up (va_up (va_up (va_up (va_up (va_up (va_up (va_up (va_up (va_up (va_up I 128 (va_up (va_up (va_up (va_up (va_up (va_up (va_up (va_up (va_up (va_up (va_up (va_up (va_up (I 128) 18 v_taped_c2) 19 v_at_c2) 20 v_end_c2) 21 v_ended_c2) 22 v_bad_c2) 23 v_badPlace_c2) 24 v_fault_c2) 25 v_faultPlace_c2) 56 v_coded_c2) 58 v_waits_c2) 59 v_open_c2) 60 v_base_c2) 67 v_acts_c3)) 165 v_many_c2) 166 v_sort_c2) 167 v_isBlanched_c2) 168 v_first_c2) 169 v_second_c2) 170 v_sumFrom_c2) 171 v_sumEnd_c2) 172 v_testEnd_c2) 173 v_codes_c2) 174 v_wait_c2) 176 v_actKind_c3) 177 v_actTerm_c3) 178 v_actShire_c3) 179 v_actNumber_c3) 180 v_voidAt_c3), J, Rr, D)) (zS_eq ((zcgF ((zcgF ((zcgF ((zcgF ((zcgF ((zcgV zn1).trans (zn16 (by decide : (180 : Nat) ≠ 128) (by decide : (179 : Nat) ≠ 128) (by decide : (178 : Nat) ≠ 128) (by decide : (177 : Nat) ≠ 128) (by decide : (176 : Nat) ≠ 128) (by decide : (174 : Nat) ≠ 128) (by decide : (173 : Nat) ≠ 128) (by decide : (172 : Nat) ≠ 128) (by decide : (171 : Nat) ≠ 128) (by decide : (170 : Nat) ≠ 128) (by decide : (169 : Nat) ≠ 128) (by decide : (168 : Nat) ≠ 128) (by decide : (167 : Nat) ≠ 128) (by decide : (166 : Nat) ≠ 128) (by decide : (165 : Nat) ≠ 128)))).trans (zn5 (by decide : (180 : Nat) ≠ 176) (by decide : (179 : Nat) ≠ 176) (by decide : (178 : Nat) ≠ 176) (by decide : (177 : Nat) ≠ 176)))).trans (zn4 (by decide : (180 : Nat) ≠ 177) (by decide : (179 : Nat) ≠ 177) (by decide : (178 : Nat) ≠ 177)))).trans (zn3 (by decide : (180 : Nat) ≠ 178) (by decide : (179 : Nat) ≠ 178)))).trans (zn2 (by decide : (180 : Nat) ≠ 179)))).trans zn1) rfl) ?_
        refine zb_istore_n E dX12_writ_42 rfl (by decide) (lv2 := [(2, .int rc3), (0, .ref (C.X.1 + 128)), (1, .int a1)]) rfl ?_
        refine zb_aload_n E dX12_writ_43 1 rfl rfl ?_
        refine zb_iload_n E dX12_writ_44 0 rfl rfl ?_
        obtain ⟨v_codes_c4, v_first_c4, v_isBlanched_c4, v_many_c4, v_second_c4, v_sort_c4, v_sumEnd_c4, v_sumFrom_c4, v_testEnd_c4, hc_45, h⟩ := bd9_s h
        refine zb_cVv E [.int rc3] 128 zy_X12_copies zw_1680 (by decide) (zF_128 _ _ _ _) rfl (c_X12_copies v_coded_c2 rfl v_codes_c2 rfl v_first_c2 rfl v_isBlanched_c2 rfl v_many_c2 rfl v_second_c2 rfl v_sort_c2 rfl v_sumEnd_c2 rfl v_sumFrom_c2 rfl v_testEnd_c2 rfl hc_45) (by decide) rfl rfl (by first | decide | simp [Value.category]) dX12_writ_45 (cs2 := (0, 0)) rfl ?_
        refine zb_S (S2 := ((va_up (va_up (va_up (va_up (va_up (va_up (va_up (va_up (va_up (va_up (va_up (va_up (va_up (va_up (va_up (va_up I 128 (va_up (va_up (va_up (va_up (va_up (va_up (va_up (va_up (va_up (va_up (va_up (va_up (va_up (I 128) 18 v_taped_c2) 19 v_at_c2) 20 v_end_c2) 21 v_ended_c2) 22 v_bad_c2) 23 v_badPlace_c2) 24 v_fault_c2) 25 v_faultPlace_c2) 56 v_coded_c2) 58 v_waits_c2) 59 v_open_c2) 60 v_base_c2) 67 v_acts_c3)) 165 v_many_c4) 166 v_sort_c4) 167 v_isBlanched_c4) 168 v_first_c4) 169 v_second_c4) 170 v_sumFrom_c4) 171 v_sumEnd_c4) 172 v_testEnd_c4) 173 v_codes_c4) 174 v_wait_c2) 176 v_actKind_c3) 177 v_actTerm_c3) 178 v_actShire_c3) 179 v_actNumber_c3) 180 v_voidAt_c3), J, Rr, D)) (zS_eq ((zcgF ((zcgF ((zcgF ((zcgF ((zcgF ((zcgF ((zcgF ((zcgF (zn15 (by decide : (180 : Nat) ≠ 165) (by decide : (179 : Nat) ≠ 165) (by decide : (178 : Nat) ≠ 165) (by decide : (177 : Nat) ≠ 165) (by decide : (176 : Nat) ≠ 165) (by decide : (174 : Nat) ≠ 165) (by decide : (173 : Nat) ≠ 165) (by decide : (172 : Nat) ≠ 165) (by decide : (171 : Nat) ≠ 165) (by decide : (170 : Nat) ≠ 165) (by decide : (169 : Nat) ≠ 165) (by decide : (168 : Nat) ≠ 165) (by decide : (167 : Nat) ≠ 165) (by decide : (166 : Nat) ≠ 165))).trans (zn14 (by decide : (180 : Nat) ≠ 166) (by decide : (179 : Nat) ≠ 166) (by decide : (178 : Nat) ≠ 166) (by decide : (177 : Nat) ≠ 166) (by decide : (176 : Nat) ≠ 166) (by decide : (174 : Nat) ≠ 166) (by decide : (173 : Nat) ≠ 166) (by decide : (172 : Nat) ≠ 166) (by decide : (171 : Nat) ≠ 166) (by decide : (170 : Nat) ≠ 166) (by decide : (169 : Nat) ≠ 166) (by decide : (168 : Nat) ≠ 166) (by decide : (167 : Nat) ≠ 166)))).trans (zn13 (by decide : (180 : Nat) ≠ 167) (by decide : (179 : Nat) ≠ 167) (by decide : (178 : Nat) ≠ 167) (by decide : (177 : Nat) ≠ 167) (by decide : (176 : Nat) ≠ 167) (by decide : (174 : Nat) ≠ 167) (by decide : (173 : Nat) ≠ 167) (by decide : (172 : Nat) ≠ 167) (by decide : (171 : Nat) ≠ 167) (by decide : (170 : Nat) ≠ 167) (by decide : (169 : Nat) ≠ 167) (by decide : (168 : Nat) ≠ 167)))).trans (zn12 (by decide : (180 : Nat) ≠ 168) (by decide : (179 : Nat) ≠ 168) (by decide : (178 : Nat) ≠ 168) (by decide : (177 : Nat) ≠ 168) (by decide : (176 : Nat) ≠ 168) (by decide : (174 : Nat) ≠ 168) (by decide : (173 : Nat) ≠ 168) (by decide : (172 : Nat) ≠ 168) (by decide : (171 : Nat) ≠ 168) (by decide : (170 : Nat) ≠ 168) (by decide : (169 : Nat) ≠ 168)))).trans (zn11 (by decide : (180 : Nat) ≠ 169) (by decide : (179 : Nat) ≠ 169) (by decide : (178 : Nat) ≠ 169) (by decide : (177 : Nat) ≠ 169) (by decide : (176 : Nat) ≠ 169) (by decide : (174 : Nat) ≠ 169) (by decide : (173 : Nat) ≠ 169) (by decide : (172 : Nat) ≠ 169) (by decide : (171 : Nat) ≠ 169) (by decide : (170 : Nat) ≠ 169)))).trans (zn10 (by decide : (180 : Nat) ≠ 170) (by decide : (179 : Nat) ≠ 170) (by decide : (178 : Nat) ≠ 170) (by decide : (177 : Nat) ≠ 170) (by decide : (176 : Nat) ≠ 170) (by decide : (174 : Nat) ≠ 170) (by decide : (173 : Nat) ≠ 170) (by decide : (172 : Nat) ≠ 170) (by decide : (171 : Nat) ≠ 170)))).trans (zn9 (by decide : (180 : Nat) ≠ 171) (by decide : (179 : Nat) ≠ 171) (by decide : (178 : Nat) ≠ 171) (by decide : (177 : Nat) ≠ 171) (by decide : (176 : Nat) ≠ 171) (by decide : (174 : Nat) ≠ 171) (by decide : (173 : Nat) ≠ 171) (by decide : (172 : Nat) ≠ 171)))).trans (zn8 (by decide : (180 : Nat) ≠ 172) (by decide : (179 : Nat) ≠ 172) (by decide : (178 : Nat) ≠ 172) (by decide : (177 : Nat) ≠ 172) (by decide : (176 : Nat) ≠ 172) (by decide : (174 : Nat) ≠ 172) (by decide : (173 : Nat) ≠ 172)))).trans (zn7 (by decide : (180 : Nat) ≠ 173) (by decide : (179 : Nat) ≠ 173) (by decide : (178 : Nat) ≠ 173) (by decide : (177 : Nat) ≠ 173) (by decide : (176 : Nat) ≠ 173) (by decide : (174 : Nat) ≠ 173))) rfl) ?_
        refine zb_iload_n E dX12_writ_48 0 rfl rfl ?_
        obtain ⟨rfl, rfl, rfl, rfl, rfl, rfl, rfl, rfl, rfl, rfl, rfl, rfl, rfl, rfl, rfl, rfl, rfl, rfl, rfl, rfl, rfl, rfl, rfl, rfl, rfl, rfl, rfl, rfl, rfl⟩ := zinj29 h
        exact zb_iret E hQ rfl ⟨Nat.zero_le _, Nat.zero_le _⟩ dX12_writ_49
      · have h := if_t h hc
        refine zb_iconst E dX12_writ_32 (v := (-1)) rfl ?_
        obtain ⟨rfl, rfl, rfl, rfl, rfl, rfl, rfl, rfl, rfl, rfl, rfl, rfl, rfl, rfl, rfl, rfl, rfl, rfl, rfl, rfl, rfl, rfl, rfl, rfl, rfl, rfl, rfl, rfl, rfl⟩ := zinj29 h
        exact zb_iret E hQ rfl ⟨Nat.zero_le _, Nat.zero_le _⟩ dX12_writ_33
    · have h := if_t h hc
      refine zb_sub [0] rfl ?_
      exact c_X12_writ_b17 N a1 v_allWord e_v_allWord v_allowWord e_v_allowWord v_andWord e_v_andWord v_blanchedWord e_v_blanchedWord v_debtWord e_v_debtWord v_farmWord e_v_farmWord v_forWord e_v_forWord v_inWord e_v_inWord v_maxWord e_v_maxWord v_minWord e_v_minWord v_notWord e_v_notWord v_orWord e_v_orWord v_paidWord e_v_paidWord v_pardonWord e_v_pardonWord v_penceWord e_v_penceWord v_poundsWord e_v_poundsWord v_shillingsWord e_v_shillingsWord v_shireWord e_v_shireWord v_splitWord e_v_splitWord v_tape e_v_tape v_termWord e_v_termWord v_yearWord e_v_yearWord rr y_v_acts y_v_at y_v_bad y_v_badPlace y_v_base y_v_coded y_v_end y_v_ended y_v_fault y_v_faultPlace y_v_open y_v_taped y_v_waits y_v_actKind y_v_actNumber y_v_actShire y_v_actTerm y_v_codes y_v_first y_v_isBlanched y_v_many y_v_second y_v_sort y_v_sumEnd y_v_sumFrom y_v_testEnd y_v_voidAt y_v_wait E hQ v_acts v_at v_bad v_badPlace v_base v_coded v_end v_ended v_fault v_faultPlace v_open v_taped v_waits v_actKind v_actNumber v_actShire v_actTerm v_codes v_first v_isBlanched v_many v_second v_sort v_sumEnd v_sumFrom v_testEnd v_voidAt v_wait h
theorem c_X12_writ {l : Launch} {X : zX} {I : Nat → Nat → Int32} {J : Nat → Nat → Int64} {Rr : Nat → Nat → Option Nat} {D : zD} {N : Nat} {a1 : Int32} (oI128 : Nat → Int32) (eoI128 : I 128 = oI128) (v_allWord : (Nat → Int32)) (e_v_allWord : I 154 = v_allWord) (v_allowWord : (Nat → Int32)) (e_v_allowWord : I 146 = v_allowWord) (v_andWord : (Nat → Int32)) (e_v_andWord : I 152 = v_andWord) (v_blanchedWord : (Nat → Int32)) (e_v_blanchedWord : I 145 = v_blanchedWord) (v_debtWord : (Nat → Int32)) (e_v_debtWord : I 161 = v_debtWord) (v_farmWord : (Nat → Int32)) (e_v_farmWord : I 144 = v_farmWord) (v_forWord : (Nat → Int32)) (e_v_forWord : I 150 = v_forWord) (v_inWord : (Nat → Int32)) (e_v_inWord : I 149 = v_inWord) (v_maxWord : (Nat → Int32)) (e_v_maxWord : I 164 = v_maxWord) (v_minWord : (Nat → Int32)) (e_v_minWord : I 163 = v_minWord) (v_notWord : (Nat → Int32)) (e_v_notWord : I 153 = v_notWord) (v_orWord : (Nat → Int32)) (e_v_orWord : I 151 = v_orWord) (v_paidWord : (Nat → Int32)) (e_v_paidWord : I 162 = v_paidWord) (v_pardonWord : (Nat → Int32)) (e_v_pardonWord : I 147 = v_pardonWord) (v_penceWord : (Nat → Int32)) (e_v_penceWord : I 156 = v_penceWord) (v_poundsWord : (Nat → Int32)) (e_v_poundsWord : I 158 = v_poundsWord) (v_shillingsWord : (Nat → Int32)) (e_v_shillingsWord : I 157 = v_shillingsWord) (v_shireWord : (Nat → Int32)) (e_v_shireWord : I 155 = v_shireWord) (v_splitWord : (Nat → Int32)) (e_v_splitWord : I 148 = v_splitWord) (v_tape : (Nat → Int32)) (e_v_tape : I 143 = v_tape) (v_termWord : (Nat → Int32)) (e_v_termWord : I 159 = v_termWord) (v_yearWord : (Nat → Int32)) (e_v_yearWord : I 160 = v_yearWord) (v_acts : Int32) (e_v_acts : I 128 67 = v_acts) (v_at : Int32) (e_v_at : I 128 19 = v_at) (v_bad : Int32) (e_v_bad : I 128 22 = v_bad) (v_badPlace : Int32) (e_v_badPlace : I 128 23 = v_badPlace) (v_base : Int32) (e_v_base : I 128 60 = v_base) (v_coded : Int32) (e_v_coded : I 128 56 = v_coded) (v_end : Int32) (e_v_end : I 128 20 = v_end) (v_ended : Int32) (e_v_ended : I 128 21 = v_ended) (v_fault : Int32) (e_v_fault : I 128 24 = v_fault) (v_faultPlace : Int32) (e_v_faultPlace : I 128 25 = v_faultPlace) (v_open : Int32) (e_v_open : I 128 59 = v_open) (v_taped : Int32) (e_v_taped : I 128 18 = v_taped) (v_waits : Int32) (e_v_waits : I 128 58 = v_waits) (v_actKind : (Nat → Int32)) (e_v_actKind : I 176 = v_actKind) (v_actNumber : (Nat → Int32)) (e_v_actNumber : I 179 = v_actNumber) (v_actShire : (Nat → Int32)) (e_v_actShire : I 178 = v_actShire) (v_actTerm : (Nat → Int32)) (e_v_actTerm : I 177 = v_actTerm) (v_codes : (Nat → Int32)) (e_v_codes : I 173 = v_codes) (v_first : (Nat → Int32)) (e_v_first : I 168 = v_first) (v_isBlanched : (Nat → Int32)) (e_v_isBlanched : I 167 = v_isBlanched) (v_many : (Nat → Int32)) (e_v_many : I 165 = v_many) (v_second : (Nat → Int32)) (e_v_second : I 169 = v_second) (v_sort : (Nat → Int32)) (e_v_sort : I 166 = v_sort) (v_sumEnd : (Nat → Int32)) (e_v_sumEnd : I 171 = v_sumEnd) (v_sumFrom : (Nat → Int32)) (e_v_sumFrom : I 170 = v_sumFrom) (v_testEnd : (Nat → Int32)) (e_v_testEnd : I 172 = v_testEnd) (v_voidAt : (Nat → Int32)) (e_v_voidAt : I 180 = v_voidAt) (v_wait : (Nat → Int32)) (e_v_wait : I 174 = v_wait) {rr : Int32} {y_v_acts : Int32} {y_v_at : Int32} {y_v_bad : Int32} {y_v_badPlace : Int32} {y_v_base : Int32} {y_v_coded : Int32} {y_v_end : Int32} {y_v_ended : Int32} {y_v_fault : Int32} {y_v_faultPlace : Int32} {y_v_open : Int32} {y_v_taped : Int32} {y_v_waits : Int32} {y_v_actKind : (Nat → Int32)} {y_v_actNumber : (Nat → Int32)} {y_v_actShire : (Nat → Int32)} {y_v_actTerm : (Nat → Int32)} {y_v_codes : (Nat → Int32)} {y_v_first : (Nat → Int32)} {y_v_isBlanched : (Nat → Int32)} {y_v_many : (Nat → Int32)} {y_v_second : (Nat → Int32)} {y_v_sort : (Nat → Int32)} {y_v_sumEnd : (Nat → Int32)} {y_v_sumFrom : (Nat → Int32)} {y_v_testEnd : (Nat → Int32)} {y_v_voidAt : (Nat → Int32)} {y_v_wait : (Nat → Int32)} (h : pM_writ N a1 v_acts v_at v_bad v_badPlace v_base v_coded v_end v_ended v_fault v_faultPlace v_open v_taped v_waits v_actKind v_actNumber v_actShire v_actTerm v_allWord v_allowWord v_andWord v_blanchedWord v_codes v_debtWord v_farmWord v_first v_forWord v_inWord v_isBlanched v_many v_maxWord v_minWord v_notWord v_orWord v_paidWord v_pardonWord v_penceWord v_poundsWord v_second v_shillingsWord v_shireWord v_sort v_splitWord v_sumEnd v_sumFrom v_tape v_termWord v_testEnd v_voidAt v_wait v_yearWord = some (rr, y_v_acts, y_v_at, y_v_bad, y_v_badPlace, y_v_base, y_v_coded, y_v_end, y_v_ended, y_v_fault, y_v_faultPlace, y_v_open, y_v_taped, y_v_waits, y_v_actKind, y_v_actNumber, y_v_actShire, y_v_actTerm, y_v_codes, y_v_first, y_v_isBlanched, y_v_many, y_v_second, y_v_sort, y_v_sumEnd, y_v_sumFrom, y_v_testEnd, y_v_voidAt, y_v_wait)) : zMi l yX12_writ cX12_writ 3 (some .int) ({ frames := 10, cells := 0, slots := 0, locals := 216 } : Room) X [.ref (X.1 + 128), .int a1] (I, J, Rr, D) rr ((va_up (va_up (va_up (va_up (va_up (va_up (va_up (va_up (va_up (va_up (va_up (va_up (va_up (va_up (va_up (va_up I 128 (va_up (va_up (va_up (va_up (va_up (va_up (va_up (va_up (va_up (va_up (va_up (va_up (va_up oI128 18 y_v_taped) 19 y_v_at) 20 y_v_end) 21 y_v_ended) 22 y_v_bad) 23 y_v_badPlace) 24 y_v_fault) 25 y_v_faultPlace) 56 y_v_coded) 58 y_v_waits) 59 y_v_open) 60 y_v_base) 67 y_v_acts)) 165 y_v_many) 166 y_v_sort) 167 y_v_isBlanched) 168 y_v_first) 169 y_v_second) 170 y_v_sumFrom) 171 y_v_sumEnd) 172 y_v_testEnd) 173 y_v_codes) 174 y_v_wait) 176 y_v_actKind) 177 y_v_actTerm) 178 y_v_actShire) 179 y_v_actNumber) 180 y_v_voidAt), J, Rr, D) := by
  subst eoI128
  refine zMi.of (by decide) (Nat.le_of_ble_eq_true rfl) (fun C E hl hX hQ => ?_)
  subst hl
  subst hX
  have eI0 : (va_up (va_up (va_up (va_up (va_up (va_up (va_up (va_up (va_up (va_up (va_up (va_up (va_up (va_up (va_up (va_up I 128 (va_up (va_up (va_up (va_up (va_up (va_up (va_up (va_up (va_up (va_up (va_up (va_up (va_up (I 128) 18 v_taped) 19 v_at) 20 v_end) 21 v_ended) 22 v_bad) 23 v_badPlace) 24 v_fault) 25 v_faultPlace) 56 v_coded) 58 v_waits) 59 v_open) 60 v_base) 67 v_acts)) 165 v_many) 166 v_sort) 167 v_isBlanched) 168 v_first) 169 v_second) 170 v_sumFrom) 171 v_sumEnd) 172 v_testEnd) 173 v_codes) 174 v_wait) 176 v_actKind) 177 v_actTerm) 178 v_actShire) 179 v_actNumber) 180 v_voidAt) = I := by rw [zup_idE e_v_taped, zup_idE e_v_at, zup_idE e_v_end, zup_idE e_v_ended, zup_idE e_v_bad, zup_idE e_v_badPlace, zup_idE e_v_fault, zup_idE e_v_faultPlace, zup_idE e_v_coded, zup_idE e_v_waits, zup_idE e_v_open, zup_idE e_v_base, zup_idE e_v_acts, zup_id, zup_idE e_v_many, zup_idE e_v_sort, zup_idE e_v_isBlanched, zup_idE e_v_first, zup_idE e_v_second, zup_idE e_v_sumFrom, zup_idE e_v_sumEnd, zup_idE e_v_testEnd, zup_idE e_v_codes, zup_idE e_v_wait, zup_idE e_v_actKind, zup_idE e_v_actTerm, zup_idE e_v_actShire, zup_idE e_v_actNumber, zup_idE e_v_voidAt]
  have eJ0 : J = J := rfl
  refine zb_S (S2 := ((va_up (va_up (va_up (va_up (va_up (va_up (va_up (va_up (va_up (va_up (va_up (va_up (va_up (va_up (va_up (va_up I 128 (va_up (va_up (va_up (va_up (va_up (va_up (va_up (va_up (va_up (va_up (va_up (va_up (va_up (I 128) 18 v_taped) 19 v_at) 20 v_end) 21 v_ended) 22 v_bad) 23 v_badPlace) 24 v_fault) 25 v_faultPlace) 56 v_coded) 58 v_waits) 59 v_open) 60 v_base) 67 v_acts)) 165 v_many) 166 v_sort) 167 v_isBlanched) 168 v_first) 169 v_second) 170 v_sumFrom) 171 v_sumEnd) 172 v_testEnd) 173 v_codes) 174 v_wait) 176 v_actKind) 177 v_actTerm) 178 v_actShire) 179 v_actNumber) 180 v_voidAt), J, Rr, D)) (zS_eq eI0.symm eJ0.symm) ?_
  exact c_X12_writ_0 N a1 v_allWord e_v_allWord v_allowWord e_v_allowWord v_andWord e_v_andWord v_blanchedWord e_v_blanchedWord v_debtWord e_v_debtWord v_farmWord e_v_farmWord v_forWord e_v_forWord v_inWord e_v_inWord v_maxWord e_v_maxWord v_minWord e_v_minWord v_notWord e_v_notWord v_orWord e_v_orWord v_paidWord e_v_paidWord v_pardonWord e_v_pardonWord v_penceWord e_v_penceWord v_poundsWord e_v_poundsWord v_shillingsWord e_v_shillingsWord v_shireWord e_v_shireWord v_splitWord e_v_splitWord v_tape e_v_tape v_termWord e_v_termWord v_yearWord e_v_yearWord rr y_v_acts y_v_at y_v_bad y_v_badPlace y_v_base y_v_coded y_v_end y_v_ended y_v_fault y_v_faultPlace y_v_open y_v_taped y_v_waits y_v_actKind y_v_actNumber y_v_actShire y_v_actTerm y_v_codes y_v_first y_v_isBlanched y_v_many y_v_second y_v_sort y_v_sumEnd y_v_sumFrom y_v_testEnd y_v_voidAt y_v_wait E hQ v_acts v_at v_bad v_badPlace v_base v_coded v_end v_ended v_fault v_faultPlace v_open v_taped v_waits v_actKind v_actNumber v_actShire v_actTerm v_codes v_first v_isBlanched v_many v_second v_sort v_sumEnd v_sumFrom v_testEnd v_voidAt v_wait h
-- ChequeredClothModel.fault
theorem dX12_fault_0 : decode cX12_fault 0 = .ok (.iload_n 1, 1) := by decide +kernel
theorem dX12_fault_1 : decode cX12_fault 1 = .ok (.ifCond .ne 10, 3) := by decide +kernel
theorem dX12_fault_4 : decode cX12_fault 4 = .ok (.aload_n 0, 1) := by decide +kernel
theorem dX12_fault_5 : decode cX12_fault 5 = .ok (.getfield 389, 3) := by decide +kernel
theorem dX12_fault_8 : decode cX12_fault 8 = .ok (.goto 16, 3) := by decide +kernel
theorem dX12_fault_11 : decode cX12_fault 11 = .ok (.iload_n 1, 1) := by decide +kernel
theorem dX12_fault_12 : decode cX12_fault 12 = .ok (.iconst 1, 1) := by decide +kernel
theorem dX12_fault_13 : decode cX12_fault 13 = .ok (.if_icmp .ne 10, 3) := by decide +kernel
theorem dX12_fault_16 : decode cX12_fault 16 = .ok (.aload_n 0, 1) := by decide +kernel
theorem dX12_fault_17 : decode cX12_fault 17 = .ok (.getfield 66, 3) := by decide +kernel
theorem dX12_fault_20 : decode cX12_fault 20 = .ok (.goto 4, 3) := by decide +kernel
theorem dX12_fault_23 : decode cX12_fault 23 = .ok (.iconst (-1), 1) := by decide +kernel
theorem dX12_fault_24 : decode cX12_fault 24 = .ok (.ireturn, 1) := by decide +kernel
theorem zy_X12_fault : zYv yX12_fault cX12_fault 2 (some .int) 1 := ⟨zw_1685, zw_1686, zw_12, zw_1687, by decide, by decide, by decide⟩
theorem c_X12_fault_0 {C : zC} {I : Nat → Nat → Int32} {J : Nat → Nat → Int64} {Rr : Nat → Nat → Option Nat} {D : zD} (a1 : Int32) (v_fault : Int32) (e_v_fault : I 128 24 = v_fault) (v_faultPlace : Int32) (e_v_faultPlace : I 128 25 = v_faultPlace) (rr : Int32) (E : zE C RX12 cX12_fault 2 (some .int) ({ frames := 0, cells := 0, slots := 0, locals := 0 } : Room)) (hQ : C.Q = zQi C ({ frames := 0, cells := 0, slots := 0, locals := 0 } : Room) rr (I, J, Rr, D)) (h : pM_fault a1 v_fault v_faultPlace = some rr) : zB C (0, 0) 0 [(0, .ref (C.X.1 + 128)), (1, .int a1)] [] (I, J, Rr, D) := by
  refine zb_iload_n E dX12_fault_0 1 rfl rfl ?_
  refine zb_if_ne E dX12_fault_1 (tgt := 11) rfl (fun hc => ?_) (fun hc => ?_)
  · have h := if_f h hc
    refine zb_iload_n E dX12_fault_11 1 rfl rfl ?_
    refine zb_iconst E dX12_fault_12 (v := 1) rfl ?_
    refine zb_icmp_ne E dX12_fault_13 (tgt := 23) rfl (fun hc => ?_) (fun hc => ?_)
    · have h := if_f h hc
      refine zb_iconst E dX12_fault_23 (v := (-1)) rfl ?_
      obtain rfl := zinj1 h
      exact zb_iret E hQ rfl ⟨Nat.zero_le _, Nat.zero_le _⟩ dX12_fault_24
    · have h := if_t h hc
      refine zb_aload_n E dX12_fault_16 0 rfl rfl ?_
      refine zb_get E 128 (by decide) (zF_128 C.X) rfl zin12 25 (by decide) zw_1193 (v := .int v_faultPlace) (by exact congrArg (fun z => some (Value.int z)) e_v_faultPlace) dX12_fault_17 ?_
      refine zb_goto E dX12_fault_20 (tgt := 24) rfl ?_
      obtain rfl := zinj1 h
      exact zb_iret E hQ rfl ⟨Nat.zero_le _, Nat.zero_le _⟩ dX12_fault_24
  · have h := if_t h hc
    refine zb_aload_n E dX12_fault_4 0 rfl rfl ?_
    refine zb_get E 128 (by decide) (zF_128 C.X) rfl zin12 24 (by decide) zw_1192 (v := .int v_fault) (by exact congrArg (fun z => some (Value.int z)) e_v_fault) dX12_fault_5 ?_
    refine zb_goto E dX12_fault_8 (tgt := 24) rfl ?_
    obtain rfl := zinj1 h
    exact zb_iret E hQ rfl ⟨Nat.zero_le _, Nat.zero_le _⟩ dX12_fault_24
theorem c_X12_fault {l : Launch} {X : zX} {I : Nat → Nat → Int32} {J : Nat → Nat → Int64} {Rr : Nat → Nat → Option Nat} {D : zD} {a1 : Int32} (v_fault : Int32) (e_v_fault : I 128 24 = v_fault) (v_faultPlace : Int32) (e_v_faultPlace : I 128 25 = v_faultPlace) {rr : Int32} (h : pM_fault a1 v_fault v_faultPlace = some rr) : zMi l yX12_fault cX12_fault 2 (some .int) ({ frames := 0, cells := 0, slots := 0, locals := 0 } : Room) X [.ref (X.1 + 128), .int a1] (I, J, Rr, D) rr (I, J, Rr, D) := by
  refine zMi.of (by decide) (Nat.le_of_ble_eq_true rfl) (fun C E hl hX hQ => ?_)
  subst hl
  subst hX
  have eI0 : I = I := rfl
  have eJ0 : J = J := rfl
  refine zb_S (S2 := (I, J, Rr, D)) (zS_eq eI0.symm eJ0.symm) ?_
  exact c_X12_fault_0 a1 v_fault e_v_fault v_faultPlace e_v_faultPlace rr E hQ h
-- ChequeredClothModel.isPayment
theorem dX12_isPayment_0 : decode cX12_isPayment 0 = .ok (.aload_n 0, 1) := by decide +kernel
theorem dX12_isPayment_1 : decode cX12_isPayment 1 = .ok (.getfield 169, 3) := by decide +kernel
theorem dX12_isPayment_4 : decode cX12_isPayment 4 = .ok (.iload_n 1, 1) := by decide +kernel
theorem dX12_isPayment_5 : decode cX12_isPayment 5 = .ok (.iaload, 1) := by decide +kernel
theorem dX12_isPayment_6 : decode cX12_isPayment 6 = .ok (.iconst 2, 1) := by decide +kernel
theorem dX12_isPayment_7 : decode cX12_isPayment 7 = .ok (.if_icmp .eq 13, 3) := by decide +kernel
theorem dX12_isPayment_10 : decode cX12_isPayment 10 = .ok (.aload_n 0, 1) := by decide +kernel
theorem dX12_isPayment_11 : decode cX12_isPayment 11 = .ok (.getfield 169, 3) := by decide +kernel
theorem dX12_isPayment_14 : decode cX12_isPayment 14 = .ok (.iload_n 1, 1) := by decide +kernel
theorem dX12_isPayment_15 : decode cX12_isPayment 15 = .ok (.iaload, 1) := by decide +kernel
theorem dX12_isPayment_16 : decode cX12_isPayment 16 = .ok (.iconst 3, 1) := by decide +kernel
theorem dX12_isPayment_17 : decode cX12_isPayment 17 = .ok (.if_icmp .ne 7, 3) := by decide +kernel
theorem dX12_isPayment_20 : decode cX12_isPayment 20 = .ok (.iconst 1, 1) := by decide +kernel
theorem dX12_isPayment_21 : decode cX12_isPayment 21 = .ok (.goto 4, 3) := by decide +kernel
theorem dX12_isPayment_24 : decode cX12_isPayment 24 = .ok (.iconst 0, 1) := by decide +kernel
theorem dX12_isPayment_25 : decode cX12_isPayment 25 = .ok (.ireturn, 1) := by decide +kernel
theorem zy_X12_isPayment : zYv yX12_isPayment cX12_isPayment 2 (some .boolean) 1 := ⟨zw_1698, zws_84, zw_12, zw_1699, by decide, by decide, by decide⟩
theorem c_X12_isPayment_0 {C : zC} {I : Nat → Nat → Int32} {J : Nat → Nat → Int64} {Rr : Nat → Nat → Option Nat} {D : zD} (a1 : Int32) (v_actKind : (Nat → Int32)) (e_v_actKind : I 176 = v_actKind) (rr : Int32) (E : zE C RX12 cX12_isPayment 2 (some .boolean) ({ frames := 0, cells := 0, slots := 0, locals := 0 } : Room)) (hQ : C.Q = zQi C ({ frames := 0, cells := 0, slots := 0, locals := 0 } : Room) rr (I, J, Rr, D)) (h : pM_isPayment a1 v_actKind = some rr) : zB C (0, 0) 0 [(0, .ref (C.X.1 + 128)), (1, .int a1)] [] (I, J, Rr, D) := by
  refine zb_aload_n E dX12_isPayment_0 0 rfl rfl ?_
  refine zb_get E 128 (by decide) (zF_128 C.X) rfl zin12 68 (by decide) zw_1236 (v := .ref (C.X.1 + 176)) rfl dX12_isPayment_1 ?_
  refine zb_iload_n E dX12_isPayment_4 1 rfl rfl ?_
  obtain ⟨g1, h⟩ := gd_s h
  refine zb_iald E 176 (by decide) zF_176 (f := v_actKind) (by exact e_v_actKind) (ib_in g1) dX12_isPayment_5 ?_
  refine zb_iconst E dX12_isPayment_6 (v := 2) rfl ?_
  refine zb_icmp_eq E dX12_isPayment_7 (tgt := 20) rfl (fun hc => ?_) (fun hc => ?_)
  · have h := if_t h hc
    refine zb_iconst E dX12_isPayment_20 (v := 1) rfl ?_
    refine zb_goto E dX12_isPayment_21 (tgt := 25) rfl ?_
    obtain rfl := zinj1 h
    exact zb_zret E hQ (ty := .boolean) rfl rfl ⟨Nat.zero_le _, Nat.zero_le _⟩ dX12_isPayment_25
  · have h := if_f h hc
    refine zb_aload_n E dX12_isPayment_10 0 rfl rfl ?_
    refine zb_get E 128 (by decide) (zF_128 C.X) rfl zin12 68 (by decide) zw_1236 (v := .ref (C.X.1 + 176)) rfl dX12_isPayment_11 ?_
    refine zb_iload_n E dX12_isPayment_14 1 rfl rfl ?_
    refine zb_iald E 176 (by decide) zF_176 (f := v_actKind) (by exact e_v_actKind) (ib_in g1) dX12_isPayment_15 ?_
    refine zb_iconst E dX12_isPayment_16 (v := 3) rfl ?_
    refine zb_icmp_ne E dX12_isPayment_17 (tgt := 24) rfl (fun hc => ?_) (fun hc => ?_)
    · have h := if_f h hc
      refine zb_iconst E dX12_isPayment_24 (v := 0) rfl ?_
      obtain rfl := zinj1 h
      exact zb_zret E hQ (ty := .boolean) rfl rfl ⟨Nat.zero_le _, Nat.zero_le _⟩ dX12_isPayment_25
    · have h := if_t h hc
      refine zb_iconst E dX12_isPayment_20 (v := 1) rfl ?_
      refine zb_goto E dX12_isPayment_21 (tgt := 25) rfl ?_
      obtain rfl := zinj1 h
      exact zb_zret E hQ (ty := .boolean) rfl rfl ⟨Nat.zero_le _, Nat.zero_le _⟩ dX12_isPayment_25
theorem c_X12_isPayment {l : Launch} {X : zX} {I : Nat → Nat → Int32} {J : Nat → Nat → Int64} {Rr : Nat → Nat → Option Nat} {D : zD} {a1 : Int32} (v_actKind : (Nat → Int32)) (e_v_actKind : I 176 = v_actKind) {rr : Int32} (h : pM_isPayment a1 v_actKind = some rr) : zMi l yX12_isPayment cX12_isPayment 2 (some .boolean) ({ frames := 0, cells := 0, slots := 0, locals := 0 } : Room) X [.ref (X.1 + 128), .int a1] (I, J, Rr, D) rr (I, J, Rr, D) := by
  refine zMi.of (by decide) (Nat.le_of_ble_eq_true rfl) (fun C E hl hX hQ => ?_)
  subst hl
  subst hX
  have eI0 : I = I := rfl
  have eJ0 : J = J := rfl
  refine zb_S (S2 := (I, J, Rr, D)) (zS_eq eI0.symm eJ0.symm) ?_
  exact c_X12_isPayment_0 a1 v_actKind e_v_actKind rr E hQ h
-- ChequeredClothModel.mayPay
theorem dX12_mayPay_0 : decode cX12_mayPay 0 = .ok (.iconst 0, 1) := by decide +kernel
theorem dX12_mayPay_1 : decode cX12_mayPay 1 = .ok (.istore_n 3, 1) := by decide +kernel
theorem dX12_mayPay_2 : decode cX12_mayPay 2 = .ok (.iconst 1, 1) := by decide +kernel
theorem dX12_mayPay_3 : decode cX12_mayPay 3 = .ok (.istore 4, 2) := by decide +kernel
theorem dX12_mayPay_5 : decode cX12_mayPay 5 = .ok (.iload 4, 2) := by decide +kernel
theorem dX12_mayPay_7 : decode cX12_mayPay 7 = .ok (.aload_n 0, 1) := by decide +kernel
theorem dX12_mayPay_8 : decode cX12_mayPay 8 = .ok (.getfield 429, 3) := by decide +kernel
theorem dX12_mayPay_11 : decode cX12_mayPay 11 = .ok (.if_icmp .gt 21, 3) := by decide +kernel
theorem dX12_mayPay_14 : decode cX12_mayPay 14 = .ok (.aload_n 0, 1) := by decide +kernel
theorem dX12_mayPay_15 : decode cX12_mayPay 15 = .ok (.iload 4, 2) := by decide +kernel
theorem dX12_mayPay_17 : decode cX12_mayPay 17 = .ok (.invokevirtual 445, 3) := by decide +kernel
theorem dX12_mayPay_20 : decode cX12_mayPay 20 = .ok (.ifCond .eq 6, 3) := by decide +kernel
theorem dX12_mayPay_23 : decode cX12_mayPay 23 = .ok (.iinc 3 1, 3) := by decide +kernel
theorem dX12_mayPay_26 : decode cX12_mayPay 26 = .ok (.iinc 4 1, 3) := by decide +kernel
theorem dX12_mayPay_29 : decode cX12_mayPay 29 = .ok (.goto (-24), 3) := by decide +kernel
theorem dX12_mayPay_32 : decode cX12_mayPay 32 = .ok (.iload_n 1, 1) := by decide +kernel
theorem dX12_mayPay_33 : decode cX12_mayPay 33 = .ok (.invokestatic 448, 3) := by decide +kernel
theorem dX12_mayPay_36 : decode cX12_mayPay 36 = .ok (.ifCond .eq 20, 3) := by decide +kernel
theorem dX12_mayPay_39 : decode cX12_mayPay 39 = .ok (.iload_n 2, 1) := by decide +kernel
theorem dX12_mayPay_40 : decode cX12_mayPay 40 = .ok (.invokestatic 432, 3) := by decide +kernel
theorem dX12_mayPay_43 : decode cX12_mayPay 43 = .ok (.ifCond .eq 13, 3) := by decide +kernel
theorem dX12_mayPay_46 : decode cX12_mayPay 46 = .ok (.iload_n 3, 1) := by decide +kernel
theorem dX12_mayPay_47 : decode cX12_mayPay 47 = .ok (.bipush 60, 2) := by decide +kernel
theorem dX12_mayPay_49 : decode cX12_mayPay 49 = .ok (.if_icmp .ge 7, 3) := by decide +kernel
theorem dX12_mayPay_52 : decode cX12_mayPay 52 = .ok (.iconst 1, 1) := by decide +kernel
theorem dX12_mayPay_53 : decode cX12_mayPay 53 = .ok (.goto 4, 3) := by decide +kernel
theorem dX12_mayPay_56 : decode cX12_mayPay 56 = .ok (.iconst 0, 1) := by decide +kernel
theorem dX12_mayPay_57 : decode cX12_mayPay 57 = .ok (.ireturn, 1) := by decide +kernel
theorem zy_X12_mayPay : zYv yX12_mayPay cX12_mayPay 5 (some .boolean) 2 := ⟨zw_1694, zws_83, zw_12, zw_1695, by decide, by decide, by decide⟩
theorem c_X12_mayPay_b5 {C : zC} {I : Nat → Nat → Int32} {J : Nat → Nat → Int64} {Rr : Nat → Nat → Option Nat} {D : zD} (N : Nat) (a1 : Int32) (a2 : Int32) (v_acts : Int32) (e_v_acts : I 128 67 = v_acts) (v_actKind : (Nat → Int32)) (e_v_actKind : I 176 = v_actKind) (rr : Int32) (E : zE C RX12 cX12_mayPay 5 (some .boolean) ({ frames := 2, cells := 0, slots := 0, locals := 45 } : Room)) (hQ : C.Q = zQi C ({ frames := 2, cells := 0, slots := 0, locals := 45 } : Room) rr (I, J, Rr, D)) (k32 : Int32 → Option R_pM_mayPay) (hk32 : ∀ (x3 : Int32), k32 x3 = some rr → zB C (0, 0) 32 [(1, .int a1), (2, .int a2), (3, .int x3)] [] (I, J, Rr, D)) : ∀ (n9 : Nat) (x3 : Int32) (x4 : Int32), pM_mayPay_b5 N a1 a2 v_acts v_actKind k32 n9 x3 x4 = some rr → zB C (0, 0) 5 [(0, .ref (C.X.1 + 128)), (1, .int a1), (2, .int a2), (3, .int x3), (4, .int x4)] [] (I, J, Rr, D) := by
  refine zlp2_ind (P := fun (x3 : Int32) (x4 : Int32) => zB C (0, 0) 5 [(0, .ref (C.X.1 + 128)), (1, .int a1), (2, .int a2), (3, .int x3), (4, .int x4)] [] (I, J, Rr, D)) (fun self ih => ?_)
  intro x3 x4 h
  refine zb_iload E dX12_mayPay_5 4 rfl ?_
  refine zb_aload_n E dX12_mayPay_7 0 rfl rfl ?_
  refine zb_get E 128 (by decide) (zF_128 C.X) rfl zin12 67 (by decide) zw_1235 (v := .int v_acts) (by exact congrArg (fun z => some (Value.int z)) e_v_acts) dX12_mayPay_8 ?_
  refine zb_icmp_gt E dX12_mayPay_11 (tgt := 32) rfl (fun hc => ?_) (fun hc => ?_)
  · have h := if_t h hc
    refine zb_sub [1, 2, 3] rfl ?_
    exact hk32 x3 h
  · have h := if_f h hc
    refine zb_aload_n E dX12_mayPay_14 0 rfl rfl ?_
    refine zb_iload E dX12_mayPay_15 4 rfl ?_
    obtain ⟨rc1, hc_17, h⟩ := bd1_s h
    refine zb_cVi E [.int x4] 128 zy_X12_isPayment zw_1696 (by decide) (zF_128 _ _ _ _) rfl (c_X12_isPayment v_actKind (by exact e_v_actKind) hc_17) (by decide) rfl rfl (by first | decide | simp [Value.category]) dX12_mayPay_17 (cs2 := (0, 0)) rfl ?_
    refine zb_if_eq E dX12_mayPay_20 (tgt := 26) rfl (fun hc => ?_) (fun hc => ?_)
    · have h := if_t h hc
      refine zb_iinc E dX12_mayPay_26 4 rfl (v := (x4 + 1)) rfl (by decide) (lv2 := [(4, .int (x4 + 1)), (0, .ref (C.X.1 + 128)), (1, .int a1), (2, .int a2), (3, .int x3)]) rfl ?_
      refine zb_goto E dX12_mayPay_29 (tgt := 5) rfl ?_
      refine zb_sub [1, 2, 3, 4, 0] rfl ?_
      exact ih x3 (x4 + 1) h
    · have h := if_f h hc
      refine zb_iinc E dX12_mayPay_23 3 rfl (v := (x3 + 1)) rfl (by decide) (lv2 := [(3, .int (x3 + 1)), (0, .ref (C.X.1 + 128)), (1, .int a1), (2, .int a2), (4, .int x4)]) rfl ?_
      refine zb_iinc E dX12_mayPay_26 4 rfl (v := (x4 + 1)) rfl (by decide) (lv2 := [(4, .int (x4 + 1)), (3, .int (x3 + 1)), (0, .ref (C.X.1 + 128)), (1, .int a1), (2, .int a2)]) rfl ?_
      refine zb_goto E dX12_mayPay_29 (tgt := 5) rfl ?_
      refine zb_sub [2, 3, 4, 1, 0] rfl ?_
      exact ih (x3 + 1) (x4 + 1) h
theorem c_X12_mayPay_b32 {C : zC} {I : Nat → Nat → Int32} {J : Nat → Nat → Int64} {Rr : Nat → Nat → Option Nat} {D : zD} (N : Nat) (a1 : Int32) (a2 : Int32) (v_acts : Int32) (e_v_acts : I 128 67 = v_acts) (v_actKind : (Nat → Int32)) (e_v_actKind : I 176 = v_actKind) (rr : Int32) (E : zE C RX12 cX12_mayPay 5 (some .boolean) ({ frames := 2, cells := 0, slots := 0, locals := 45 } : Room)) (hQ : C.Q = zQi C ({ frames := 2, cells := 0, slots := 0, locals := 45 } : Room) rr (I, J, Rr, D)) (x3 : Int32) (h : pM_mayPay_b32 N a1 a2 v_acts v_actKind x3 = some rr) : zB C (0, 0) 32 [(1, .int a1), (2, .int a2), (3, .int x3)] [] (I, J, Rr, D) := by
  refine zb_iload_n E dX12_mayPay_32 0 rfl rfl ?_
  obtain ⟨rc2, hc_33, h⟩ := bd1_s h
  refine zb_cSi E [.int a1] zy_X12_isShire zw_1700 (c_X12_isShire hc_33) (by decide) rfl rfl (by first | decide | simp [Value.category]) dX12_mayPay_33 (cs2 := (0, 0)) rfl ?_
  refine zb_if_eq E dX12_mayPay_36 (tgt := 56) rfl (fun hc => ?_) (fun hc => ?_)
  · have h := if_t h hc
    refine zb_iconst E dX12_mayPay_56 (v := 0) rfl ?_
    obtain rfl := zinj1 h
    exact zb_zret E hQ (ty := .boolean) rfl rfl ⟨Nat.zero_le _, Nat.zero_le _⟩ dX12_mayPay_57
  · have h := if_f h hc
    refine zb_iload_n E dX12_mayPay_39 1 rfl rfl ?_
    obtain ⟨rc3, hc_40, h⟩ := bd1_s h
    refine zb_cSi E [.int a2] zy_X12_isTerm zw_1561 (c_X12_isTerm hc_40) (by decide) rfl rfl (by first | decide | simp [Value.category]) dX12_mayPay_40 (cs2 := (0, 0)) rfl ?_
    refine zb_if_eq E dX12_mayPay_43 (tgt := 56) rfl (fun hc => ?_) (fun hc => ?_)
    · have h := if_t h hc
      refine zb_iconst E dX12_mayPay_56 (v := 0) rfl ?_
      obtain rfl := zinj1 h
      exact zb_zret E hQ (ty := .boolean) rfl rfl ⟨Nat.zero_le _, Nat.zero_le _⟩ dX12_mayPay_57
    · have h := if_f h hc
      refine zb_iload_n E dX12_mayPay_46 2 rfl rfl ?_
      refine zb_bipush E dX12_mayPay_47 (v := 60) rfl ?_
      refine zb_icmp_ge E dX12_mayPay_49 (tgt := 56) rfl (fun hc => ?_) (fun hc => ?_)
      · have h := if_t h hc
        refine zb_iconst E dX12_mayPay_56 (v := 0) rfl ?_
        obtain rfl := zinj1 h
        exact zb_zret E hQ (ty := .boolean) rfl rfl ⟨Nat.zero_le _, Nat.zero_le _⟩ dX12_mayPay_57
      · have h := if_f h hc
        refine zb_iconst E dX12_mayPay_52 (v := 1) rfl ?_
        refine zb_goto E dX12_mayPay_53 (tgt := 57) rfl ?_
        obtain rfl := zinj1 h
        exact zb_zret E hQ (ty := .boolean) rfl rfl ⟨Nat.zero_le _, Nat.zero_le _⟩ dX12_mayPay_57
theorem c_X12_mayPay_0 {C : zC} {I : Nat → Nat → Int32} {J : Nat → Nat → Int64} {Rr : Nat → Nat → Option Nat} {D : zD} (N : Nat) (a1 : Int32) (a2 : Int32) (v_acts : Int32) (e_v_acts : I 128 67 = v_acts) (v_actKind : (Nat → Int32)) (e_v_actKind : I 176 = v_actKind) (rr : Int32) (E : zE C RX12 cX12_mayPay 5 (some .boolean) ({ frames := 2, cells := 0, slots := 0, locals := 45 } : Room)) (hQ : C.Q = zQi C ({ frames := 2, cells := 0, slots := 0, locals := 45 } : Room) rr (I, J, Rr, D)) (h : pM_mayPay N a1 a2 v_acts v_actKind = some rr) : zB C (0, 0) 0 [(0, .ref (C.X.1 + 128)), (1, .int a1), (2, .int a2)] [] (I, J, Rr, D) := by
  refine zb_iconst E dX12_mayPay_0 (v := 0) rfl ?_
  refine zb_istore_n E dX12_mayPay_1 rfl (by decide) (lv2 := [(3, .int 0), (0, .ref (C.X.1 + 128)), (1, .int a1), (2, .int a2)]) rfl ?_
  refine zb_iconst E dX12_mayPay_2 (v := 1) rfl ?_
  refine zb_istore E dX12_mayPay_3 (by decide) (lv2 := [(4, .int 1), (3, .int 0), (0, .ref (C.X.1 + 128)), (1, .int a1), (2, .int a2)]) rfl ?_
  refine zb_sub [2, 3, 4, 1, 0] rfl ?_
  exact c_X12_mayPay_b5 N a1 a2 v_acts e_v_acts v_actKind e_v_actKind rr E hQ _ (fun x3_z1 h => c_X12_mayPay_b32 N a1 a2 v_acts e_v_acts v_actKind e_v_actKind rr E hQ x3_z1 h) _ 0 1 h
theorem c_X12_mayPay {l : Launch} {X : zX} {I : Nat → Nat → Int32} {J : Nat → Nat → Int64} {Rr : Nat → Nat → Option Nat} {D : zD} {N : Nat} {a1 : Int32} {a2 : Int32} (v_acts : Int32) (e_v_acts : I 128 67 = v_acts) (v_actKind : (Nat → Int32)) (e_v_actKind : I 176 = v_actKind) {rr : Int32} (h : pM_mayPay N a1 a2 v_acts v_actKind = some rr) : zMi l yX12_mayPay cX12_mayPay 5 (some .boolean) ({ frames := 2, cells := 0, slots := 0, locals := 45 } : Room) X [.ref (X.1 + 128), .int a1, .int a2] (I, J, Rr, D) rr (I, J, Rr, D) := by
  refine zMi.of (by decide) (Nat.le_of_ble_eq_true rfl) (fun C E hl hX hQ => ?_)
  subst hl
  subst hX
  have eI0 : I = I := rfl
  have eJ0 : J = J := rfl
  refine zb_S (S2 := (I, J, Rr, D)) (zS_eq eI0.symm eJ0.symm) ?_
  exact c_X12_mayPay_0 N a1 a2 v_acts e_v_acts v_actKind e_v_actKind rr E hQ h
-- ChequeredClothModel.pays
theorem dX12_pays_0 : decode cX12_pays 0 = .ok (.aload_n 0, 1) := by decide +kernel
theorem dX12_pays_1 : decode cX12_pays 1 = .ok (.iload_n 1, 1) := by decide +kernel
theorem dX12_pays_2 : decode cX12_pays 2 = .ok (.iload_n 2, 1) := by decide +kernel
theorem dX12_pays_3 : decode cX12_pays 3 = .ok (.invokevirtual 451, 3) := by decide +kernel
theorem dX12_pays_6 : decode cX12_pays 6 = .ok (.ifCond .eq 26, 3) := by decide +kernel
theorem dX12_pays_9 : decode cX12_pays 9 = .ok (.iload_n 3, 1) := by decide +kernel
theorem dX12_pays_10 : decode cX12_pays 10 = .ok (.i2l, 1) := by decide +kernel
theorem dX12_pays_11 : decode cX12_pays 11 = .ok (.lconst 1, 1) := by decide +kernel
theorem dX12_pays_12 : decode cX12_pays 12 = .ok (.ldc2_w 454, 3) := by decide +kernel
theorem dX12_pays_15 : decode cX12_pays 15 = .ok (.invokestatic 199, 3) := by decide +kernel
theorem dX12_pays_18 : decode cX12_pays 18 = .ok (.ifCond .eq 14, 3) := by decide +kernel
theorem dX12_pays_21 : decode cX12_pays 21 = .ok (.aload_n 0, 1) := by decide +kernel
theorem dX12_pays_22 : decode cX12_pays 22 = .ok (.iconst 2, 1) := by decide +kernel
theorem dX12_pays_23 : decode cX12_pays 23 = .ok (.iload_n 1, 1) := by decide +kernel
theorem dX12_pays_24 : decode cX12_pays 24 = .ok (.iload_n 2, 1) := by decide +kernel
theorem dX12_pays_25 : decode cX12_pays 25 = .ok (.iload_n 3, 1) := by decide +kernel
theorem dX12_pays_26 : decode cX12_pays 26 = .ok (.invokevirtual 438, 3) := by decide +kernel
theorem dX12_pays_29 : decode cX12_pays 29 = .ok (.goto 4, 3) := by decide +kernel
theorem dX12_pays_32 : decode cX12_pays 32 = .ok (.iconst (-1), 1) := by decide +kernel
theorem dX12_pays_33 : decode cX12_pays 33 = .ok (.ireturn, 1) := by decide +kernel
theorem zy_X12_pays : zYv yX12_pays cX12_pays 4 (some .int) 3 := ⟨zw_1689, zw_1690, zw_12, zw_1691, by decide, by decide, by decide⟩
theorem c_X12_pays_0 {C : zC} {I : Nat → Nat → Int32} {J : Nat → Nat → Int64} {Rr : Nat → Nat → Option Nat} {D : zD} (N : Nat) (a1 : Int32) (a2 : Int32) (a3 : Int32) (rr : Int32) (y_v_acts : Int32) (y_v_actKind : (Nat → Int32)) (y_v_actNumber : (Nat → Int32)) (y_v_actShire : (Nat → Int32)) (y_v_actTerm : (Nat → Int32)) (y_v_voidAt : (Nat → Int32)) (E : zE C RX12 cX12_pays 4 (some .int) ({ frames := 3, cells := 0, slots := 0, locals := 69 } : Room)) (hQ : C.Q = zQi C ({ frames := 3, cells := 0, slots := 0, locals := 69 } : Room) rr ((va_up (va_up (va_up (va_up (va_up (va_up I 128 (va_up (I 128) 67 y_v_acts)) 176 y_v_actKind) 177 y_v_actTerm) 178 y_v_actShire) 179 y_v_actNumber) 180 y_v_voidAt), J, Rr, D)) (v_acts : Int32) (v_actKind : (Nat → Int32)) (v_actNumber : (Nat → Int32)) (v_actShire : (Nat → Int32)) (v_actTerm : (Nat → Int32)) (v_voidAt : (Nat → Int32)) (h : pM_pays N a1 a2 a3 v_acts v_actKind v_actNumber v_actShire v_actTerm v_voidAt = some (rr, y_v_acts, y_v_actKind, y_v_actNumber, y_v_actShire, y_v_actTerm, y_v_voidAt)) : zB C (0, 0) 0 [(0, .ref (C.X.1 + 128)), (1, .int a1), (2, .int a2), (3, .int a3)] [] ((va_up (va_up (va_up (va_up (va_up (va_up I 128 (va_up (I 128) 67 v_acts)) 176 v_actKind) 177 v_actTerm) 178 v_actShire) 179 v_actNumber) 180 v_voidAt), J, Rr, D) := by
  refine zb_aload_n E dX12_pays_0 0 rfl rfl ?_
  refine zb_iload_n E dX12_pays_1 1 rfl rfl ?_
  refine zb_iload_n E dX12_pays_2 2 rfl rfl ?_
  obtain ⟨rc1, hc_3, h⟩ := bd1_s h
  refine zb_cVi E [.int a1, .int a2] 128 zy_X12_mayPay zw_1692 (by decide) (zF_128 _ _ _ _) rfl (c_X12_mayPay v_acts rfl v_actKind rfl hc_3) (by decide) rfl rfl (by first | decide | simp [Value.category]) dX12_pays_3 (cs2 := (0, 0)) rfl ?_
  refine zb_if_eq E dX12_pays_6 (tgt := 32) rfl (fun hc => ?_) (fun hc => ?_)
  · have h := if_t h hc
    refine zb_iconst E dX12_pays_32 (v := (-1)) rfl ?_
    obtain ⟨rfl, rfl, rfl, rfl, rfl, rfl, rfl⟩ := zinj7 h
    exact zb_iret E hQ rfl ⟨Nat.zero_le _, Nat.zero_le _⟩ dX12_pays_33
  · have h := if_f h hc
    refine zb_iload_n E dX12_pays_9 3 rfl rfl ?_
    refine zb_i2l E dX12_pays_10 ?_
    refine zb_lconst E dX12_pays_11 (v := 1) rfl ?_
    refine zb_ldc2 E dX12_pays_12 (v := 1000000) zw_1704 ?_
    obtain ⟨rc2, hc_15, h⟩ := bd1_s h
    refine zb_cSi E [.long (i2l a3), .long 1, .long 1000000] zy_X12_isIn zw_1429 (c_X12_isIn hc_15) (by decide) rfl rfl (by first | decide | simp [Value.category]) dX12_pays_15 (cs2 := (0, 0)) rfl ?_
    refine zb_if_eq E dX12_pays_18 (tgt := 32) rfl (fun hc => ?_) (fun hc => ?_)
    · have h := if_t h hc
      refine zb_iconst E dX12_pays_32 (v := (-1)) rfl ?_
      obtain ⟨rfl, rfl, rfl, rfl, rfl, rfl, rfl⟩ := zinj7 h
      exact zb_iret E hQ rfl ⟨Nat.zero_le _, Nat.zero_le _⟩ dX12_pays_33
    · have h := if_f h hc
      refine zb_aload_n E dX12_pays_21 0 rfl rfl ?_
      refine zb_iconst E dX12_pays_22 (v := 2) rfl ?_
      refine zb_iload_n E dX12_pays_23 1 rfl rfl ?_
      refine zb_iload_n E dX12_pays_24 2 rfl rfl ?_
      refine zb_iload_n E dX12_pays_25 3 rfl rfl ?_
      obtain ⟨rc3, v_acts_c3, v_actKind_c3, v_actNumber_c3, v_actShire_c3, v_actTerm_c3, v_voidAt_c3, hc_26, h⟩ := bd7_s h
      refine zb_cVi E [.int 2, .int a1, .int a2, .int a3] 128 zy_X12_act zw_1676 (by decide) (zF_128 _ _ _ _) rfl (c_X12_act (va_up (I 128) 67 v_acts) rfl v_acts rfl v_actKind rfl v_actNumber rfl v_actShire rfl v_actTerm rfl v_voidAt rfl hc_26) (by decide) rfl rfl (by first | decide | simp [Value.category]) dX12_pays_26 (cs2 := (0, 0)) rfl ?_
      refine zb_S (S2 := ((va_up (va_up (va_up (va_up (va_up (va_up I 128 (va_up (I 128) 67 v_acts_c3)) 176 v_actKind_c3) 177 v_actTerm_c3) 178 v_actShire_c3) 179 v_actNumber_c3) 180 v_voidAt_c3), J, Rr, D)) (zS_eq ((zcgF ((zcgF ((zcgF ((zcgF ((zcgF ((zcgV zn1).trans (zn6 (by decide : (180 : Nat) ≠ 128) (by decide : (179 : Nat) ≠ 128) (by decide : (178 : Nat) ≠ 128) (by decide : (177 : Nat) ≠ 128) (by decide : (176 : Nat) ≠ 128)))).trans (zn5 (by decide : (180 : Nat) ≠ 176) (by decide : (179 : Nat) ≠ 176) (by decide : (178 : Nat) ≠ 176) (by decide : (177 : Nat) ≠ 176)))).trans (zn4 (by decide : (180 : Nat) ≠ 177) (by decide : (179 : Nat) ≠ 177) (by decide : (178 : Nat) ≠ 177)))).trans (zn3 (by decide : (180 : Nat) ≠ 178) (by decide : (179 : Nat) ≠ 178)))).trans (zn2 (by decide : (180 : Nat) ≠ 179)))).trans zn1) rfl) ?_
      refine zb_goto E dX12_pays_29 (tgt := 33) rfl ?_
      obtain ⟨rfl, rfl, rfl, rfl, rfl, rfl, rfl⟩ := zinj7 h
      exact zb_iret E hQ rfl ⟨Nat.zero_le _, Nat.zero_le _⟩ dX12_pays_33
theorem c_X12_pays {l : Launch} {X : zX} {I : Nat → Nat → Int32} {J : Nat → Nat → Int64} {Rr : Nat → Nat → Option Nat} {D : zD} {N : Nat} {a1 : Int32} {a2 : Int32} {a3 : Int32} (oI128 : Nat → Int32) (eoI128 : I 128 = oI128) (v_acts : Int32) (e_v_acts : I 128 67 = v_acts) (v_actKind : (Nat → Int32)) (e_v_actKind : I 176 = v_actKind) (v_actNumber : (Nat → Int32)) (e_v_actNumber : I 179 = v_actNumber) (v_actShire : (Nat → Int32)) (e_v_actShire : I 178 = v_actShire) (v_actTerm : (Nat → Int32)) (e_v_actTerm : I 177 = v_actTerm) (v_voidAt : (Nat → Int32)) (e_v_voidAt : I 180 = v_voidAt) {rr : Int32} {y_v_acts : Int32} {y_v_actKind : (Nat → Int32)} {y_v_actNumber : (Nat → Int32)} {y_v_actShire : (Nat → Int32)} {y_v_actTerm : (Nat → Int32)} {y_v_voidAt : (Nat → Int32)} (h : pM_pays N a1 a2 a3 v_acts v_actKind v_actNumber v_actShire v_actTerm v_voidAt = some (rr, y_v_acts, y_v_actKind, y_v_actNumber, y_v_actShire, y_v_actTerm, y_v_voidAt)) : zMi l yX12_pays cX12_pays 4 (some .int) ({ frames := 3, cells := 0, slots := 0, locals := 69 } : Room) X [.ref (X.1 + 128), .int a1, .int a2, .int a3] (I, J, Rr, D) rr ((va_up (va_up (va_up (va_up (va_up (va_up I 128 (va_up oI128 67 y_v_acts)) 176 y_v_actKind) 177 y_v_actTerm) 178 y_v_actShire) 179 y_v_actNumber) 180 y_v_voidAt), J, Rr, D) := by
  subst eoI128
  refine zMi.of (by decide) (Nat.le_of_ble_eq_true rfl) (fun C E hl hX hQ => ?_)
  subst hl
  subst hX
  have eI0 : (va_up (va_up (va_up (va_up (va_up (va_up I 128 (va_up (I 128) 67 v_acts)) 176 v_actKind) 177 v_actTerm) 178 v_actShire) 179 v_actNumber) 180 v_voidAt) = I := by rw [zup_idE e_v_acts, zup_id, zup_idE e_v_actKind, zup_idE e_v_actTerm, zup_idE e_v_actShire, zup_idE e_v_actNumber, zup_idE e_v_voidAt]
  have eJ0 : J = J := rfl
  refine zb_S (S2 := ((va_up (va_up (va_up (va_up (va_up (va_up I 128 (va_up (I 128) 67 v_acts)) 176 v_actKind) 177 v_actTerm) 178 v_actShire) 179 v_actNumber) 180 v_voidAt), J, Rr, D)) (zS_eq eI0.symm eJ0.symm) ?_
  exact c_X12_pays_0 N a1 a2 a3 rr y_v_acts y_v_actKind y_v_actNumber y_v_actShire y_v_actTerm y_v_voidAt E hQ v_acts v_actKind v_actNumber v_actShire v_actTerm v_voidAt h
-- ChequeredClothModel.tally
theorem dX12_tally_0 : decode cX12_tally 0 = .ok (.aload_n 0, 1) := by decide +kernel
theorem dX12_tally_1 : decode cX12_tally 1 = .ok (.iload_n 1, 1) := by decide +kernel
theorem dX12_tally_2 : decode cX12_tally 2 = .ok (.iload_n 2, 1) := by decide +kernel
theorem dX12_tally_3 : decode cX12_tally 3 = .ok (.invokevirtual 451, 3) := by decide +kernel
theorem dX12_tally_6 : decode cX12_tally 6 = .ok (.ifCond .eq 26, 3) := by decide +kernel
theorem dX12_tally_9 : decode cX12_tally 9 = .ok (.iload_n 3, 1) := by decide +kernel
theorem dX12_tally_10 : decode cX12_tally 10 = .ok (.i2l, 1) := by decide +kernel
theorem dX12_tally_11 : decode cX12_tally 11 = .ok (.lconst 0, 1) := by decide +kernel
theorem dX12_tally_12 : decode cX12_tally 12 = .ok (.ldc2_w 229, 3) := by decide +kernel
theorem dX12_tally_15 : decode cX12_tally 15 = .ok (.invokestatic 199, 3) := by decide +kernel
theorem dX12_tally_18 : decode cX12_tally 18 = .ok (.ifCond .eq 14, 3) := by decide +kernel
theorem dX12_tally_21 : decode cX12_tally 21 = .ok (.aload_n 0, 1) := by decide +kernel
theorem dX12_tally_22 : decode cX12_tally 22 = .ok (.iconst 3, 1) := by decide +kernel
theorem dX12_tally_23 : decode cX12_tally 23 = .ok (.iload_n 1, 1) := by decide +kernel
theorem dX12_tally_24 : decode cX12_tally 24 = .ok (.iload_n 2, 1) := by decide +kernel
theorem dX12_tally_25 : decode cX12_tally 25 = .ok (.iload_n 3, 1) := by decide +kernel
theorem dX12_tally_26 : decode cX12_tally 26 = .ok (.invokevirtual 438, 3) := by decide +kernel
theorem dX12_tally_29 : decode cX12_tally 29 = .ok (.goto 4, 3) := by decide +kernel
theorem dX12_tally_32 : decode cX12_tally 32 = .ok (.iconst (-1), 1) := by decide +kernel
theorem dX12_tally_33 : decode cX12_tally 33 = .ok (.ireturn, 1) := by decide +kernel
theorem zy_X12_tally : zYv yX12_tally cX12_tally 4 (some .int) 3 := ⟨zw_1706, zw_1707, zw_12, zw_1708, by decide, by decide, by decide⟩
theorem c_X12_tally_0 {C : zC} {I : Nat → Nat → Int32} {J : Nat → Nat → Int64} {Rr : Nat → Nat → Option Nat} {D : zD} (N : Nat) (a1 : Int32) (a2 : Int32) (a3 : Int32) (rr : Int32) (y_v_acts : Int32) (y_v_actKind : (Nat → Int32)) (y_v_actNumber : (Nat → Int32)) (y_v_actShire : (Nat → Int32)) (y_v_actTerm : (Nat → Int32)) (y_v_voidAt : (Nat → Int32)) (E : zE C RX12 cX12_tally 4 (some .int) ({ frames := 3, cells := 0, slots := 0, locals := 69 } : Room)) (hQ : C.Q = zQi C ({ frames := 3, cells := 0, slots := 0, locals := 69 } : Room) rr ((va_up (va_up (va_up (va_up (va_up (va_up I 128 (va_up (I 128) 67 y_v_acts)) 176 y_v_actKind) 177 y_v_actTerm) 178 y_v_actShire) 179 y_v_actNumber) 180 y_v_voidAt), J, Rr, D)) (v_acts : Int32) (v_actKind : (Nat → Int32)) (v_actNumber : (Nat → Int32)) (v_actShire : (Nat → Int32)) (v_actTerm : (Nat → Int32)) (v_voidAt : (Nat → Int32)) (h : pM_tally N a1 a2 a3 v_acts v_actKind v_actNumber v_actShire v_actTerm v_voidAt = some (rr, y_v_acts, y_v_actKind, y_v_actNumber, y_v_actShire, y_v_actTerm, y_v_voidAt)) : zB C (0, 0) 0 [(0, .ref (C.X.1 + 128)), (1, .int a1), (2, .int a2), (3, .int a3)] [] ((va_up (va_up (va_up (va_up (va_up (va_up I 128 (va_up (I 128) 67 v_acts)) 176 v_actKind) 177 v_actTerm) 178 v_actShire) 179 v_actNumber) 180 v_voidAt), J, Rr, D) := by
  refine zb_aload_n E dX12_tally_0 0 rfl rfl ?_
  refine zb_iload_n E dX12_tally_1 1 rfl rfl ?_
  refine zb_iload_n E dX12_tally_2 2 rfl rfl ?_
  obtain ⟨rc1, hc_3, h⟩ := bd1_s h
  refine zb_cVi E [.int a1, .int a2] 128 zy_X12_mayPay zw_1692 (by decide) (zF_128 _ _ _ _) rfl (c_X12_mayPay v_acts rfl v_actKind rfl hc_3) (by decide) rfl rfl (by first | decide | simp [Value.category]) dX12_tally_3 (cs2 := (0, 0)) rfl ?_
  refine zb_if_eq E dX12_tally_6 (tgt := 32) rfl (fun hc => ?_) (fun hc => ?_)
  · have h := if_t h hc
    refine zb_iconst E dX12_tally_32 (v := (-1)) rfl ?_
    obtain ⟨rfl, rfl, rfl, rfl, rfl, rfl, rfl⟩ := zinj7 h
    exact zb_iret E hQ rfl ⟨Nat.zero_le _, Nat.zero_le _⟩ dX12_tally_33
  · have h := if_f h hc
    refine zb_iload_n E dX12_tally_9 3 rfl rfl ?_
    refine zb_i2l E dX12_tally_10 ?_
    refine zb_lconst E dX12_tally_11 (v := 0) rfl ?_
    refine zb_ldc2 E dX12_tally_12 (v := 9) zw_1490 ?_
    obtain ⟨rc2, hc_15, h⟩ := bd1_s h
    refine zb_cSi E [.long (i2l a3), .long 0, .long 9] zy_X12_isIn zw_1429 (c_X12_isIn hc_15) (by decide) rfl rfl (by first | decide | simp [Value.category]) dX12_tally_15 (cs2 := (0, 0)) rfl ?_
    refine zb_if_eq E dX12_tally_18 (tgt := 32) rfl (fun hc => ?_) (fun hc => ?_)
    · have h := if_t h hc
      refine zb_iconst E dX12_tally_32 (v := (-1)) rfl ?_
      obtain ⟨rfl, rfl, rfl, rfl, rfl, rfl, rfl⟩ := zinj7 h
      exact zb_iret E hQ rfl ⟨Nat.zero_le _, Nat.zero_le _⟩ dX12_tally_33
    · have h := if_f h hc
      refine zb_aload_n E dX12_tally_21 0 rfl rfl ?_
      refine zb_iconst E dX12_tally_22 (v := 3) rfl ?_
      refine zb_iload_n E dX12_tally_23 1 rfl rfl ?_
      refine zb_iload_n E dX12_tally_24 2 rfl rfl ?_
      refine zb_iload_n E dX12_tally_25 3 rfl rfl ?_
      obtain ⟨rc3, v_acts_c3, v_actKind_c3, v_actNumber_c3, v_actShire_c3, v_actTerm_c3, v_voidAt_c3, hc_26, h⟩ := bd7_s h
      refine zb_cVi E [.int 3, .int a1, .int a2, .int a3] 128 zy_X12_act zw_1676 (by decide) (zF_128 _ _ _ _) rfl (c_X12_act (va_up (I 128) 67 v_acts) rfl v_acts rfl v_actKind rfl v_actNumber rfl v_actShire rfl v_actTerm rfl v_voidAt rfl hc_26) (by decide) rfl rfl (by first | decide | simp [Value.category]) dX12_tally_26 (cs2 := (0, 0)) rfl ?_
      refine zb_S (S2 := ((va_up (va_up (va_up (va_up (va_up (va_up I 128 (va_up (I 128) 67 v_acts_c3)) 176 v_actKind_c3) 177 v_actTerm_c3) 178 v_actShire_c3) 179 v_actNumber_c3) 180 v_voidAt_c3), J, Rr, D)) (zS_eq ((zcgF ((zcgF ((zcgF ((zcgF ((zcgF ((zcgV zn1).trans (zn6 (by decide : (180 : Nat) ≠ 128) (by decide : (179 : Nat) ≠ 128) (by decide : (178 : Nat) ≠ 128) (by decide : (177 : Nat) ≠ 128) (by decide : (176 : Nat) ≠ 128)))).trans (zn5 (by decide : (180 : Nat) ≠ 176) (by decide : (179 : Nat) ≠ 176) (by decide : (178 : Nat) ≠ 176) (by decide : (177 : Nat) ≠ 176)))).trans (zn4 (by decide : (180 : Nat) ≠ 177) (by decide : (179 : Nat) ≠ 177) (by decide : (178 : Nat) ≠ 177)))).trans (zn3 (by decide : (180 : Nat) ≠ 178) (by decide : (179 : Nat) ≠ 178)))).trans (zn2 (by decide : (180 : Nat) ≠ 179)))).trans zn1) rfl) ?_
      refine zb_goto E dX12_tally_29 (tgt := 33) rfl ?_
      obtain ⟨rfl, rfl, rfl, rfl, rfl, rfl, rfl⟩ := zinj7 h
      exact zb_iret E hQ rfl ⟨Nat.zero_le _, Nat.zero_le _⟩ dX12_tally_33
theorem c_X12_tally {l : Launch} {X : zX} {I : Nat → Nat → Int32} {J : Nat → Nat → Int64} {Rr : Nat → Nat → Option Nat} {D : zD} {N : Nat} {a1 : Int32} {a2 : Int32} {a3 : Int32} (oI128 : Nat → Int32) (eoI128 : I 128 = oI128) (v_acts : Int32) (e_v_acts : I 128 67 = v_acts) (v_actKind : (Nat → Int32)) (e_v_actKind : I 176 = v_actKind) (v_actNumber : (Nat → Int32)) (e_v_actNumber : I 179 = v_actNumber) (v_actShire : (Nat → Int32)) (e_v_actShire : I 178 = v_actShire) (v_actTerm : (Nat → Int32)) (e_v_actTerm : I 177 = v_actTerm) (v_voidAt : (Nat → Int32)) (e_v_voidAt : I 180 = v_voidAt) {rr : Int32} {y_v_acts : Int32} {y_v_actKind : (Nat → Int32)} {y_v_actNumber : (Nat → Int32)} {y_v_actShire : (Nat → Int32)} {y_v_actTerm : (Nat → Int32)} {y_v_voidAt : (Nat → Int32)} (h : pM_tally N a1 a2 a3 v_acts v_actKind v_actNumber v_actShire v_actTerm v_voidAt = some (rr, y_v_acts, y_v_actKind, y_v_actNumber, y_v_actShire, y_v_actTerm, y_v_voidAt)) : zMi l yX12_tally cX12_tally 4 (some .int) ({ frames := 3, cells := 0, slots := 0, locals := 69 } : Room) X [.ref (X.1 + 128), .int a1, .int a2, .int a3] (I, J, Rr, D) rr ((va_up (va_up (va_up (va_up (va_up (va_up I 128 (va_up oI128 67 y_v_acts)) 176 y_v_actKind) 177 y_v_actTerm) 178 y_v_actShire) 179 y_v_actNumber) 180 y_v_voidAt), J, Rr, D) := by
  subst eoI128
  refine zMi.of (by decide) (Nat.le_of_ble_eq_true rfl) (fun C E hl hX hQ => ?_)
  subst hl
  subst hX
  have eI0 : (va_up (va_up (va_up (va_up (va_up (va_up I 128 (va_up (I 128) 67 v_acts)) 176 v_actKind) 177 v_actTerm) 178 v_actShire) 179 v_actNumber) 180 v_voidAt) = I := by rw [zup_idE e_v_acts, zup_id, zup_idE e_v_actKind, zup_idE e_v_actTerm, zup_idE e_v_actShire, zup_idE e_v_actNumber, zup_idE e_v_voidAt]
  have eJ0 : J = J := rfl
  refine zb_S (S2 := ((va_up (va_up (va_up (va_up (va_up (va_up I 128 (va_up (I 128) 67 v_acts)) 176 v_actKind) 177 v_actTerm) 178 v_actShire) 179 v_actNumber) 180 v_voidAt), J, Rr, D)) (zS_eq eI0.symm eJ0.symm) ?_
  exact c_X12_tally_0 N a1 a2 a3 rr y_v_acts y_v_actKind y_v_actNumber y_v_actShire y_v_actTerm y_v_voidAt E hQ v_acts v_actKind v_actNumber v_actShire v_actTerm v_voidAt h
-- ChequeredClothModel.fire
theorem dX12_fire_0 : decode cX12_fire 0 = .ok (.iload_n 1, 1) := by decide +kernel
theorem dX12_fire_1 : decode cX12_fire 1 = .ok (.invokestatic 432, 3) := by decide +kernel
theorem dX12_fire_4 : decode cX12_fire 4 = .ok (.ifCond .eq 26, 3) := by decide +kernel
theorem dX12_fire_7 : decode cX12_fire 7 = .ok (.iload_n 2, 1) := by decide +kernel
theorem dX12_fire_8 : decode cX12_fire 8 = .ok (.i2l, 1) := by decide +kernel
theorem dX12_fire_9 : decode cX12_fire 9 = .ok (.lconst 0, 1) := by decide +kernel
theorem dX12_fire_10 : decode cX12_fire 10 = .ok (.ldc2_w 456, 3) := by decide +kernel
theorem dX12_fire_13 : decode cX12_fire 13 = .ok (.invokestatic 199, 3) := by decide +kernel
theorem dX12_fire_16 : decode cX12_fire 16 = .ok (.ifCond .eq 14, 3) := by decide +kernel
theorem dX12_fire_19 : decode cX12_fire 19 = .ok (.aload_n 0, 1) := by decide +kernel
theorem dX12_fire_20 : decode cX12_fire 20 = .ok (.iconst 4, 1) := by decide +kernel
theorem dX12_fire_21 : decode cX12_fire 21 = .ok (.iconst 0, 1) := by decide +kernel
theorem dX12_fire_22 : decode cX12_fire 22 = .ok (.iload_n 1, 1) := by decide +kernel
theorem dX12_fire_23 : decode cX12_fire 23 = .ok (.iload_n 2, 1) := by decide +kernel
theorem dX12_fire_24 : decode cX12_fire 24 = .ok (.invokevirtual 438, 3) := by decide +kernel
theorem dX12_fire_27 : decode cX12_fire 27 = .ok (.goto 4, 3) := by decide +kernel
theorem dX12_fire_30 : decode cX12_fire 30 = .ok (.iconst (-1), 1) := by decide +kernel
theorem dX12_fire_31 : decode cX12_fire 31 = .ok (.ireturn, 1) := by decide +kernel
theorem zy_X12_fire : zYv yX12_fire cX12_fire 3 (some .int) 2 := ⟨zw_1710, zw_1711, zw_12, zw_1712, by decide, by decide, by decide⟩
theorem c_X12_fire_0 {C : zC} {I : Nat → Nat → Int32} {J : Nat → Nat → Int64} {Rr : Nat → Nat → Option Nat} {D : zD} (a1 : Int32) (a2 : Int32) (rr : Int32) (y_v_acts : Int32) (y_v_actKind : (Nat → Int32)) (y_v_actNumber : (Nat → Int32)) (y_v_actShire : (Nat → Int32)) (y_v_actTerm : (Nat → Int32)) (y_v_voidAt : (Nat → Int32)) (E : zE C RX12 cX12_fire 3 (some .int) ({ frames := 2, cells := 0, slots := 0, locals := 45 } : Room)) (hQ : C.Q = zQi C ({ frames := 2, cells := 0, slots := 0, locals := 45 } : Room) rr ((va_up (va_up (va_up (va_up (va_up (va_up I 128 (va_up (I 128) 67 y_v_acts)) 176 y_v_actKind) 177 y_v_actTerm) 178 y_v_actShire) 179 y_v_actNumber) 180 y_v_voidAt), J, Rr, D)) (v_acts : Int32) (v_actKind : (Nat → Int32)) (v_actNumber : (Nat → Int32)) (v_actShire : (Nat → Int32)) (v_actTerm : (Nat → Int32)) (v_voidAt : (Nat → Int32)) (h : pM_fire a1 a2 v_acts v_actKind v_actNumber v_actShire v_actTerm v_voidAt = some (rr, y_v_acts, y_v_actKind, y_v_actNumber, y_v_actShire, y_v_actTerm, y_v_voidAt)) : zB C (0, 0) 0 [(0, .ref (C.X.1 + 128)), (1, .int a1), (2, .int a2)] [] ((va_up (va_up (va_up (va_up (va_up (va_up I 128 (va_up (I 128) 67 v_acts)) 176 v_actKind) 177 v_actTerm) 178 v_actShire) 179 v_actNumber) 180 v_voidAt), J, Rr, D) := by
  refine zb_iload_n E dX12_fire_0 1 rfl rfl ?_
  obtain ⟨rc1, hc_1, h⟩ := bd1_s h
  refine zb_cSi E [.int a1] zy_X12_isTerm zw_1561 (c_X12_isTerm hc_1) (by decide) rfl rfl (by first | decide | simp [Value.category]) dX12_fire_1 (cs2 := (0, 0)) rfl ?_
  refine zb_if_eq E dX12_fire_4 (tgt := 30) rfl (fun hc => ?_) (fun hc => ?_)
  · have h := if_t h hc
    refine zb_iconst E dX12_fire_30 (v := (-1)) rfl ?_
    obtain ⟨rfl, rfl, rfl, rfl, rfl, rfl, rfl⟩ := zinj7 h
    exact zb_iret E hQ rfl ⟨Nat.zero_le _, Nat.zero_le _⟩ dX12_fire_31
  · have h := if_f h hc
    refine zb_iload_n E dX12_fire_7 2 rfl rfl ?_
    refine zb_i2l E dX12_fire_8 ?_
    refine zb_lconst E dX12_fire_9 (v := 0) rfl ?_
    refine zb_ldc2 E dX12_fire_10 (v := 120) zw_1713 ?_
    obtain ⟨rc2, hc_13, h⟩ := bd1_s h
    refine zb_cSi E [.long (i2l a2), .long 0, .long 120] zy_X12_isIn zw_1429 (c_X12_isIn hc_13) (by decide) rfl rfl (by first | decide | simp [Value.category]) dX12_fire_13 (cs2 := (0, 0)) rfl ?_
    refine zb_if_eq E dX12_fire_16 (tgt := 30) rfl (fun hc => ?_) (fun hc => ?_)
    · have h := if_t h hc
      refine zb_iconst E dX12_fire_30 (v := (-1)) rfl ?_
      obtain ⟨rfl, rfl, rfl, rfl, rfl, rfl, rfl⟩ := zinj7 h
      exact zb_iret E hQ rfl ⟨Nat.zero_le _, Nat.zero_le _⟩ dX12_fire_31
    · have h := if_f h hc
      refine zb_aload_n E dX12_fire_19 0 rfl rfl ?_
      refine zb_iconst E dX12_fire_20 (v := 4) rfl ?_
      refine zb_iconst E dX12_fire_21 (v := 0) rfl ?_
      refine zb_iload_n E dX12_fire_22 1 rfl rfl ?_
      refine zb_iload_n E dX12_fire_23 2 rfl rfl ?_
      obtain ⟨rc3, v_acts_c3, v_actKind_c3, v_actNumber_c3, v_actShire_c3, v_actTerm_c3, v_voidAt_c3, hc_24, h⟩ := bd7_s h
      refine zb_cVi E [.int 4, .int 0, .int a1, .int a2] 128 zy_X12_act zw_1676 (by decide) (zF_128 _ _ _ _) rfl (c_X12_act (va_up (I 128) 67 v_acts) rfl v_acts rfl v_actKind rfl v_actNumber rfl v_actShire rfl v_actTerm rfl v_voidAt rfl hc_24) (by decide) rfl rfl (by first | decide | simp [Value.category]) dX12_fire_24 (cs2 := (0, 0)) rfl ?_
      refine zb_S (S2 := ((va_up (va_up (va_up (va_up (va_up (va_up I 128 (va_up (I 128) 67 v_acts_c3)) 176 v_actKind_c3) 177 v_actTerm_c3) 178 v_actShire_c3) 179 v_actNumber_c3) 180 v_voidAt_c3), J, Rr, D)) (zS_eq ((zcgF ((zcgF ((zcgF ((zcgF ((zcgF ((zcgV zn1).trans (zn6 (by decide : (180 : Nat) ≠ 128) (by decide : (179 : Nat) ≠ 128) (by decide : (178 : Nat) ≠ 128) (by decide : (177 : Nat) ≠ 128) (by decide : (176 : Nat) ≠ 128)))).trans (zn5 (by decide : (180 : Nat) ≠ 176) (by decide : (179 : Nat) ≠ 176) (by decide : (178 : Nat) ≠ 176) (by decide : (177 : Nat) ≠ 176)))).trans (zn4 (by decide : (180 : Nat) ≠ 177) (by decide : (179 : Nat) ≠ 177) (by decide : (178 : Nat) ≠ 177)))).trans (zn3 (by decide : (180 : Nat) ≠ 178) (by decide : (179 : Nat) ≠ 178)))).trans (zn2 (by decide : (180 : Nat) ≠ 179)))).trans zn1) rfl) ?_
      refine zb_goto E dX12_fire_27 (tgt := 31) rfl ?_
      obtain ⟨rfl, rfl, rfl, rfl, rfl, rfl, rfl⟩ := zinj7 h
      exact zb_iret E hQ rfl ⟨Nat.zero_le _, Nat.zero_le _⟩ dX12_fire_31
theorem c_X12_fire {l : Launch} {X : zX} {I : Nat → Nat → Int32} {J : Nat → Nat → Int64} {Rr : Nat → Nat → Option Nat} {D : zD} {a1 : Int32} {a2 : Int32} (oI128 : Nat → Int32) (eoI128 : I 128 = oI128) (v_acts : Int32) (e_v_acts : I 128 67 = v_acts) (v_actKind : (Nat → Int32)) (e_v_actKind : I 176 = v_actKind) (v_actNumber : (Nat → Int32)) (e_v_actNumber : I 179 = v_actNumber) (v_actShire : (Nat → Int32)) (e_v_actShire : I 178 = v_actShire) (v_actTerm : (Nat → Int32)) (e_v_actTerm : I 177 = v_actTerm) (v_voidAt : (Nat → Int32)) (e_v_voidAt : I 180 = v_voidAt) {rr : Int32} {y_v_acts : Int32} {y_v_actKind : (Nat → Int32)} {y_v_actNumber : (Nat → Int32)} {y_v_actShire : (Nat → Int32)} {y_v_actTerm : (Nat → Int32)} {y_v_voidAt : (Nat → Int32)} (h : pM_fire a1 a2 v_acts v_actKind v_actNumber v_actShire v_actTerm v_voidAt = some (rr, y_v_acts, y_v_actKind, y_v_actNumber, y_v_actShire, y_v_actTerm, y_v_voidAt)) : zMi l yX12_fire cX12_fire 3 (some .int) ({ frames := 2, cells := 0, slots := 0, locals := 45 } : Room) X [.ref (X.1 + 128), .int a1, .int a2] (I, J, Rr, D) rr ((va_up (va_up (va_up (va_up (va_up (va_up I 128 (va_up oI128 67 y_v_acts)) 176 y_v_actKind) 177 y_v_actTerm) 178 y_v_actShire) 179 y_v_actNumber) 180 y_v_voidAt), J, Rr, D) := by
  subst eoI128
  refine zMi.of (by decide) (Nat.le_of_ble_eq_true rfl) (fun C E hl hX hQ => ?_)
  subst hl
  subst hX
  have eI0 : (va_up (va_up (va_up (va_up (va_up (va_up I 128 (va_up (I 128) 67 v_acts)) 176 v_actKind) 177 v_actTerm) 178 v_actShire) 179 v_actNumber) 180 v_voidAt) = I := by rw [zup_idE e_v_acts, zup_id, zup_idE e_v_actKind, zup_idE e_v_actTerm, zup_idE e_v_actShire, zup_idE e_v_actNumber, zup_idE e_v_voidAt]
  have eJ0 : J = J := rfl
  refine zb_S (S2 := ((va_up (va_up (va_up (va_up (va_up (va_up I 128 (va_up (I 128) 67 v_acts)) 176 v_actKind) 177 v_actTerm) 178 v_actShire) 179 v_actNumber) 180 v_voidAt), J, Rr, D)) (zS_eq eI0.symm eJ0.symm) ?_
  exact c_X12_fire_0 a1 a2 rr y_v_acts y_v_actKind y_v_actNumber y_v_actShire y_v_actTerm y_v_voidAt E hQ v_acts v_actKind v_actNumber v_actShire v_actTerm v_voidAt h
-- ChequeredClothModel.annul
theorem dX12_annul_0 : decode cX12_annul 0 = .ok (.iload_n 1, 1) := by decide +kernel
theorem dX12_annul_1 : decode cX12_annul 1 = .ok (.i2l, 1) := by decide +kernel
theorem dX12_annul_2 : decode cX12_annul 2 = .ok (.lconst 1, 1) := by decide +kernel
theorem dX12_annul_3 : decode cX12_annul 3 = .ok (.aload_n 0, 1) := by decide +kernel
theorem dX12_annul_4 : decode cX12_annul 4 = .ok (.getfield 429, 3) := by decide +kernel
theorem dX12_annul_7 : decode cX12_annul 7 = .ok (.i2l, 1) := by decide +kernel
theorem dX12_annul_8 : decode cX12_annul 8 = .ok (.invokestatic 199, 3) := by decide +kernel
theorem dX12_annul_11 : decode cX12_annul 11 = .ok (.ifCond .eq 32, 3) := by decide +kernel
theorem dX12_annul_14 : decode cX12_annul 14 = .ok (.aload_n 0, 1) := by decide +kernel
theorem dX12_annul_15 : decode cX12_annul 15 = .ok (.getfield 181, 3) := by decide +kernel
theorem dX12_annul_18 : decode cX12_annul 18 = .ok (.iload_n 1, 1) := by decide +kernel
theorem dX12_annul_19 : decode cX12_annul 19 = .ok (.iaload, 1) := by decide +kernel
theorem dX12_annul_20 : decode cX12_annul 20 = .ok (.ifCond .ne 23, 3) := by decide +kernel
theorem dX12_annul_23 : decode cX12_annul 23 = .ok (.aload_n 0, 1) := by decide +kernel
theorem dX12_annul_24 : decode cX12_annul 24 = .ok (.getfield 169, 3) := by decide +kernel
theorem dX12_annul_27 : decode cX12_annul 27 = .ok (.iload_n 1, 1) := by decide +kernel
theorem dX12_annul_28 : decode cX12_annul 28 = .ok (.iaload, 1) := by decide +kernel
theorem dX12_annul_29 : decode cX12_annul 29 = .ok (.iconst 5, 1) := by decide +kernel
theorem dX12_annul_30 : decode cX12_annul 30 = .ok (.if_icmp .eq 13, 3) := by decide +kernel
theorem dX12_annul_33 : decode cX12_annul 33 = .ok (.aload_n 0, 1) := by decide +kernel
theorem dX12_annul_34 : decode cX12_annul 34 = .ok (.getfield 429, 3) := by decide +kernel
theorem dX12_annul_37 : decode cX12_annul 37 = .ok (.sipush 200, 3) := by decide +kernel
theorem dX12_annul_40 : decode cX12_annul 40 = .ok (.if_icmp .ne 5, 3) := by decide +kernel
theorem dX12_annul_43 : decode cX12_annul 43 = .ok (.iconst (-1), 1) := by decide +kernel
theorem dX12_annul_44 : decode cX12_annul 44 = .ok (.ireturn, 1) := by decide +kernel
theorem dX12_annul_45 : decode cX12_annul 45 = .ok (.aload_n 0, 1) := by decide +kernel
theorem dX12_annul_46 : decode cX12_annul 46 = .ok (.getfield 181, 3) := by decide +kernel
theorem dX12_annul_49 : decode cX12_annul 49 = .ok (.iload_n 1, 1) := by decide +kernel
theorem dX12_annul_50 : decode cX12_annul 50 = .ok (.aload_n 0, 1) := by decide +kernel
theorem dX12_annul_51 : decode cX12_annul 51 = .ok (.getfield 429, 3) := by decide +kernel
theorem dX12_annul_54 : decode cX12_annul 54 = .ok (.iconst 1, 1) := by decide +kernel
theorem dX12_annul_55 : decode cX12_annul 55 = .ok (.iadd, 1) := by decide +kernel
theorem dX12_annul_56 : decode cX12_annul 56 = .ok (.iastore, 1) := by decide +kernel
theorem dX12_annul_57 : decode cX12_annul 57 = .ok (.aload_n 0, 1) := by decide +kernel
theorem dX12_annul_58 : decode cX12_annul 58 = .ok (.iconst 5, 1) := by decide +kernel
theorem dX12_annul_59 : decode cX12_annul 59 = .ok (.iconst 0, 1) := by decide +kernel
theorem dX12_annul_60 : decode cX12_annul 60 = .ok (.iconst 0, 1) := by decide +kernel
theorem dX12_annul_61 : decode cX12_annul 61 = .ok (.iload_n 1, 1) := by decide +kernel
theorem dX12_annul_62 : decode cX12_annul 62 = .ok (.invokevirtual 438, 3) := by decide +kernel
theorem dX12_annul_65 : decode cX12_annul 65 = .ok (.ireturn, 1) := by decide +kernel
theorem zy_X12_annul : zYv yX12_annul cX12_annul 2 (some .int) 1 := ⟨zw_1715, zw_1716, zw_12, zw_1717, by decide, by decide, by decide⟩
theorem c_X12_annul_0 {C : zC} {I : Nat → Nat → Int32} {J : Nat → Nat → Int64} {Rr : Nat → Nat → Option Nat} {D : zD} (a1 : Int32) (rr : Int32) (y_v_acts : Int32) (y_v_actKind : (Nat → Int32)) (y_v_actNumber : (Nat → Int32)) (y_v_actShire : (Nat → Int32)) (y_v_actTerm : (Nat → Int32)) (y_v_voidAt : (Nat → Int32)) (E : zE C RX12 cX12_annul 2 (some .int) ({ frames := 1, cells := 0, slots := 0, locals := 25 } : Room)) (hQ : C.Q = zQi C ({ frames := 1, cells := 0, slots := 0, locals := 25 } : Room) rr ((va_up (va_up (va_up (va_up (va_up (va_up I 128 (va_up (I 128) 67 y_v_acts)) 176 y_v_actKind) 177 y_v_actTerm) 178 y_v_actShire) 179 y_v_actNumber) 180 y_v_voidAt), J, Rr, D)) (v_acts : Int32) (v_actKind : (Nat → Int32)) (v_actNumber : (Nat → Int32)) (v_actShire : (Nat → Int32)) (v_actTerm : (Nat → Int32)) (v_voidAt : (Nat → Int32)) (h : pM_annul a1 v_acts v_actKind v_actNumber v_actShire v_actTerm v_voidAt = some (rr, y_v_acts, y_v_actKind, y_v_actNumber, y_v_actShire, y_v_actTerm, y_v_voidAt)) : zB C (0, 0) 0 [(0, .ref (C.X.1 + 128)), (1, .int a1)] [] ((va_up (va_up (va_up (va_up (va_up (va_up I 128 (va_up (I 128) 67 v_acts)) 176 v_actKind) 177 v_actTerm) 178 v_actShire) 179 v_actNumber) 180 v_voidAt), J, Rr, D) := by
  refine zb_iload_n E dX12_annul_0 1 rfl rfl ?_
  refine zb_i2l E dX12_annul_1 ?_
  refine zb_lconst E dX12_annul_2 (v := 1) rfl ?_
  refine zb_aload_n E dX12_annul_3 0 rfl rfl ?_
  refine zb_get E 128 (by decide) (zF_128 C.X) rfl zin12 67 (by decide) zw_1235 (v := .int v_acts) rfl dX12_annul_4 ?_
  refine zb_i2l E dX12_annul_7 ?_
  obtain ⟨rc1, hc_8, h⟩ := bd1_s h
  refine zb_cSi E [.long (i2l a1), .long 1, .long (i2l v_acts)] zy_X12_isIn zw_1429 (c_X12_isIn hc_8) (by decide) rfl rfl (by first | decide | simp [Value.category]) dX12_annul_8 (cs2 := (0, 0)) rfl ?_
  refine zb_if_eq E dX12_annul_11 (tgt := 43) rfl (fun hc => ?_) (fun hc => ?_)
  · have h := if_t h hc
    refine zb_iconst E dX12_annul_43 (v := (-1)) rfl ?_
    obtain ⟨rfl, rfl, rfl, rfl, rfl, rfl, rfl⟩ := zinj7 h
    exact zb_iret E hQ rfl ⟨Nat.zero_le _, Nat.zero_le _⟩ dX12_annul_44
  · have h := if_f h hc
    refine zb_aload_n E dX12_annul_14 0 rfl rfl ?_
    refine zb_get E 128 (by decide) (zF_128 C.X) rfl zin12 72 (by decide) zw_1240 (v := .ref (C.X.1 + 180)) rfl dX12_annul_15 ?_
    refine zb_iload_n E dX12_annul_18 1 rfl rfl ?_
    obtain ⟨g2, h⟩ := gd_s h
    refine zb_iald E 180 (by decide) zF_180 (f := v_voidAt) rfl (ib_in g2) dX12_annul_19 ?_
    refine zb_if_ne E dX12_annul_20 (tgt := 43) rfl (fun hc => ?_) (fun hc => ?_)
    · have h := if_f h hc
      refine zb_iconst E dX12_annul_43 (v := (-1)) rfl ?_
      obtain ⟨rfl, rfl, rfl, rfl, rfl, rfl, rfl⟩ := zinj7 h
      exact zb_iret E hQ rfl ⟨Nat.zero_le _, Nat.zero_le _⟩ dX12_annul_44
    · have h := if_t h hc
      refine zb_aload_n E dX12_annul_23 0 rfl rfl ?_
      refine zb_get E 128 (by decide) (zF_128 C.X) rfl zin12 68 (by decide) zw_1236 (v := .ref (C.X.1 + 176)) rfl dX12_annul_24 ?_
      refine zb_iload_n E dX12_annul_27 1 rfl rfl ?_
      refine zb_iald E 176 (by decide) zF_176 (f := v_actKind) rfl (ib_in g2) dX12_annul_28 ?_
      refine zb_iconst E dX12_annul_29 (v := 5) rfl ?_
      refine zb_icmp_eq E dX12_annul_30 (tgt := 43) rfl (fun hc => ?_) (fun hc => ?_)
      · have h := if_t h hc
        refine zb_iconst E dX12_annul_43 (v := (-1)) rfl ?_
        obtain ⟨rfl, rfl, rfl, rfl, rfl, rfl, rfl⟩ := zinj7 h
        exact zb_iret E hQ rfl ⟨Nat.zero_le _, Nat.zero_le _⟩ dX12_annul_44
      · have h := if_f h hc
        refine zb_aload_n E dX12_annul_33 0 rfl rfl ?_
        refine zb_get E 128 (by decide) (zF_128 C.X) rfl zin12 67 (by decide) zw_1235 (v := .int v_acts) rfl dX12_annul_34 ?_
        refine zb_sipush E dX12_annul_37 (v := 200) rfl ?_
        refine zb_icmp_ne E dX12_annul_40 (tgt := 45) rfl (fun hc => ?_) (fun hc => ?_)
        · have h := if_f h hc
          refine zb_aload_n E dX12_annul_45 0 rfl rfl ?_
          refine zb_get E 128 (by decide) (zF_128 C.X) rfl zin12 72 (by decide) zw_1240 (v := .ref (C.X.1 + 180)) rfl dX12_annul_46 ?_
          refine zb_iload_n E dX12_annul_49 1 rfl rfl ?_
          refine zb_aload_n E dX12_annul_50 0 rfl rfl ?_
          refine zb_get E 128 (by decide) (zF_128 C.X) rfl zin12 67 (by decide) zw_1235 (v := .int v_acts) rfl dX12_annul_51 ?_
          refine zb_iconst E dX12_annul_54 (v := 1) rfl ?_
          refine zb_iadd E dX12_annul_55 ?_
          refine zb_iast E 180 (by decide) zF_180 (f := v_voidAt) rfl (ib_in g2) dX12_annul_56 (I2 := (va_up (va_up (va_up (va_up (va_up (va_up I 128 (va_up (I 128) 67 v_acts)) 176 v_actKind) 177 v_actTerm) 178 v_actShire) 179 v_actNumber) 180 (upd v_voidAt (ix a1) (v_acts + 1)))) zn1 ?_
          refine zb_aload_n E dX12_annul_57 0 rfl rfl ?_
          refine zb_iconst E dX12_annul_58 (v := 5) rfl ?_
          refine zb_iconst E dX12_annul_59 (v := 0) rfl ?_
          refine zb_iconst E dX12_annul_60 (v := 0) rfl ?_
          refine zb_iload_n E dX12_annul_61 1 rfl rfl ?_
          obtain ⟨rc3, v_acts_c3, v_actKind_c3, v_actNumber_c3, v_actShire_c3, v_actTerm_c3, v_voidAt_c3, hc_62, h⟩ := bd7_s h
          refine zb_cVi E [.int 5, .int 0, .int 0, .int a1] 128 zy_X12_act zw_1676 (by decide) (zF_128 _ _ _ _) rfl (c_X12_act (va_up (I 128) 67 v_acts) rfl v_acts rfl v_actKind rfl v_actNumber rfl v_actShire rfl v_actTerm rfl (upd v_voidAt (ix a1) (v_acts + 1)) rfl hc_62) (by decide) rfl rfl (by first | decide | simp [Value.category]) dX12_annul_62 (cs2 := (0, 0)) rfl ?_
          refine zb_S (S2 := ((va_up (va_up (va_up (va_up (va_up (va_up I 128 (va_up (I 128) 67 v_acts_c3)) 176 v_actKind_c3) 177 v_actTerm_c3) 178 v_actShire_c3) 179 v_actNumber_c3) 180 v_voidAt_c3), J, Rr, D)) (zS_eq ((zcgF ((zcgF ((zcgF ((zcgF ((zcgF ((zcgV zn1).trans (zn6 (by decide : (180 : Nat) ≠ 128) (by decide : (179 : Nat) ≠ 128) (by decide : (178 : Nat) ≠ 128) (by decide : (177 : Nat) ≠ 128) (by decide : (176 : Nat) ≠ 128)))).trans (zn5 (by decide : (180 : Nat) ≠ 176) (by decide : (179 : Nat) ≠ 176) (by decide : (178 : Nat) ≠ 176) (by decide : (177 : Nat) ≠ 176)))).trans (zn4 (by decide : (180 : Nat) ≠ 177) (by decide : (179 : Nat) ≠ 177) (by decide : (178 : Nat) ≠ 177)))).trans (zn3 (by decide : (180 : Nat) ≠ 178) (by decide : (179 : Nat) ≠ 178)))).trans (zn2 (by decide : (180 : Nat) ≠ 179)))).trans zn1) rfl) ?_
          obtain ⟨rfl, rfl, rfl, rfl, rfl, rfl, rfl⟩ := zinj7 h
          exact zb_iret E hQ rfl ⟨Nat.zero_le _, Nat.zero_le _⟩ dX12_annul_65
        · have h := if_t h hc
          refine zb_iconst E dX12_annul_43 (v := (-1)) rfl ?_
          obtain ⟨rfl, rfl, rfl, rfl, rfl, rfl, rfl⟩ := zinj7 h
          exact zb_iret E hQ rfl ⟨Nat.zero_le _, Nat.zero_le _⟩ dX12_annul_44
theorem c_X12_annul {l : Launch} {X : zX} {I : Nat → Nat → Int32} {J : Nat → Nat → Int64} {Rr : Nat → Nat → Option Nat} {D : zD} {a1 : Int32} (oI128 : Nat → Int32) (eoI128 : I 128 = oI128) (v_acts : Int32) (e_v_acts : I 128 67 = v_acts) (v_actKind : (Nat → Int32)) (e_v_actKind : I 176 = v_actKind) (v_actNumber : (Nat → Int32)) (e_v_actNumber : I 179 = v_actNumber) (v_actShire : (Nat → Int32)) (e_v_actShire : I 178 = v_actShire) (v_actTerm : (Nat → Int32)) (e_v_actTerm : I 177 = v_actTerm) (v_voidAt : (Nat → Int32)) (e_v_voidAt : I 180 = v_voidAt) {rr : Int32} {y_v_acts : Int32} {y_v_actKind : (Nat → Int32)} {y_v_actNumber : (Nat → Int32)} {y_v_actShire : (Nat → Int32)} {y_v_actTerm : (Nat → Int32)} {y_v_voidAt : (Nat → Int32)} (h : pM_annul a1 v_acts v_actKind v_actNumber v_actShire v_actTerm v_voidAt = some (rr, y_v_acts, y_v_actKind, y_v_actNumber, y_v_actShire, y_v_actTerm, y_v_voidAt)) : zMi l yX12_annul cX12_annul 2 (some .int) ({ frames := 1, cells := 0, slots := 0, locals := 25 } : Room) X [.ref (X.1 + 128), .int a1] (I, J, Rr, D) rr ((va_up (va_up (va_up (va_up (va_up (va_up I 128 (va_up oI128 67 y_v_acts)) 176 y_v_actKind) 177 y_v_actTerm) 178 y_v_actShire) 179 y_v_actNumber) 180 y_v_voidAt), J, Rr, D) := by
  subst eoI128
  refine zMi.of (by decide) (Nat.le_of_ble_eq_true rfl) (fun C E hl hX hQ => ?_)
  subst hl
  subst hX
  have eI0 : (va_up (va_up (va_up (va_up (va_up (va_up I 128 (va_up (I 128) 67 v_acts)) 176 v_actKind) 177 v_actTerm) 178 v_actShire) 179 v_actNumber) 180 v_voidAt) = I := by rw [zup_idE e_v_acts, zup_id, zup_idE e_v_actKind, zup_idE e_v_actTerm, zup_idE e_v_actShire, zup_idE e_v_actNumber, zup_idE e_v_voidAt]
  have eJ0 : J = J := rfl
  refine zb_S (S2 := ((va_up (va_up (va_up (va_up (va_up (va_up I 128 (va_up (I 128) 67 v_acts)) 176 v_actKind) 177 v_actTerm) 178 v_actShire) 179 v_actNumber) 180 v_voidAt), J, Rr, D)) (zS_eq eI0.symm eJ0.symm) ?_
  exact c_X12_annul_0 a1 rr y_v_acts y_v_actKind y_v_actNumber y_v_actShire y_v_actTerm y_v_voidAt E hQ v_acts v_actKind v_actNumber v_actShire v_actTerm v_voidAt h
-- ChequeredClothModel.as
theorem dX12_as_0 : decode cX12_as 0 = .ok (.iload_n 1, 1) := by decide +kernel
theorem dX12_as_1 : decode cX12_as 1 = .ok (.i2l, 1) := by decide +kernel
theorem dX12_as_2 : decode cX12_as 2 = .ok (.ldc2_w 458, 3) := by decide +kernel
theorem dX12_as_5 : decode cX12_as 5 = .ok (.aload_n 0, 1) := by decide +kernel
theorem dX12_as_6 : decode cX12_as 6 = .ok (.getfield 429, 3) := by decide +kernel
theorem dX12_as_9 : decode cX12_as 9 = .ok (.i2l, 1) := by decide +kernel
theorem dX12_as_10 : decode cX12_as 10 = .ok (.invokestatic 199, 3) := by decide +kernel
theorem dX12_as_13 : decode cX12_as 13 = .ok (.ifCond .ne 5, 3) := by decide +kernel
theorem dX12_as_16 : decode cX12_as 16 = .ok (.iconst 0, 1) := by decide +kernel
theorem dX12_as_17 : decode cX12_as 17 = .ok (.ireturn, 1) := by decide +kernel
theorem dX12_as_18 : decode cX12_as 18 = .ok (.aload_n 0, 1) := by decide +kernel
theorem dX12_as_19 : decode cX12_as 19 = .ok (.iload_n 1, 1) := by decide +kernel
theorem dX12_as_20 : decode cX12_as 20 = .ok (.putfield 184, 3) := by decide +kernel
theorem dX12_as_23 : decode cX12_as 23 = .ok (.iconst 1, 1) := by decide +kernel
theorem dX12_as_24 : decode cX12_as 24 = .ok (.ireturn, 1) := by decide +kernel
theorem zy_X12_as : zYv yX12_as cX12_as 2 (some .boolean) 1 := ⟨zw_1719, zw_1720, zw_12, zw_1721, by decide, by decide, by decide⟩
theorem c_X12_as_0 {C : zC} {I : Nat → Nat → Int32} {J : Nat → Nat → Int64} {Rr : Nat → Nat → Option Nat} {D : zD} (a1 : Int32) (v_acts : Int32) (e_v_acts : I 128 67 = v_acts) (rr : Int32) (y_v_as : Int32) (E : zE C RX12 cX12_as 2 (some .boolean) ({ frames := 1, cells := 0, slots := 0, locals := 25 } : Room)) (hQ : C.Q = zQi C ({ frames := 1, cells := 0, slots := 0, locals := 25 } : Room) rr ((va_up I 128 (va_up (I 128) 73 y_v_as)), J, Rr, D)) (v_as : Int32) (h : pM_as a1 v_acts v_as = some (rr, y_v_as)) : zB C (0, 0) 0 [(0, .ref (C.X.1 + 128)), (1, .int a1)] [] ((va_up I 128 (va_up (I 128) 73 v_as)), J, Rr, D) := by
  refine zb_iload_n E dX12_as_0 1 rfl rfl ?_
  refine zb_i2l E dX12_as_1 ?_
  refine zb_ldc2 E dX12_as_2 (v := (-1)) zw_1722 ?_
  refine zb_aload_n E dX12_as_5 0 rfl rfl ?_
  refine zb_get E 128 (by decide) (zF_128 C.X) rfl zin12 67 (by decide) zw_1235 (v := .int v_acts) (by exact congrArg (fun z => some (Value.int z)) e_v_acts) dX12_as_6 ?_
  refine zb_i2l E dX12_as_9 ?_
  obtain ⟨rc1, hc_10, h⟩ := bd1_s h
  refine zb_cSi E [.long (i2l a1), .long (-1), .long (i2l v_acts)] zy_X12_isIn zw_1429 (c_X12_isIn hc_10) (by decide) rfl rfl (by first | decide | simp [Value.category]) dX12_as_10 (cs2 := (0, 0)) rfl ?_
  refine zb_if_ne E dX12_as_13 (tgt := 18) rfl (fun hc => ?_) (fun hc => ?_)
  · have h := if_f h hc
    refine zb_aload_n E dX12_as_18 0 rfl rfl ?_
    refine zb_iload_n E dX12_as_19 1 rfl rfl ?_
    refine zb_put E 128 (by decide) (zF_128 C.X) rfl zin12 73 (by decide) zw_1241 tyX12 tyX12_ok nmX12 rfl rfl rfl (I2 := (va_up I 128 (va_up (I 128) 73 a1))) (J2 := J) ((zset12_73 C.X (va_up (I 128) 73 v_as) (J 128) a1).trans (congrArg (fun g => zf12 C.X g (J 128)) zn1)) (by rw [zflen12]; decide) (fun j hj => ⟨(zup_n hj).trans (zup_n hj).symm, rfl⟩) dX12_as_20 ?_
    refine zb_iconst E dX12_as_23 (v := 1) rfl ?_
    obtain ⟨rfl, rfl⟩ := zinj2 h
    exact zb_zret E hQ (ty := .boolean) rfl rfl ⟨Nat.zero_le _, Nat.zero_le _⟩ dX12_as_24
  · have h := if_t h hc
    refine zb_iconst E dX12_as_16 (v := 0) rfl ?_
    obtain ⟨rfl, rfl⟩ := zinj2 h
    exact zb_zret E hQ (ty := .boolean) rfl rfl ⟨Nat.zero_le _, Nat.zero_le _⟩ dX12_as_17
theorem c_X12_as {l : Launch} {X : zX} {I : Nat → Nat → Int32} {J : Nat → Nat → Int64} {Rr : Nat → Nat → Option Nat} {D : zD} {a1 : Int32} (oI128 : Nat → Int32) (eoI128 : I 128 = oI128) (v_acts : Int32) (e_v_acts : I 128 67 = v_acts) (v_as : Int32) (e_v_as : I 128 73 = v_as) {rr : Int32} {y_v_as : Int32} (h : pM_as a1 v_acts v_as = some (rr, y_v_as)) : zMi l yX12_as cX12_as 2 (some .boolean) ({ frames := 1, cells := 0, slots := 0, locals := 25 } : Room) X [.ref (X.1 + 128), .int a1] (I, J, Rr, D) rr ((va_up I 128 (va_up oI128 73 y_v_as)), J, Rr, D) := by
  subst eoI128
  refine zMi.of (by decide) (Nat.le_of_ble_eq_true rfl) (fun C E hl hX hQ => ?_)
  subst hl
  subst hX
  have eI0 : (va_up I 128 (va_up (I 128) 73 v_as)) = I := by rw [zup_idE e_v_as, zup_id]
  have eJ0 : J = J := rfl
  refine zb_S (S2 := ((va_up I 128 (va_up (I 128) 73 v_as)), J, Rr, D)) (zS_eq eI0.symm eJ0.symm) ?_
  exact c_X12_as_0 a1 v_acts e_v_acts rr y_v_as E hQ v_as h
-- ChequeredClothModel.asNow
theorem dX12_asNow_0 : decode cX12_asNow 0 = .ok (.aload_n 0, 1) := by decide +kernel
theorem dX12_asNow_1 : decode cX12_asNow 1 = .ok (.getfield 184, 3) := by decide +kernel
theorem dX12_asNow_4 : decode cX12_asNow 4 = .ok (.iconst (-1), 1) := by decide +kernel
theorem dX12_asNow_5 : decode cX12_asNow 5 = .ok (.if_icmp .ne 10, 3) := by decide +kernel
theorem dX12_asNow_8 : decode cX12_asNow 8 = .ok (.aload_n 0, 1) := by decide +kernel
theorem dX12_asNow_9 : decode cX12_asNow 9 = .ok (.getfield 429, 3) := by decide +kernel
theorem dX12_asNow_12 : decode cX12_asNow 12 = .ok (.goto 7, 3) := by decide +kernel
theorem dX12_asNow_15 : decode cX12_asNow 15 = .ok (.aload_n 0, 1) := by decide +kernel
theorem dX12_asNow_16 : decode cX12_asNow 16 = .ok (.getfield 184, 3) := by decide +kernel
theorem dX12_asNow_19 : decode cX12_asNow 19 = .ok (.ireturn, 1) := by decide +kernel
theorem zy_X12_asNow : zYv yX12_asNow cX12_asNow 1 (some .int) 0 := ⟨zw_1729, zws_85, zw_12, zw_1730, by decide, by decide, by decide⟩
theorem c_X12_asNow_0 {C : zC} {I : Nat → Nat → Int32} {J : Nat → Nat → Int64} {Rr : Nat → Nat → Option Nat} {D : zD} (v_acts : Int32) (e_v_acts : I 128 67 = v_acts) (v_as : Int32) (e_v_as : I 128 73 = v_as) (rr : Int32) (E : zE C RX12 cX12_asNow 1 (some .int) ({ frames := 0, cells := 0, slots := 0, locals := 0 } : Room)) (hQ : C.Q = zQi C ({ frames := 0, cells := 0, slots := 0, locals := 0 } : Room) rr (I, J, Rr, D)) (h : pM_asNow v_acts v_as = some rr) : zB C (0, 0) 0 [(0, .ref (C.X.1 + 128))] [] (I, J, Rr, D) := by
  refine zb_aload_n E dX12_asNow_0 0 rfl rfl ?_
  refine zb_get E 128 (by decide) (zF_128 C.X) rfl zin12 73 (by decide) zw_1241 (v := .int v_as) (by exact congrArg (fun z => some (Value.int z)) e_v_as) dX12_asNow_1 ?_
  refine zb_iconst E dX12_asNow_4 (v := (-1)) rfl ?_
  refine zb_icmp_ne E dX12_asNow_5 (tgt := 15) rfl (fun hc => ?_) (fun hc => ?_)
  · have h := if_f h hc
    refine zb_aload_n E dX12_asNow_15 0 rfl rfl ?_
    refine zb_get E 128 (by decide) (zF_128 C.X) rfl zin12 73 (by decide) zw_1241 (v := .int v_as) (by exact congrArg (fun z => some (Value.int z)) e_v_as) dX12_asNow_16 ?_
    obtain rfl := zinj1 h
    exact zb_iret E hQ rfl ⟨Nat.zero_le _, Nat.zero_le _⟩ dX12_asNow_19
  · have h := if_t h hc
    refine zb_aload_n E dX12_asNow_8 0 rfl rfl ?_
    refine zb_get E 128 (by decide) (zF_128 C.X) rfl zin12 67 (by decide) zw_1235 (v := .int v_acts) (by exact congrArg (fun z => some (Value.int z)) e_v_acts) dX12_asNow_9 ?_
    refine zb_goto E dX12_asNow_12 (tgt := 19) rfl ?_
    obtain rfl := zinj1 h
    exact zb_iret E hQ rfl ⟨Nat.zero_le _, Nat.zero_le _⟩ dX12_asNow_19
theorem c_X12_asNow {l : Launch} {X : zX} {I : Nat → Nat → Int32} {J : Nat → Nat → Int64} {Rr : Nat → Nat → Option Nat} {D : zD} (v_acts : Int32) (e_v_acts : I 128 67 = v_acts) (v_as : Int32) (e_v_as : I 128 73 = v_as) {rr : Int32} (h : pM_asNow v_acts v_as = some rr) : zMi l yX12_asNow cX12_asNow 1 (some .int) ({ frames := 0, cells := 0, slots := 0, locals := 0 } : Room) X [.ref (X.1 + 128)] (I, J, Rr, D) rr (I, J, Rr, D) := by
  refine zMi.of (by decide) (Nat.le_of_ble_eq_true rfl) (fun C E hl hX hQ => ?_)
  subst hl
  subst hX
  have eI0 : I = I := rfl
  have eJ0 : J = J := rfl
  refine zb_S (S2 := (I, J, Rr, D)) (zS_eq eI0.symm eJ0.symm) ?_
  exact c_X12_asNow_0 v_acts e_v_acts v_as e_v_as rr E hQ h
-- ChequeredClothModel.isKnown
theorem dX12_isKnown_0 : decode cX12_isKnown 0 = .ok (.iload_n 1, 1) := by decide +kernel
theorem dX12_isKnown_1 : decode cX12_isKnown 1 = .ok (.aload_n 0, 1) := by decide +kernel
theorem dX12_isKnown_2 : decode cX12_isKnown 2 = .ok (.getfield 460, 3) := by decide +kernel
theorem dX12_isKnown_5 : decode cX12_isKnown 5 = .ok (.if_icmp .gt 37, 3) := by decide +kernel
theorem dX12_isKnown_8 : decode cX12_isKnown 8 = .ok (.aload_n 0, 1) := by decide +kernel
theorem dX12_isKnown_9 : decode cX12_isKnown 9 = .ok (.getfield 181, 3) := by decide +kernel
theorem dX12_isKnown_12 : decode cX12_isKnown 12 = .ok (.iload_n 1, 1) := by decide +kernel
theorem dX12_isKnown_13 : decode cX12_isKnown 13 = .ok (.iaload, 1) := by decide +kernel
theorem dX12_isKnown_14 : decode cX12_isKnown 14 = .ok (.ifCond .eq 16, 3) := by decide +kernel
theorem dX12_isKnown_17 : decode cX12_isKnown 17 = .ok (.aload_n 0, 1) := by decide +kernel
theorem dX12_isKnown_18 : decode cX12_isKnown 18 = .ok (.getfield 181, 3) := by decide +kernel
theorem dX12_isKnown_21 : decode cX12_isKnown 21 = .ok (.iload_n 1, 1) := by decide +kernel
theorem dX12_isKnown_22 : decode cX12_isKnown 22 = .ok (.iaload, 1) := by decide +kernel
theorem dX12_isKnown_23 : decode cX12_isKnown 23 = .ok (.aload_n 0, 1) := by decide +kernel
theorem dX12_isKnown_24 : decode cX12_isKnown 24 = .ok (.getfield 460, 3) := by decide +kernel
theorem dX12_isKnown_27 : decode cX12_isKnown 27 = .ok (.if_icmp .le 15, 3) := by decide +kernel
theorem dX12_isKnown_30 : decode cX12_isKnown 30 = .ok (.iload_n 1, 1) := by decide +kernel
theorem dX12_isKnown_31 : decode cX12_isKnown 31 = .ok (.aload_n 0, 1) := by decide +kernel
theorem dX12_isKnown_32 : decode cX12_isKnown 32 = .ok (.getfield 463, 3) := by decide +kernel
theorem dX12_isKnown_35 : decode cX12_isKnown 35 = .ok (.if_icmp .eq 7, 3) := by decide +kernel
theorem dX12_isKnown_38 : decode cX12_isKnown 38 = .ok (.iconst 1, 1) := by decide +kernel
theorem dX12_isKnown_39 : decode cX12_isKnown 39 = .ok (.goto 4, 3) := by decide +kernel
theorem dX12_isKnown_42 : decode cX12_isKnown 42 = .ok (.iconst 0, 1) := by decide +kernel
theorem dX12_isKnown_43 : decode cX12_isKnown 43 = .ok (.ireturn, 1) := by decide +kernel
theorem zy_X12_isKnown : zYv yX12_isKnown cX12_isKnown 2 (some .boolean) 1 := ⟨zw_1741, zws_88, zw_12, zw_1742, by decide, by decide, by decide⟩
theorem c_X12_isKnown_b30 {C : zC} {I : Nat → Nat → Int32} {J : Nat → Nat → Int64} {Rr : Nat → Nat → Option Nat} {D : zD} (a1 : Int32) (v_knownAt : Int32) (e_v_knownAt : I 128 74 = v_knownAt) (v_without : Int32) (e_v_without : I 128 75 = v_without) (v_voidAt : (Nat → Int32)) (e_v_voidAt : I 180 = v_voidAt) (rr : Int32) (E : zE C RX12 cX12_isKnown 2 (some .boolean) ({ frames := 0, cells := 0, slots := 0, locals := 0 } : Room)) (hQ : C.Q = zQi C ({ frames := 0, cells := 0, slots := 0, locals := 0 } : Room) rr (I, J, Rr, D)) (h : pM_isKnown_b30 a1 v_knownAt v_without v_voidAt = some rr) : zB C (0, 0) 30 [(0, .ref (C.X.1 + 128)), (1, .int a1)] [] (I, J, Rr, D) := by
  refine zb_iload_n E dX12_isKnown_30 1 rfl rfl ?_
  refine zb_aload_n E dX12_isKnown_31 0 rfl rfl ?_
  refine zb_get E 128 (by decide) (zF_128 C.X) rfl zin12 75 (by decide) zw_1243 (v := .int v_without) (by exact congrArg (fun z => some (Value.int z)) e_v_without) dX12_isKnown_32 ?_
  refine zb_icmp_eq E dX12_isKnown_35 (tgt := 42) rfl (fun hc => ?_) (fun hc => ?_)
  · have h := if_t h hc
    refine zb_iconst E dX12_isKnown_42 (v := 0) rfl ?_
    obtain rfl := zinj1 h
    exact zb_zret E hQ (ty := .boolean) rfl rfl ⟨Nat.zero_le _, Nat.zero_le _⟩ dX12_isKnown_43
  · have h := if_f h hc
    refine zb_iconst E dX12_isKnown_38 (v := 1) rfl ?_
    refine zb_goto E dX12_isKnown_39 (tgt := 43) rfl ?_
    obtain rfl := zinj1 h
    exact zb_zret E hQ (ty := .boolean) rfl rfl ⟨Nat.zero_le _, Nat.zero_le _⟩ dX12_isKnown_43
theorem c_X12_isKnown_0 {C : zC} {I : Nat → Nat → Int32} {J : Nat → Nat → Int64} {Rr : Nat → Nat → Option Nat} {D : zD} (a1 : Int32) (v_knownAt : Int32) (e_v_knownAt : I 128 74 = v_knownAt) (v_without : Int32) (e_v_without : I 128 75 = v_without) (v_voidAt : (Nat → Int32)) (e_v_voidAt : I 180 = v_voidAt) (rr : Int32) (E : zE C RX12 cX12_isKnown 2 (some .boolean) ({ frames := 0, cells := 0, slots := 0, locals := 0 } : Room)) (hQ : C.Q = zQi C ({ frames := 0, cells := 0, slots := 0, locals := 0 } : Room) rr (I, J, Rr, D)) (h : pM_isKnown a1 v_knownAt v_without v_voidAt = some rr) : zB C (0, 0) 0 [(0, .ref (C.X.1 + 128)), (1, .int a1)] [] (I, J, Rr, D) := by
  refine zb_iload_n E dX12_isKnown_0 1 rfl rfl ?_
  refine zb_aload_n E dX12_isKnown_1 0 rfl rfl ?_
  refine zb_get E 128 (by decide) (zF_128 C.X) rfl zin12 74 (by decide) zw_1242 (v := .int v_knownAt) (by exact congrArg (fun z => some (Value.int z)) e_v_knownAt) dX12_isKnown_2 ?_
  refine zb_icmp_gt E dX12_isKnown_5 (tgt := 42) rfl (fun hc => ?_) (fun hc => ?_)
  · have h := if_t h hc
    refine zb_iconst E dX12_isKnown_42 (v := 0) rfl ?_
    obtain rfl := zinj1 h
    exact zb_zret E hQ (ty := .boolean) rfl rfl ⟨Nat.zero_le _, Nat.zero_le _⟩ dX12_isKnown_43
  · have h := if_f h hc
    refine zb_aload_n E dX12_isKnown_8 0 rfl rfl ?_
    refine zb_get E 128 (by decide) (zF_128 C.X) rfl zin12 72 (by decide) zw_1240 (v := .ref (C.X.1 + 180)) rfl dX12_isKnown_9 ?_
    refine zb_iload_n E dX12_isKnown_12 1 rfl rfl ?_
    obtain ⟨g1, h⟩ := gd_s h
    refine zb_iald E 180 (by decide) zF_180 (f := v_voidAt) (by exact e_v_voidAt) (ib_in g1) dX12_isKnown_13 ?_
    refine zb_if_eq E dX12_isKnown_14 (tgt := 30) rfl (fun hc => ?_) (fun hc => ?_)
    · have h := if_t h hc
      exact c_X12_isKnown_b30 a1 v_knownAt e_v_knownAt v_without e_v_without v_voidAt e_v_voidAt rr E hQ h
    · have h := if_f h hc
      refine zb_aload_n E dX12_isKnown_17 0 rfl rfl ?_
      refine zb_get E 128 (by decide) (zF_128 C.X) rfl zin12 72 (by decide) zw_1240 (v := .ref (C.X.1 + 180)) rfl dX12_isKnown_18 ?_
      refine zb_iload_n E dX12_isKnown_21 1 rfl rfl ?_
      refine zb_iald E 180 (by decide) zF_180 (f := v_voidAt) (by exact e_v_voidAt) (ib_in g1) dX12_isKnown_22 ?_
      refine zb_aload_n E dX12_isKnown_23 0 rfl rfl ?_
      refine zb_get E 128 (by decide) (zF_128 C.X) rfl zin12 74 (by decide) zw_1242 (v := .int v_knownAt) (by exact congrArg (fun z => some (Value.int z)) e_v_knownAt) dX12_isKnown_24 ?_
      refine zb_icmp_le E dX12_isKnown_27 (tgt := 42) rfl (fun hc => ?_) (fun hc => ?_)
      · have h := if_t h hc
        refine zb_iconst E dX12_isKnown_42 (v := 0) rfl ?_
        obtain rfl := zinj1 h
        exact zb_zret E hQ (ty := .boolean) rfl rfl ⟨Nat.zero_le _, Nat.zero_le _⟩ dX12_isKnown_43
      · have h := if_f h hc
        exact c_X12_isKnown_b30 a1 v_knownAt e_v_knownAt v_without e_v_without v_voidAt e_v_voidAt rr E hQ h
theorem c_X12_isKnown {l : Launch} {X : zX} {I : Nat → Nat → Int32} {J : Nat → Nat → Int64} {Rr : Nat → Nat → Option Nat} {D : zD} {a1 : Int32} (v_knownAt : Int32) (e_v_knownAt : I 128 74 = v_knownAt) (v_without : Int32) (e_v_without : I 128 75 = v_without) (v_voidAt : (Nat → Int32)) (e_v_voidAt : I 180 = v_voidAt) {rr : Int32} (h : pM_isKnown a1 v_knownAt v_without v_voidAt = some rr) : zMi l yX12_isKnown cX12_isKnown 2 (some .boolean) ({ frames := 0, cells := 0, slots := 0, locals := 0 } : Room) X [.ref (X.1 + 128), .int a1] (I, J, Rr, D) rr (I, J, Rr, D) := by
  refine zMi.of (by decide) (Nat.le_of_ble_eq_true rfl) (fun C E hl hX hQ => ?_)
  subst hl
  subst hX
  have eI0 : I = I := rfl
  have eJ0 : J = J := rfl
  refine zb_S (S2 := (I, J, Rr, D)) (zS_eq eI0.symm eJ0.symm) ?_
  exact c_X12_isKnown_0 a1 v_knownAt e_v_knownAt v_without e_v_without v_voidAt e_v_voidAt rr E hQ h
-- ChequeredClothModel.writOf
theorem dX12_writOf_0 : decode cX12_writOf 0 = .ok (.iconst 0, 1) := by decide +kernel
theorem dX12_writOf_1 : decode cX12_writOf 1 = .ok (.istore_n 2, 1) := by decide +kernel
theorem dX12_writOf_2 : decode cX12_writOf 2 = .ok (.iconst 1, 1) := by decide +kernel
theorem dX12_writOf_3 : decode cX12_writOf 3 = .ok (.istore_n 3, 1) := by decide +kernel
theorem dX12_writOf_4 : decode cX12_writOf 4 = .ok (.iload_n 3, 1) := by decide +kernel
theorem dX12_writOf_5 : decode cX12_writOf 5 = .ok (.aload_n 0, 1) := by decide +kernel
theorem dX12_writOf_6 : decode cX12_writOf 6 = .ok (.getfield 429, 3) := by decide +kernel
theorem dX12_writOf_9 : decode cX12_writOf 9 = .ok (.if_icmp .gt 58, 3) := by decide +kernel
theorem dX12_writOf_12 : decode cX12_writOf 12 = .ok (.aload_n 0, 1) := by decide +kernel
theorem dX12_writOf_13 : decode cX12_writOf 13 = .ok (.getfield 169, 3) := by decide +kernel
theorem dX12_writOf_16 : decode cX12_writOf 16 = .ok (.iload_n 3, 1) := by decide +kernel
theorem dX12_writOf_17 : decode cX12_writOf 17 = .ok (.iaload, 1) := by decide +kernel
theorem dX12_writOf_18 : decode cX12_writOf 18 = .ok (.iconst 1, 1) := by decide +kernel
theorem dX12_writOf_19 : decode cX12_writOf 19 = .ok (.if_icmp .ne 42, 3) := by decide +kernel
theorem dX12_writOf_22 : decode cX12_writOf 22 = .ok (.aload_n 0, 1) := by decide +kernel
theorem dX12_writOf_23 : decode cX12_writOf 23 = .ok (.iload_n 3, 1) := by decide +kernel
theorem dX12_writOf_24 : decode cX12_writOf 24 = .ok (.invokevirtual 466, 3) := by decide +kernel
theorem dX12_writOf_27 : decode cX12_writOf 27 = .ok (.ifCond .eq 34, 3) := by decide +kernel
theorem dX12_writOf_30 : decode cX12_writOf 30 = .ok (.aload_n 0, 1) := by decide +kernel
theorem dX12_writOf_31 : decode cX12_writOf 31 = .ok (.getfield 172, 3) := by decide +kernel
theorem dX12_writOf_34 : decode cX12_writOf 34 = .ok (.iload_n 3, 1) := by decide +kernel
theorem dX12_writOf_35 : decode cX12_writOf 35 = .ok (.iaload, 1) := by decide +kernel
theorem dX12_writOf_36 : decode cX12_writOf 36 = .ok (.iload_n 1, 1) := by decide +kernel
theorem dX12_writOf_37 : decode cX12_writOf 37 = .ok (.if_icmp .gt 24, 3) := by decide +kernel
theorem dX12_writOf_40 : decode cX12_writOf 40 = .ok (.iload_n 2, 1) := by decide +kernel
theorem dX12_writOf_41 : decode cX12_writOf 41 = .ok (.ifCond .eq 18, 3) := by decide +kernel
theorem dX12_writOf_44 : decode cX12_writOf 44 = .ok (.aload_n 0, 1) := by decide +kernel
theorem dX12_writOf_45 : decode cX12_writOf 45 = .ok (.getfield 172, 3) := by decide +kernel
theorem dX12_writOf_48 : decode cX12_writOf 48 = .ok (.iload_n 3, 1) := by decide +kernel
theorem dX12_writOf_49 : decode cX12_writOf 49 = .ok (.iaload, 1) := by decide +kernel
theorem dX12_writOf_50 : decode cX12_writOf 50 = .ok (.aload_n 0, 1) := by decide +kernel
theorem dX12_writOf_51 : decode cX12_writOf 51 = .ok (.getfield 172, 3) := by decide +kernel
theorem dX12_writOf_54 : decode cX12_writOf 54 = .ok (.iload_n 2, 1) := by decide +kernel
theorem dX12_writOf_55 : decode cX12_writOf 55 = .ok (.iaload, 1) := by decide +kernel
theorem dX12_writOf_56 : decode cX12_writOf 56 = .ok (.if_icmp .lt 5, 3) := by decide +kernel
theorem dX12_writOf_59 : decode cX12_writOf 59 = .ok (.iload_n 3, 1) := by decide +kernel
theorem dX12_writOf_60 : decode cX12_writOf 60 = .ok (.istore_n 2, 1) := by decide +kernel
theorem dX12_writOf_61 : decode cX12_writOf 61 = .ok (.iinc 3 1, 3) := by decide +kernel
theorem dX12_writOf_64 : decode cX12_writOf 64 = .ok (.goto (-60), 3) := by decide +kernel
theorem dX12_writOf_67 : decode cX12_writOf 67 = .ok (.iload_n 2, 1) := by decide +kernel
theorem dX12_writOf_68 : decode cX12_writOf 68 = .ok (.ireturn, 1) := by decide +kernel
theorem zy_X12_writOf : zYv yX12_writOf cX12_writOf 4 (some .int) 1 := ⟨zw_1737, zws_87, zw_12, zw_1738, by decide, by decide, by decide⟩
theorem c_X12_writOf_b4 {C : zC} {I : Nat → Nat → Int32} {J : Nat → Nat → Int64} {Rr : Nat → Nat → Option Nat} {D : zD} (N : Nat) (a1 : Int32) (v_acts : Int32) (e_v_acts : I 128 67 = v_acts) (v_knownAt : Int32) (e_v_knownAt : I 128 74 = v_knownAt) (v_without : Int32) (e_v_without : I 128 75 = v_without) (v_actKind : (Nat → Int32)) (e_v_actKind : I 176 = v_actKind) (v_actTerm : (Nat → Int32)) (e_v_actTerm : I 177 = v_actTerm) (v_voidAt : (Nat → Int32)) (e_v_voidAt : I 180 = v_voidAt) (rr : Int32) (E : zE C RX12 cX12_writOf 4 (some .int) ({ frames := 1, cells := 0, slots := 0, locals := 21 } : Room)) (hQ : C.Q = zQi C ({ frames := 1, cells := 0, slots := 0, locals := 21 } : Room) rr (I, J, Rr, D))  : ∀ (n9 : Nat) (x2 : Int32) (x3 : Int32), pM_writOf_b4 N a1 v_acts v_knownAt v_without v_actKind v_actTerm v_voidAt n9 x2 x3 = some rr → zB C (0, 0) 4 [(0, .ref (C.X.1 + 128)), (1, .int a1), (2, .int x2), (3, .int x3)] [] (I, J, Rr, D) := by
  refine zlp2_ind (P := fun (x2 : Int32) (x3 : Int32) => zB C (0, 0) 4 [(0, .ref (C.X.1 + 128)), (1, .int a1), (2, .int x2), (3, .int x3)] [] (I, J, Rr, D)) (fun self ih => ?_)
  intro x2 x3 h
  refine zb_iload_n E dX12_writOf_4 3 rfl rfl ?_
  refine zb_aload_n E dX12_writOf_5 0 rfl rfl ?_
  refine zb_get E 128 (by decide) (zF_128 C.X) rfl zin12 67 (by decide) zw_1235 (v := .int v_acts) (by exact congrArg (fun z => some (Value.int z)) e_v_acts) dX12_writOf_6 ?_
  refine zb_icmp_gt E dX12_writOf_9 (tgt := 67) rfl (fun hc => ?_) (fun hc => ?_)
  · have h := if_t h hc
    refine zb_iload_n E dX12_writOf_67 2 rfl rfl ?_
    obtain rfl := zinj1 h
    exact zb_iret E hQ rfl ⟨Nat.zero_le _, Nat.zero_le _⟩ dX12_writOf_68
  · have h := if_f h hc
    refine zb_aload_n E dX12_writOf_12 0 rfl rfl ?_
    refine zb_get E 128 (by decide) (zF_128 C.X) rfl zin12 68 (by decide) zw_1236 (v := .ref (C.X.1 + 176)) rfl dX12_writOf_13 ?_
    refine zb_iload_n E dX12_writOf_16 3 rfl rfl ?_
    obtain ⟨g1, h⟩ := gd_s h
    refine zb_iald E 176 (by decide) zF_176 (f := v_actKind) (by exact e_v_actKind) (ib_in g1) dX12_writOf_17 ?_
    refine zb_iconst E dX12_writOf_18 (v := 1) rfl ?_
    refine zb_icmp_ne E dX12_writOf_19 (tgt := 61) rfl (fun hc => ?_) (fun hc => ?_)
    · have h := if_f h hc
      refine zb_iinc E dX12_writOf_61 3 rfl (v := (x3 + 1)) rfl (by decide) (lv2 := [(3, .int (x3 + 1)), (0, .ref (C.X.1 + 128)), (1, .int a1), (2, .int x2)]) rfl ?_
      refine zb_goto E dX12_writOf_64 (tgt := 4) rfl ?_
      refine zb_sub [1, 2, 3, 0] rfl ?_
      exact ih x2 (x3 + 1) h
    · have h := if_t h hc
      refine zb_aload_n E dX12_writOf_22 0 rfl rfl ?_
      refine zb_iload_n E dX12_writOf_23 3 rfl rfl ?_
      obtain ⟨rc2, hc_24, h⟩ := bd1_s h
      refine zb_cVi E [.int x3] 128 zy_X12_isKnown zw_1739 (by decide) (zF_128 _ _ _ _) rfl (c_X12_isKnown v_knownAt (by exact e_v_knownAt) v_without (by exact e_v_without) v_voidAt (by exact e_v_voidAt) hc_24) (by decide) rfl rfl (by first | decide | simp [Value.category]) dX12_writOf_24 (cs2 := (0, 0)) rfl ?_
      refine zb_if_eq E dX12_writOf_27 (tgt := 61) rfl (fun hc => ?_) (fun hc => ?_)
      · have h := if_t h hc
        refine zb_iinc E dX12_writOf_61 3 rfl (v := (x3 + 1)) rfl (by decide) (lv2 := [(3, .int (x3 + 1)), (0, .ref (C.X.1 + 128)), (1, .int a1), (2, .int x2)]) rfl ?_
        refine zb_goto E dX12_writOf_64 (tgt := 4) rfl ?_
        refine zb_sub [1, 2, 3, 0] rfl ?_
        exact ih x2 (x3 + 1) h
      · have h := if_f h hc
        refine zb_aload_n E dX12_writOf_30 0 rfl rfl ?_
        refine zb_get E 128 (by decide) (zF_128 C.X) rfl zin12 69 (by decide) zw_1237 (v := .ref (C.X.1 + 177)) rfl dX12_writOf_31 ?_
        refine zb_iload_n E dX12_writOf_34 3 rfl rfl ?_
        refine zb_iald E 177 (by decide) zF_177 (f := v_actTerm) (by exact e_v_actTerm) (ib_in g1) dX12_writOf_35 ?_
        refine zb_iload_n E dX12_writOf_36 1 rfl rfl ?_
        refine zb_icmp_gt E dX12_writOf_37 (tgt := 61) rfl (fun hc => ?_) (fun hc => ?_)
        · have h := if_t h hc
          refine zb_iinc E dX12_writOf_61 3 rfl (v := (x3 + 1)) rfl (by decide) (lv2 := [(3, .int (x3 + 1)), (0, .ref (C.X.1 + 128)), (1, .int a1), (2, .int x2)]) rfl ?_
          refine zb_goto E dX12_writOf_64 (tgt := 4) rfl ?_
          refine zb_sub [1, 2, 3, 0] rfl ?_
          exact ih x2 (x3 + 1) h
        · have h := if_f h hc
          refine zb_iload_n E dX12_writOf_40 2 rfl rfl ?_
          refine zb_if_eq E dX12_writOf_41 (tgt := 59) rfl (fun hc => ?_) (fun hc => ?_)
          · have h := if_t h hc
            refine zb_iload_n E dX12_writOf_59 3 rfl rfl ?_
            refine zb_istore_n E dX12_writOf_60 rfl (by decide) (lv2 := [(2, .int x3), (0, .ref (C.X.1 + 128)), (1, .int a1), (3, .int x3)]) rfl ?_
            refine zb_iinc E dX12_writOf_61 3 rfl (v := (x3 + 1)) rfl (by decide) (lv2 := [(3, .int (x3 + 1)), (2, .int x3), (0, .ref (C.X.1 + 128)), (1, .int a1)]) rfl ?_
            refine zb_goto E dX12_writOf_64 (tgt := 4) rfl ?_
            refine zb_sub [2, 3, 1, 0] rfl ?_
            exact ih x3 (x3 + 1) h
          · have h := if_f h hc
            refine zb_aload_n E dX12_writOf_44 0 rfl rfl ?_
            refine zb_get E 128 (by decide) (zF_128 C.X) rfl zin12 69 (by decide) zw_1237 (v := .ref (C.X.1 + 177)) rfl dX12_writOf_45 ?_
            refine zb_iload_n E dX12_writOf_48 3 rfl rfl ?_
            refine zb_iald E 177 (by decide) zF_177 (f := v_actTerm) (by exact e_v_actTerm) (ib_in g1) dX12_writOf_49 ?_
            refine zb_aload_n E dX12_writOf_50 0 rfl rfl ?_
            refine zb_get E 128 (by decide) (zF_128 C.X) rfl zin12 69 (by decide) zw_1237 (v := .ref (C.X.1 + 177)) rfl dX12_writOf_51 ?_
            refine zb_iload_n E dX12_writOf_54 2 rfl rfl ?_
            obtain ⟨g3, h⟩ := gd_s h
            refine zb_iald E 177 (by decide) zF_177 (f := v_actTerm) (by exact e_v_actTerm) (ib_in g3) dX12_writOf_55 ?_
            refine zb_icmp_lt E dX12_writOf_56 (tgt := 61) rfl (fun hc => ?_) (fun hc => ?_)
            · have h := if_t h hc
              refine zb_iinc E dX12_writOf_61 3 rfl (v := (x3 + 1)) rfl (by decide) (lv2 := [(3, .int (x3 + 1)), (0, .ref (C.X.1 + 128)), (1, .int a1), (2, .int x2)]) rfl ?_
              refine zb_goto E dX12_writOf_64 (tgt := 4) rfl ?_
              refine zb_sub [1, 2, 3, 0] rfl ?_
              exact ih x2 (x3 + 1) h
            · have h := if_f h hc
              refine zb_iload_n E dX12_writOf_59 3 rfl rfl ?_
              refine zb_istore_n E dX12_writOf_60 rfl (by decide) (lv2 := [(2, .int x3), (0, .ref (C.X.1 + 128)), (1, .int a1), (3, .int x3)]) rfl ?_
              refine zb_iinc E dX12_writOf_61 3 rfl (v := (x3 + 1)) rfl (by decide) (lv2 := [(3, .int (x3 + 1)), (2, .int x3), (0, .ref (C.X.1 + 128)), (1, .int a1)]) rfl ?_
              refine zb_goto E dX12_writOf_64 (tgt := 4) rfl ?_
              refine zb_sub [2, 3, 1, 0] rfl ?_
              exact ih x3 (x3 + 1) h
theorem c_X12_writOf_0 {C : zC} {I : Nat → Nat → Int32} {J : Nat → Nat → Int64} {Rr : Nat → Nat → Option Nat} {D : zD} (N : Nat) (a1 : Int32) (v_acts : Int32) (e_v_acts : I 128 67 = v_acts) (v_knownAt : Int32) (e_v_knownAt : I 128 74 = v_knownAt) (v_without : Int32) (e_v_without : I 128 75 = v_without) (v_actKind : (Nat → Int32)) (e_v_actKind : I 176 = v_actKind) (v_actTerm : (Nat → Int32)) (e_v_actTerm : I 177 = v_actTerm) (v_voidAt : (Nat → Int32)) (e_v_voidAt : I 180 = v_voidAt) (rr : Int32) (E : zE C RX12 cX12_writOf 4 (some .int) ({ frames := 1, cells := 0, slots := 0, locals := 21 } : Room)) (hQ : C.Q = zQi C ({ frames := 1, cells := 0, slots := 0, locals := 21 } : Room) rr (I, J, Rr, D)) (h : pM_writOf N a1 v_acts v_knownAt v_without v_actKind v_actTerm v_voidAt = some rr) : zB C (0, 0) 0 [(0, .ref (C.X.1 + 128)), (1, .int a1)] [] (I, J, Rr, D) := by
  refine zb_iconst E dX12_writOf_0 (v := 0) rfl ?_
  refine zb_istore_n E dX12_writOf_1 rfl (by decide) (lv2 := [(2, .int 0), (0, .ref (C.X.1 + 128)), (1, .int a1)]) rfl ?_
  refine zb_iconst E dX12_writOf_2 (v := 1) rfl ?_
  refine zb_istore_n E dX12_writOf_3 rfl (by decide) (lv2 := [(3, .int 1), (2, .int 0), (0, .ref (C.X.1 + 128)), (1, .int a1)]) rfl ?_
  refine zb_sub [2, 3, 1, 0] rfl ?_
  exact c_X12_writOf_b4 N a1 v_acts e_v_acts v_knownAt e_v_knownAt v_without e_v_without v_actKind e_v_actKind v_actTerm e_v_actTerm v_voidAt e_v_voidAt rr E hQ _ 0 1 h
theorem c_X12_writOf {l : Launch} {X : zX} {I : Nat → Nat → Int32} {J : Nat → Nat → Int64} {Rr : Nat → Nat → Option Nat} {D : zD} {N : Nat} {a1 : Int32} (v_acts : Int32) (e_v_acts : I 128 67 = v_acts) (v_knownAt : Int32) (e_v_knownAt : I 128 74 = v_knownAt) (v_without : Int32) (e_v_without : I 128 75 = v_without) (v_actKind : (Nat → Int32)) (e_v_actKind : I 176 = v_actKind) (v_actTerm : (Nat → Int32)) (e_v_actTerm : I 177 = v_actTerm) (v_voidAt : (Nat → Int32)) (e_v_voidAt : I 180 = v_voidAt) {rr : Int32} (h : pM_writOf N a1 v_acts v_knownAt v_without v_actKind v_actTerm v_voidAt = some rr) : zMi l yX12_writOf cX12_writOf 4 (some .int) ({ frames := 1, cells := 0, slots := 0, locals := 21 } : Room) X [.ref (X.1 + 128), .int a1] (I, J, Rr, D) rr (I, J, Rr, D) := by
  refine zMi.of (by decide) (Nat.le_of_ble_eq_true rfl) (fun C E hl hX hQ => ?_)
  subst hl
  subst hX
  have eI0 : I = I := rfl
  have eJ0 : J = J := rfl
  refine zb_S (S2 := (I, J, Rr, D)) (zS_eq eI0.symm eJ0.symm) ?_
  exact c_X12_writOf_0 N a1 v_acts e_v_acts v_knownAt e_v_knownAt v_without e_v_without v_actKind e_v_actKind v_actTerm e_v_actTerm v_voidAt e_v_voidAt rr E hQ h
-- ChequeredClothModel.fireOf
theorem dX12_fireOf_0 : decode cX12_fireOf 0 = .ok (.iconst 0, 1) := by decide +kernel
theorem dX12_fireOf_1 : decode cX12_fireOf 1 = .ok (.istore_n 2, 1) := by decide +kernel
theorem dX12_fireOf_2 : decode cX12_fireOf 2 = .ok (.iconst 1, 1) := by decide +kernel
theorem dX12_fireOf_3 : decode cX12_fireOf 3 = .ok (.istore_n 3, 1) := by decide +kernel
theorem dX12_fireOf_4 : decode cX12_fireOf 4 = .ok (.iload_n 3, 1) := by decide +kernel
theorem dX12_fireOf_5 : decode cX12_fireOf 5 = .ok (.aload_n 0, 1) := by decide +kernel
theorem dX12_fireOf_6 : decode cX12_fireOf 6 = .ok (.getfield 429, 3) := by decide +kernel
theorem dX12_fireOf_9 : decode cX12_fireOf 9 = .ok (.if_icmp .gt 44, 3) := by decide +kernel
theorem dX12_fireOf_12 : decode cX12_fireOf 12 = .ok (.aload_n 0, 1) := by decide +kernel
theorem dX12_fireOf_13 : decode cX12_fireOf 13 = .ok (.getfield 169, 3) := by decide +kernel
theorem dX12_fireOf_16 : decode cX12_fireOf 16 = .ok (.iload_n 3, 1) := by decide +kernel
theorem dX12_fireOf_17 : decode cX12_fireOf 17 = .ok (.iaload, 1) := by decide +kernel
theorem dX12_fireOf_18 : decode cX12_fireOf 18 = .ok (.iconst 4, 1) := by decide +kernel
theorem dX12_fireOf_19 : decode cX12_fireOf 19 = .ok (.if_icmp .ne 28, 3) := by decide +kernel
theorem dX12_fireOf_22 : decode cX12_fireOf 22 = .ok (.aload_n 0, 1) := by decide +kernel
theorem dX12_fireOf_23 : decode cX12_fireOf 23 = .ok (.iload_n 3, 1) := by decide +kernel
theorem dX12_fireOf_24 : decode cX12_fireOf 24 = .ok (.invokevirtual 466, 3) := by decide +kernel
theorem dX12_fireOf_27 : decode cX12_fireOf 27 = .ok (.ifCond .eq 20, 3) := by decide +kernel
theorem dX12_fireOf_30 : decode cX12_fireOf 30 = .ok (.aload_n 0, 1) := by decide +kernel
theorem dX12_fireOf_31 : decode cX12_fireOf 31 = .ok (.getfield 172, 3) := by decide +kernel
theorem dX12_fireOf_34 : decode cX12_fireOf 34 = .ok (.iload_n 3, 1) := by decide +kernel
theorem dX12_fireOf_35 : decode cX12_fireOf 35 = .ok (.iaload, 1) := by decide +kernel
theorem dX12_fireOf_36 : decode cX12_fireOf 36 = .ok (.iload_n 1, 1) := by decide +kernel
theorem dX12_fireOf_37 : decode cX12_fireOf 37 = .ok (.if_icmp .ne 10, 3) := by decide +kernel
theorem dX12_fireOf_40 : decode cX12_fireOf 40 = .ok (.aload_n 0, 1) := by decide +kernel
theorem dX12_fireOf_41 : decode cX12_fireOf 41 = .ok (.getfield 178, 3) := by decide +kernel
theorem dX12_fireOf_44 : decode cX12_fireOf 44 = .ok (.iload_n 3, 1) := by decide +kernel
theorem dX12_fireOf_45 : decode cX12_fireOf 45 = .ok (.iaload, 1) := by decide +kernel
theorem dX12_fireOf_46 : decode cX12_fireOf 46 = .ok (.istore_n 2, 1) := by decide +kernel
theorem dX12_fireOf_47 : decode cX12_fireOf 47 = .ok (.iinc 3 1, 3) := by decide +kernel
theorem dX12_fireOf_50 : decode cX12_fireOf 50 = .ok (.goto (-46), 3) := by decide +kernel
theorem dX12_fireOf_53 : decode cX12_fireOf 53 = .ok (.iload_n 2, 1) := by decide +kernel
theorem dX12_fireOf_54 : decode cX12_fireOf 54 = .ok (.ireturn, 1) := by decide +kernel
theorem zy_X12_fireOf : zYv yX12_fireOf cX12_fireOf 4 (some .int) 1 := ⟨zw_1790, zws_97, zw_12, zw_1791, by decide, by decide, by decide⟩
theorem c_X12_fireOf_b4 {C : zC} {I : Nat → Nat → Int32} {J : Nat → Nat → Int64} {Rr : Nat → Nat → Option Nat} {D : zD} (N : Nat) (a1 : Int32) (v_acts : Int32) (e_v_acts : I 128 67 = v_acts) (v_knownAt : Int32) (e_v_knownAt : I 128 74 = v_knownAt) (v_without : Int32) (e_v_without : I 128 75 = v_without) (v_actKind : (Nat → Int32)) (e_v_actKind : I 176 = v_actKind) (v_actNumber : (Nat → Int32)) (e_v_actNumber : I 179 = v_actNumber) (v_actTerm : (Nat → Int32)) (e_v_actTerm : I 177 = v_actTerm) (v_voidAt : (Nat → Int32)) (e_v_voidAt : I 180 = v_voidAt) (rr : Int32) (E : zE C RX12 cX12_fireOf 4 (some .int) ({ frames := 1, cells := 0, slots := 0, locals := 21 } : Room)) (hQ : C.Q = zQi C ({ frames := 1, cells := 0, slots := 0, locals := 21 } : Room) rr (I, J, Rr, D))  : ∀ (n9 : Nat) (x2 : Int32) (x3 : Int32), pM_fireOf_b4 N a1 v_acts v_knownAt v_without v_actKind v_actNumber v_actTerm v_voidAt n9 x2 x3 = some rr → zB C (0, 0) 4 [(0, .ref (C.X.1 + 128)), (1, .int a1), (2, .int x2), (3, .int x3)] [] (I, J, Rr, D) := by
  refine zlp2_ind (P := fun (x2 : Int32) (x3 : Int32) => zB C (0, 0) 4 [(0, .ref (C.X.1 + 128)), (1, .int a1), (2, .int x2), (3, .int x3)] [] (I, J, Rr, D)) (fun self ih => ?_)
  intro x2 x3 h
  refine zb_iload_n E dX12_fireOf_4 3 rfl rfl ?_
  refine zb_aload_n E dX12_fireOf_5 0 rfl rfl ?_
  refine zb_get E 128 (by decide) (zF_128 C.X) rfl zin12 67 (by decide) zw_1235 (v := .int v_acts) (by exact congrArg (fun z => some (Value.int z)) e_v_acts) dX12_fireOf_6 ?_
  refine zb_icmp_gt E dX12_fireOf_9 (tgt := 53) rfl (fun hc => ?_) (fun hc => ?_)
  · have h := if_t h hc
    refine zb_iload_n E dX12_fireOf_53 2 rfl rfl ?_
    obtain rfl := zinj1 h
    exact zb_iret E hQ rfl ⟨Nat.zero_le _, Nat.zero_le _⟩ dX12_fireOf_54
  · have h := if_f h hc
    refine zb_aload_n E dX12_fireOf_12 0 rfl rfl ?_
    refine zb_get E 128 (by decide) (zF_128 C.X) rfl zin12 68 (by decide) zw_1236 (v := .ref (C.X.1 + 176)) rfl dX12_fireOf_13 ?_
    refine zb_iload_n E dX12_fireOf_16 3 rfl rfl ?_
    obtain ⟨g1, h⟩ := gd_s h
    refine zb_iald E 176 (by decide) zF_176 (f := v_actKind) (by exact e_v_actKind) (ib_in g1) dX12_fireOf_17 ?_
    refine zb_iconst E dX12_fireOf_18 (v := 4) rfl ?_
    refine zb_icmp_ne E dX12_fireOf_19 (tgt := 47) rfl (fun hc => ?_) (fun hc => ?_)
    · have h := if_f h hc
      refine zb_iinc E dX12_fireOf_47 3 rfl (v := (x3 + 1)) rfl (by decide) (lv2 := [(3, .int (x3 + 1)), (0, .ref (C.X.1 + 128)), (1, .int a1), (2, .int x2)]) rfl ?_
      refine zb_goto E dX12_fireOf_50 (tgt := 4) rfl ?_
      refine zb_sub [1, 2, 3, 0] rfl ?_
      exact ih x2 (x3 + 1) h
    · have h := if_t h hc
      refine zb_aload_n E dX12_fireOf_22 0 rfl rfl ?_
      refine zb_iload_n E dX12_fireOf_23 3 rfl rfl ?_
      obtain ⟨rc2, hc_24, h⟩ := bd1_s h
      refine zb_cVi E [.int x3] 128 zy_X12_isKnown zw_1739 (by decide) (zF_128 _ _ _ _) rfl (c_X12_isKnown v_knownAt (by exact e_v_knownAt) v_without (by exact e_v_without) v_voidAt (by exact e_v_voidAt) hc_24) (by decide) rfl rfl (by first | decide | simp [Value.category]) dX12_fireOf_24 (cs2 := (0, 0)) rfl ?_
      refine zb_if_eq E dX12_fireOf_27 (tgt := 47) rfl (fun hc => ?_) (fun hc => ?_)
      · have h := if_t h hc
        refine zb_iinc E dX12_fireOf_47 3 rfl (v := (x3 + 1)) rfl (by decide) (lv2 := [(3, .int (x3 + 1)), (0, .ref (C.X.1 + 128)), (1, .int a1), (2, .int x2)]) rfl ?_
        refine zb_goto E dX12_fireOf_50 (tgt := 4) rfl ?_
        refine zb_sub [1, 2, 3, 0] rfl ?_
        exact ih x2 (x3 + 1) h
      · have h := if_f h hc
        refine zb_aload_n E dX12_fireOf_30 0 rfl rfl ?_
        refine zb_get E 128 (by decide) (zF_128 C.X) rfl zin12 69 (by decide) zw_1237 (v := .ref (C.X.1 + 177)) rfl dX12_fireOf_31 ?_
        refine zb_iload_n E dX12_fireOf_34 3 rfl rfl ?_
        refine zb_iald E 177 (by decide) zF_177 (f := v_actTerm) (by exact e_v_actTerm) (ib_in g1) dX12_fireOf_35 ?_
        refine zb_iload_n E dX12_fireOf_36 1 rfl rfl ?_
        refine zb_icmp_ne E dX12_fireOf_37 (tgt := 47) rfl (fun hc => ?_) (fun hc => ?_)
        · have h := if_f h hc
          refine zb_iinc E dX12_fireOf_47 3 rfl (v := (x3 + 1)) rfl (by decide) (lv2 := [(3, .int (x3 + 1)), (0, .ref (C.X.1 + 128)), (1, .int a1), (2, .int x2)]) rfl ?_
          refine zb_goto E dX12_fireOf_50 (tgt := 4) rfl ?_
          refine zb_sub [1, 2, 3, 0] rfl ?_
          exact ih x2 (x3 + 1) h
        · have h := if_t h hc
          refine zb_aload_n E dX12_fireOf_40 0 rfl rfl ?_
          refine zb_get E 128 (by decide) (zF_128 C.X) rfl zin12 71 (by decide) zw_1239 (v := .ref (C.X.1 + 179)) rfl dX12_fireOf_41 ?_
          refine zb_iload_n E dX12_fireOf_44 3 rfl rfl ?_
          refine zb_iald E 179 (by decide) zF_179 (f := v_actNumber) (by exact e_v_actNumber) (ib_in g1) dX12_fireOf_45 ?_
          refine zb_istore_n E dX12_fireOf_46 rfl (by decide) (lv2 := [(2, .int (v_actNumber (ix x3))), (0, .ref (C.X.1 + 128)), (1, .int a1), (3, .int x3)]) rfl ?_
          refine zb_iinc E dX12_fireOf_47 3 rfl (v := (x3 + 1)) rfl (by decide) (lv2 := [(3, .int (x3 + 1)), (2, .int (v_actNumber (ix x3))), (0, .ref (C.X.1 + 128)), (1, .int a1)]) rfl ?_
          refine zb_goto E dX12_fireOf_50 (tgt := 4) rfl ?_
          refine zb_sub [2, 3, 1, 0] rfl ?_
          exact ih (v_actNumber (ix x3)) (x3 + 1) h
theorem c_X12_fireOf_0 {C : zC} {I : Nat → Nat → Int32} {J : Nat → Nat → Int64} {Rr : Nat → Nat → Option Nat} {D : zD} (N : Nat) (a1 : Int32) (v_acts : Int32) (e_v_acts : I 128 67 = v_acts) (v_knownAt : Int32) (e_v_knownAt : I 128 74 = v_knownAt) (v_without : Int32) (e_v_without : I 128 75 = v_without) (v_actKind : (Nat → Int32)) (e_v_actKind : I 176 = v_actKind) (v_actNumber : (Nat → Int32)) (e_v_actNumber : I 179 = v_actNumber) (v_actTerm : (Nat → Int32)) (e_v_actTerm : I 177 = v_actTerm) (v_voidAt : (Nat → Int32)) (e_v_voidAt : I 180 = v_voidAt) (rr : Int32) (E : zE C RX12 cX12_fireOf 4 (some .int) ({ frames := 1, cells := 0, slots := 0, locals := 21 } : Room)) (hQ : C.Q = zQi C ({ frames := 1, cells := 0, slots := 0, locals := 21 } : Room) rr (I, J, Rr, D)) (h : pM_fireOf N a1 v_acts v_knownAt v_without v_actKind v_actNumber v_actTerm v_voidAt = some rr) : zB C (0, 0) 0 [(0, .ref (C.X.1 + 128)), (1, .int a1)] [] (I, J, Rr, D) := by
  refine zb_iconst E dX12_fireOf_0 (v := 0) rfl ?_
  refine zb_istore_n E dX12_fireOf_1 rfl (by decide) (lv2 := [(2, .int 0), (0, .ref (C.X.1 + 128)), (1, .int a1)]) rfl ?_
  refine zb_iconst E dX12_fireOf_2 (v := 1) rfl ?_
  refine zb_istore_n E dX12_fireOf_3 rfl (by decide) (lv2 := [(3, .int 1), (2, .int 0), (0, .ref (C.X.1 + 128)), (1, .int a1)]) rfl ?_
  refine zb_sub [2, 3, 1, 0] rfl ?_
  exact c_X12_fireOf_b4 N a1 v_acts e_v_acts v_knownAt e_v_knownAt v_without e_v_without v_actKind e_v_actKind v_actNumber e_v_actNumber v_actTerm e_v_actTerm v_voidAt e_v_voidAt rr E hQ _ 0 1 h
theorem c_X12_fireOf {l : Launch} {X : zX} {I : Nat → Nat → Int32} {J : Nat → Nat → Int64} {Rr : Nat → Nat → Option Nat} {D : zD} {N : Nat} {a1 : Int32} (v_acts : Int32) (e_v_acts : I 128 67 = v_acts) (v_knownAt : Int32) (e_v_knownAt : I 128 74 = v_knownAt) (v_without : Int32) (e_v_without : I 128 75 = v_without) (v_actKind : (Nat → Int32)) (e_v_actKind : I 176 = v_actKind) (v_actNumber : (Nat → Int32)) (e_v_actNumber : I 179 = v_actNumber) (v_actTerm : (Nat → Int32)) (e_v_actTerm : I 177 = v_actTerm) (v_voidAt : (Nat → Int32)) (e_v_voidAt : I 180 = v_voidAt) {rr : Int32} (h : pM_fireOf N a1 v_acts v_knownAt v_without v_actKind v_actNumber v_actTerm v_voidAt = some rr) : zMi l yX12_fireOf cX12_fireOf 4 (some .int) ({ frames := 1, cells := 0, slots := 0, locals := 21 } : Room) X [.ref (X.1 + 128), .int a1] (I, J, Rr, D) rr (I, J, Rr, D) := by
  refine zMi.of (by decide) (Nat.le_of_ble_eq_true rfl) (fun C E hl hX hQ => ?_)
  subst hl
  subst hX
  have eI0 : I = I := rfl
  have eJ0 : J = J := rfl
  refine zb_S (S2 := (I, J, Rr, D)) (zS_eq eI0.symm eJ0.symm) ?_
  exact c_X12_fireOf_0 N a1 v_acts e_v_acts v_knownAt e_v_knownAt v_without e_v_without v_actKind e_v_actKind v_actNumber e_v_actNumber v_actTerm e_v_actTerm v_voidAt e_v_voidAt rr E hQ h
-- ChequeredClothModel.tellsAsKnown
theorem dX12_tellsAsKnown_0 : decode cX12_tellsAsKnown 0 = .ok (.aload_n 0, 1) := by decide +kernel
theorem dX12_tellsAsKnown_1 : decode cX12_tellsAsKnown 1 = .ok (.iload_n 1, 1) := by decide +kernel
theorem dX12_tellsAsKnown_2 : decode cX12_tellsAsKnown 2 = .ok (.putfield 460, 3) := by decide +kernel
theorem dX12_tellsAsKnown_5 : decode cX12_tellsAsKnown 5 = .ok (.aload_n 0, 1) := by decide +kernel
theorem dX12_tellsAsKnown_6 : decode cX12_tellsAsKnown 6 = .ok (.iconst (-1), 1) := by decide +kernel
theorem dX12_tellsAsKnown_7 : decode cX12_tellsAsKnown 7 = .ok (.putfield 463, 3) := by decide +kernel
theorem dX12_tellsAsKnown_10 : decode cX12_tellsAsKnown 10 = .ok (.aload_n 0, 1) := by decide +kernel
theorem dX12_tellsAsKnown_11 : decode cX12_tellsAsKnown 11 = .ok (.iconst (-1), 1) := by decide +kernel
theorem dX12_tellsAsKnown_12 : decode cX12_tellsAsKnown 12 = .ok (.putfield 478, 3) := by decide +kernel
theorem dX12_tellsAsKnown_15 : decode cX12_tellsAsKnown 15 = .ok (.return_, 1) := by decide +kernel
theorem zy_X12_tellsAsKnown : zYv yX12_tellsAsKnown cX12_tellsAsKnown 2 none 1 := ⟨zw_1733, zws_86, zw_12, zw_1734, by decide, by decide, by decide⟩
theorem c_X12_tellsAsKnown_0 {C : zC} {I : Nat → Nat → Int32} {J : Nat → Nat → Int64} {Rr : Nat → Nat → Option Nat} {D : zD} (a1 : Int32) (y_v_knownAt : Int32) (y_v_movedAct : Int32) (y_v_without : Int32) (E : zE C RX12 cX12_tellsAsKnown 2 none ({ frames := 0, cells := 0, slots := 0, locals := 0 } : Room)) (hQ : C.Q = zQv C ({ frames := 0, cells := 0, slots := 0, locals := 0 } : Room) ((va_up I 128 (va_up (va_up (va_up (I 128) 74 y_v_knownAt) 75 y_v_without) 76 y_v_movedAct)), J, Rr, D)) (v_knownAt : Int32) (v_movedAct : Int32) (v_without : Int32) (h : pM_tellsAsKnown a1 v_knownAt v_movedAct v_without = some (y_v_knownAt, y_v_movedAct, y_v_without)) : zB C (0, 0) 0 [(0, .ref (C.X.1 + 128)), (1, .int a1)] [] ((va_up I 128 (va_up (va_up (va_up (I 128) 74 v_knownAt) 75 v_without) 76 v_movedAct)), J, Rr, D) := by
  refine zb_aload_n E dX12_tellsAsKnown_0 0 rfl rfl ?_
  refine zb_iload_n E dX12_tellsAsKnown_1 1 rfl rfl ?_
  refine zb_put E 128 (by decide) (zF_128 C.X) rfl zin12 74 (by decide) zw_1242 tyX12 tyX12_ok nmX12 rfl rfl rfl (I2 := (va_up I 128 (va_up (va_up (va_up (I 128) 74 a1) 75 v_without) 76 v_movedAct))) (J2 := J) ((zset12_74 C.X (va_up (va_up (va_up (I 128) 74 v_knownAt) 75 v_without) 76 v_movedAct) (J 128) a1).trans (congrArg (fun g => zf12 C.X g (J 128)) (zn3 (by decide : (76 : Nat) ≠ 74) (by decide : (75 : Nat) ≠ 74)))) (by rw [zflen12]; decide) (fun j hj => ⟨(zup_n hj).trans (zup_n hj).symm, rfl⟩) dX12_tellsAsKnown_2 ?_
  refine zb_aload_n E dX12_tellsAsKnown_5 0 rfl rfl ?_
  refine zb_iconst E dX12_tellsAsKnown_6 (v := (-1)) rfl ?_
  refine zb_put E 128 (by decide) (zF_128 C.X) rfl zin12 75 (by decide) zw_1243 tyX12 tyX12_ok nmX12 rfl rfl rfl (I2 := (va_up I 128 (va_up (va_up (va_up (I 128) 74 a1) 75 (-1)) 76 v_movedAct))) (J2 := J) ((zset12_75 C.X (va_up (va_up (va_up (I 128) 74 a1) 75 v_without) 76 v_movedAct) (J 128) (-1)).trans (congrArg (fun g => zf12 C.X g (J 128)) (zn2 (by decide : (76 : Nat) ≠ 75)))) (by rw [zflen12]; decide) (fun j hj => ⟨(zup_n hj).trans (zup_n hj).symm, rfl⟩) dX12_tellsAsKnown_7 ?_
  refine zb_aload_n E dX12_tellsAsKnown_10 0 rfl rfl ?_
  refine zb_iconst E dX12_tellsAsKnown_11 (v := (-1)) rfl ?_
  refine zb_put E 128 (by decide) (zF_128 C.X) rfl zin12 76 (by decide) zw_1244 tyX12 tyX12_ok nmX12 rfl rfl rfl (I2 := (va_up I 128 (va_up (va_up (va_up (I 128) 74 a1) 75 (-1)) 76 (-1)))) (J2 := J) ((zset12_76 C.X (va_up (va_up (va_up (I 128) 74 a1) 75 (-1)) 76 v_movedAct) (J 128) (-1)).trans (congrArg (fun g => zf12 C.X g (J 128)) zn1)) (by rw [zflen12]; decide) (fun j hj => ⟨(zup_n hj).trans (zup_n hj).symm, rfl⟩) dX12_tellsAsKnown_12 ?_
  obtain ⟨rfl, rfl, rfl⟩ := zinj3 h
  exact zb_vret E hQ rfl ⟨Nat.zero_le _, Nat.zero_le _⟩ dX12_tellsAsKnown_15
theorem c_X12_tellsAsKnown {l : Launch} {X : zX} {I : Nat → Nat → Int32} {J : Nat → Nat → Int64} {Rr : Nat → Nat → Option Nat} {D : zD} {a1 : Int32} (oI128 : Nat → Int32) (eoI128 : I 128 = oI128) (v_knownAt : Int32) (e_v_knownAt : I 128 74 = v_knownAt) (v_movedAct : Int32) (e_v_movedAct : I 128 76 = v_movedAct) (v_without : Int32) (e_v_without : I 128 75 = v_without) {y_v_knownAt : Int32} {y_v_movedAct : Int32} {y_v_without : Int32} (h : pM_tellsAsKnown a1 v_knownAt v_movedAct v_without = some (y_v_knownAt, y_v_movedAct, y_v_without)) : zMv l yX12_tellsAsKnown cX12_tellsAsKnown 2 none ({ frames := 0, cells := 0, slots := 0, locals := 0 } : Room) X [.ref (X.1 + 128), .int a1] (I, J, Rr, D) ((va_up I 128 (va_up (va_up (va_up oI128 74 y_v_knownAt) 75 y_v_without) 76 y_v_movedAct)), J, Rr, D) := by
  subst eoI128
  refine zMv.of (by decide) (Nat.le_of_ble_eq_true rfl) (fun C E hl hX hQ => ?_)
  subst hl
  subst hX
  have eI0 : (va_up I 128 (va_up (va_up (va_up (I 128) 74 v_knownAt) 75 v_without) 76 v_movedAct)) = I := by rw [zup_idE e_v_knownAt, zup_idE e_v_without, zup_idE e_v_movedAct, zup_id]
  have eJ0 : J = J := rfl
  refine zb_S (S2 := ((va_up I 128 (va_up (va_up (va_up (I 128) 74 v_knownAt) 75 v_without) 76 v_movedAct)), J, Rr, D)) (zS_eq eI0.symm eJ0.symm) ?_
  exact c_X12_tellsAsKnown_0 a1 y_v_knownAt y_v_movedAct y_v_without E hQ v_knownAt v_movedAct v_without h
-- ChequeredClothModel.force
theorem dX12_force_0 : decode cX12_force 0 = .ok (.iload_n 1, 1) := by decide +kernel
theorem dX12_force_1 : decode cX12_force 1 = .ok (.invokestatic 432, 3) := by decide +kernel
theorem dX12_force_4 : decode cX12_force 4 = .ok (.ifCond .ne 5, 3) := by decide +kernel
theorem dX12_force_7 : decode cX12_force 7 = .ok (.iconst (-1), 1) := by decide +kernel
theorem dX12_force_8 : decode cX12_force 8 = .ok (.ireturn, 1) := by decide +kernel
theorem dX12_force_9 : decode cX12_force 9 = .ok (.aload_n 0, 1) := by decide +kernel
theorem dX12_force_10 : decode cX12_force 10 = .ok (.aload_n 0, 1) := by decide +kernel
theorem dX12_force_11 : decode cX12_force 11 = .ok (.invokevirtual 469, 3) := by decide +kernel
theorem dX12_force_14 : decode cX12_force 14 = .ok (.invokevirtual 472, 3) := by decide +kernel
theorem dX12_force_17 : decode cX12_force 17 = .ok (.aload_n 0, 1) := by decide +kernel
theorem dX12_force_18 : decode cX12_force 18 = .ok (.iload_n 1, 1) := by decide +kernel
theorem dX12_force_19 : decode cX12_force 19 = .ok (.invokevirtual 475, 3) := by decide +kernel
theorem dX12_force_22 : decode cX12_force 22 = .ok (.istore_n 2, 1) := by decide +kernel
theorem dX12_force_23 : decode cX12_force 23 = .ok (.iload_n 2, 1) := by decide +kernel
theorem dX12_force_24 : decode cX12_force 24 = .ok (.ifCond .ne 7, 3) := by decide +kernel
theorem dX12_force_27 : decode cX12_force 27 = .ok (.iconst (-1), 1) := by decide +kernel
theorem dX12_force_28 : decode cX12_force 28 = .ok (.goto 9, 3) := by decide +kernel
theorem dX12_force_31 : decode cX12_force 31 = .ok (.aload_n 0, 1) := by decide +kernel
theorem dX12_force_32 : decode cX12_force 32 = .ok (.getfield 133, 3) := by decide +kernel
theorem dX12_force_35 : decode cX12_force 35 = .ok (.iload_n 2, 1) := by decide +kernel
theorem dX12_force_36 : decode cX12_force 36 = .ok (.iaload, 1) := by decide +kernel
theorem dX12_force_37 : decode cX12_force 37 = .ok (.ireturn, 1) := by decide +kernel
theorem zy_X12_force : zYv yX12_force cX12_force 3 (some .int) 1 := ⟨zw_1724, zw_1725, zw_12, zw_1726, by decide, by decide, by decide⟩
theorem c_X12_force_0 {C : zC} {I : Nat → Nat → Int32} {J : Nat → Nat → Int64} {Rr : Nat → Nat → Option Nat} {D : zD} (N : Nat) (a1 : Int32) (v_acts : Int32) (e_v_acts : I 128 67 = v_acts) (v_as : Int32) (e_v_as : I 128 73 = v_as) (v_actKind : (Nat → Int32)) (e_v_actKind : I 176 = v_actKind) (v_actTerm : (Nat → Int32)) (e_v_actTerm : I 177 = v_actTerm) (v_many : (Nat → Int32)) (e_v_many : I 165 = v_many) (v_voidAt : (Nat → Int32)) (e_v_voidAt : I 180 = v_voidAt) (rr : Int32) (y_v_knownAt : Int32) (y_v_movedAct : Int32) (y_v_without : Int32) (E : zE C RX12 cX12_force 3 (some .int) ({ frames := 2, cells := 0, slots := 0, locals := 45 } : Room)) (hQ : C.Q = zQi C ({ frames := 2, cells := 0, slots := 0, locals := 45 } : Room) rr ((va_up I 128 (va_up (va_up (va_up (I 128) 74 y_v_knownAt) 75 y_v_without) 76 y_v_movedAct)), J, Rr, D)) (v_knownAt : Int32) (v_movedAct : Int32) (v_without : Int32) (h : pM_force N a1 v_acts v_as v_knownAt v_movedAct v_without v_actKind v_actTerm v_many v_voidAt = some (rr, y_v_knownAt, y_v_movedAct, y_v_without)) : zB C (0, 0) 0 [(0, .ref (C.X.1 + 128)), (1, .int a1)] [] ((va_up I 128 (va_up (va_up (va_up (I 128) 74 v_knownAt) 75 v_without) 76 v_movedAct)), J, Rr, D) := by
  refine zb_iload_n E dX12_force_0 1 rfl rfl ?_
  obtain ⟨rc1, hc_1, h⟩ := bd1_s h
  refine zb_cSi E [.int a1] zy_X12_isTerm zw_1561 (c_X12_isTerm hc_1) (by decide) rfl rfl (by first | decide | simp [Value.category]) dX12_force_1 (cs2 := (0, 0)) rfl ?_
  refine zb_if_ne E dX12_force_4 (tgt := 9) rfl (fun hc => ?_) (fun hc => ?_)
  · have h := if_f h hc
    refine zb_aload_n E dX12_force_9 0 rfl rfl ?_
    refine zb_aload_n E dX12_force_10 0 rfl rfl ?_
    obtain ⟨rc2, hc_11, h⟩ := bd1_s h
    refine zb_cVi E [] 128 zy_X12_asNow zw_1727 (by decide) (zF_128 _ _ _ _) rfl (c_X12_asNow v_acts (by exact e_v_acts) v_as (by exact e_v_as) hc_11) (by decide) rfl rfl (by first | decide | simp [Value.category]) dX12_force_11 (cs2 := (0, 0)) rfl ?_
    obtain ⟨v_knownAt_c3, v_movedAct_c3, v_without_c3, hc_14, h⟩ := bd3_s h
    refine zb_cVv E [.int rc2] 128 zy_X12_tellsAsKnown zw_1731 (by decide) (zF_128 _ _ _ _) rfl (c_X12_tellsAsKnown (va_up (va_up (va_up (I 128) 74 v_knownAt) 75 v_without) 76 v_movedAct) rfl v_knownAt rfl v_movedAct rfl v_without rfl hc_14) (by decide) rfl rfl (by first | decide | simp [Value.category]) dX12_force_14 (cs2 := (0, 0)) rfl ?_
    refine zb_S (S2 := ((va_up I 128 (va_up (va_up (va_up (I 128) 74 v_knownAt_c3) 75 v_without_c3) 76 v_movedAct_c3)), J, Rr, D)) (zS_eq ((zcgV ((zcgF ((zcgF (zn3 (by decide : (76 : Nat) ≠ 74) (by decide : (75 : Nat) ≠ 74))).trans (zn2 (by decide : (76 : Nat) ≠ 75)))).trans zn1)).trans zn1) rfl) ?_
    refine zb_aload_n E dX12_force_17 0 rfl rfl ?_
    refine zb_iload_n E dX12_force_18 1 rfl rfl ?_
    obtain ⟨rc4, hc_19, h⟩ := bd1_s h
    refine zb_cVi E [.int a1] 128 zy_X12_writOf zw_1735 (by decide) (zF_128 _ _ _ _) rfl (c_X12_writOf v_acts (by exact e_v_acts) v_knownAt_c3 rfl v_without_c3 rfl v_actKind (by exact e_v_actKind) v_actTerm (by exact e_v_actTerm) v_voidAt (by exact e_v_voidAt) hc_19) (by decide) rfl rfl (by first | decide | simp [Value.category]) dX12_force_19 (cs2 := (0, 0)) rfl ?_
    refine zb_istore_n E dX12_force_22 rfl (by decide) (lv2 := [(2, .int rc4), (0, .ref (C.X.1 + 128)), (1, .int a1)]) rfl ?_
    refine zb_iload_n E dX12_force_23 0 rfl rfl ?_
    refine zb_if_ne E dX12_force_24 (tgt := 31) rfl (fun hc => ?_) (fun hc => ?_)
    · have h := if_f h hc
      refine zb_aload_n E dX12_force_31 1 rfl rfl ?_
      refine zb_get E 128 (by decide) (zF_128 C.X) rfl zin12 47 (by decide) zw_1215 (v := .ref (C.X.1 + 165)) rfl dX12_force_32 ?_
      refine zb_iload_n E dX12_force_35 0 rfl rfl ?_
      obtain ⟨g5, h⟩ := gd_s h
      refine zb_iald E 165 (by decide) zF_165 (f := v_many) (by exact e_v_many) (ib_in g5) dX12_force_36 ?_
      obtain ⟨rfl, rfl, rfl, rfl⟩ := zinj4 h
      exact zb_iret E hQ rfl ⟨Nat.zero_le _, Nat.zero_le _⟩ dX12_force_37
    · have h := if_t h hc
      refine zb_iconst E dX12_force_27 (v := (-1)) rfl ?_
      refine zb_goto E dX12_force_28 (tgt := 37) rfl ?_
      obtain ⟨rfl, rfl, rfl, rfl⟩ := zinj4 h
      exact zb_iret E hQ rfl ⟨Nat.zero_le _, Nat.zero_le _⟩ dX12_force_37
  · have h := if_t h hc
    refine zb_iconst E dX12_force_7 (v := (-1)) rfl ?_
    obtain ⟨rfl, rfl, rfl, rfl⟩ := zinj4 h
    exact zb_iret E hQ rfl ⟨Nat.zero_le _, Nat.zero_le _⟩ dX12_force_8
theorem c_X12_force {l : Launch} {X : zX} {I : Nat → Nat → Int32} {J : Nat → Nat → Int64} {Rr : Nat → Nat → Option Nat} {D : zD} {N : Nat} {a1 : Int32} (oI128 : Nat → Int32) (eoI128 : I 128 = oI128) (v_acts : Int32) (e_v_acts : I 128 67 = v_acts) (v_as : Int32) (e_v_as : I 128 73 = v_as) (v_actKind : (Nat → Int32)) (e_v_actKind : I 176 = v_actKind) (v_actTerm : (Nat → Int32)) (e_v_actTerm : I 177 = v_actTerm) (v_many : (Nat → Int32)) (e_v_many : I 165 = v_many) (v_voidAt : (Nat → Int32)) (e_v_voidAt : I 180 = v_voidAt) (v_knownAt : Int32) (e_v_knownAt : I 128 74 = v_knownAt) (v_movedAct : Int32) (e_v_movedAct : I 128 76 = v_movedAct) (v_without : Int32) (e_v_without : I 128 75 = v_without) {rr : Int32} {y_v_knownAt : Int32} {y_v_movedAct : Int32} {y_v_without : Int32} (h : pM_force N a1 v_acts v_as v_knownAt v_movedAct v_without v_actKind v_actTerm v_many v_voidAt = some (rr, y_v_knownAt, y_v_movedAct, y_v_without)) : zMi l yX12_force cX12_force 3 (some .int) ({ frames := 2, cells := 0, slots := 0, locals := 45 } : Room) X [.ref (X.1 + 128), .int a1] (I, J, Rr, D) rr ((va_up I 128 (va_up (va_up (va_up oI128 74 y_v_knownAt) 75 y_v_without) 76 y_v_movedAct)), J, Rr, D) := by
  subst eoI128
  refine zMi.of (by decide) (Nat.le_of_ble_eq_true rfl) (fun C E hl hX hQ => ?_)
  subst hl
  subst hX
  have eI0 : (va_up I 128 (va_up (va_up (va_up (I 128) 74 v_knownAt) 75 v_without) 76 v_movedAct)) = I := by rw [zup_idE e_v_knownAt, zup_idE e_v_without, zup_idE e_v_movedAct, zup_id]
  have eJ0 : J = J := rfl
  refine zb_S (S2 := ((va_up I 128 (va_up (va_up (va_up (I 128) 74 v_knownAt) 75 v_without) 76 v_movedAct)), J, Rr, D)) (zS_eq eI0.symm eJ0.symm) ?_
  exact c_X12_force_0 N a1 v_acts e_v_acts v_as e_v_as v_actKind e_v_actKind v_actTerm e_v_actTerm v_many e_v_many v_voidAt e_v_voidAt rr y_v_knownAt y_v_movedAct y_v_without E hQ v_knownAt v_movedAct v_without h
-- ChequeredClothModel.holds
theorem dX12_holds_0 : decode cX12_holds 0 = .ok (.aload_n 0, 1) := by decide +kernel
theorem dX12_holds_1 : decode cX12_holds 1 = .ok (.iload_n 1, 1) := by decide +kernel
theorem dX12_holds_2 : decode cX12_holds 2 = .ok (.aload_n 0, 1) := by decide +kernel
theorem dX12_holds_3 : decode cX12_holds 3 = .ok (.getfield 152, 3) := by decide +kernel
theorem dX12_holds_6 : decode cX12_holds 6 = .ok (.iload_n 2, 1) := by decide +kernel
theorem dX12_holds_7 : decode cX12_holds 7 = .ok (.iaload, 1) := by decide +kernel
theorem dX12_holds_8 : decode cX12_holds 8 = .ok (.aload_n 0, 1) := by decide +kernel
theorem dX12_holds_9 : decode cX12_holds 9 = .ok (.getfield 155, 3) := by decide +kernel
theorem dX12_holds_12 : decode cX12_holds 12 = .ok (.iload_n 2, 1) := by decide +kernel
theorem dX12_holds_13 : decode cX12_holds 13 = .ok (.iaload, 1) := by decide +kernel
theorem dX12_holds_14 : decode cX12_holds 14 = .ok (.invokevirtual 481, 3) := by decide +kernel
theorem dX12_holds_17 : decode cX12_holds 17 = .ok (.lconst 1, 1) := by decide +kernel
theorem dX12_holds_18 : decode cX12_holds 18 = .ok (.lcmp, 1) := by decide +kernel
theorem dX12_holds_19 : decode cX12_holds 19 = .ok (.ifCond .ne 7, 3) := by decide +kernel
theorem dX12_holds_22 : decode cX12_holds 22 = .ok (.iconst 1, 1) := by decide +kernel
theorem dX12_holds_23 : decode cX12_holds 23 = .ok (.goto 4, 3) := by decide +kernel
theorem dX12_holds_26 : decode cX12_holds 26 = .ok (.iconst 0, 1) := by decide +kernel
theorem dX12_holds_27 : decode cX12_holds 27 = .ok (.ireturn, 1) := by decide +kernel
theorem zy_X12_holds : zYv yX12_holds cX12_holds 3 (some .boolean) 2 := ⟨zw_1759, zws_91, zw_12, zw_1760, by decide, by decide, by decide⟩
theorem c_X12_holds_0 {C : zC} {I : Nat → Nat → Int32} {J : Nat → Nat → Int64} {Rr : Nat → Nat → Option Nat} {D : zD} (N : Nat) (a1 : Int32) (a2 : Int32) (v_debt : Int64) (e_v_debt : J 128 63 = v_debt) (v_now : Int32) (e_v_now : I 128 65 = v_now) (v_paid : Int64) (e_v_paid : J 128 64 = v_paid) (v_shireNow : Int32) (e_v_shireNow : I 128 66 = v_shireNow) (v_codes : (Nat → Int32)) (e_v_codes : I 173 = v_codes) (v_sumEnd : (Nat → Int32)) (e_v_sumEnd : I 171 = v_sumEnd) (v_testEnd : (Nat → Int32)) (e_v_testEnd : I 172 = v_testEnd) (rr : Int32) (y_v_piled : Int32) (y_v_pile : (Nat → Int64)) (E : zE C RX12 cX12_holds 3 (some .boolean) ({ frames := 3, cells := 0, slots := 0, locals := 75 } : Room)) (hQ : C.Q = zQi C ({ frames := 3, cells := 0, slots := 0, locals := 75 } : Room) rr ((va_up I 128 (va_up (I 128) 62 y_v_piled)), (va_up J 175 y_v_pile), Rr, D)) (v_piled : Int32) (v_pile : (Nat → Int64)) (h : pM_holds N a1 a2 v_debt v_now v_paid v_piled v_shireNow v_codes v_pile v_sumEnd v_testEnd = some (rr, y_v_piled, y_v_pile)) : zB C (0, 0) 0 [(0, .ref (C.X.1 + 128)), (1, .int a1), (2, .int a2)] [] ((va_up I 128 (va_up (I 128) 62 v_piled)), (va_up J 175 v_pile), Rr, D) := by
  refine zb_aload_n E dX12_holds_0 0 rfl rfl ?_
  refine zb_iload_n E dX12_holds_1 1 rfl rfl ?_
  refine zb_aload_n E dX12_holds_2 0 rfl rfl ?_
  refine zb_get E 128 (by decide) (zF_128 C.X) rfl zin12 53 (by decide) zw_1221 (v := .ref (C.X.1 + 171)) rfl dX12_holds_3 ?_
  refine zb_iload_n E dX12_holds_6 2 rfl rfl ?_
  obtain ⟨g1, h⟩ := gd_s h
  refine zb_iald E 171 (by decide) zF_171 (f := v_sumEnd) (by exact e_v_sumEnd) (ib_in g1) dX12_holds_7 ?_
  refine zb_aload_n E dX12_holds_8 0 rfl rfl ?_
  refine zb_get E 128 (by decide) (zF_128 C.X) rfl zin12 54 (by decide) zw_1222 (v := .ref (C.X.1 + 172)) rfl dX12_holds_9 ?_
  refine zb_iload_n E dX12_holds_12 2 rfl rfl ?_
  refine zb_iald E 172 (by decide) zF_172 (f := v_testEnd) (by exact e_v_testEnd) (ib_in g1) dX12_holds_13 ?_
  obtain ⟨rc2, v_piled_c2, v_pile_c2, hc_14, h⟩ := bd3_s h
  refine zb_cVl E [.int a1, .int (v_sumEnd (ix a2)), .int (v_testEnd (ix a2))] 128 zy_X12_tells zw_1761 (by decide) (zF_128 _ _ _ _) rfl (c_X12_tells (va_up (I 128) 62 v_piled) rfl v_debt (by exact e_v_debt) v_now (by exact e_v_now) v_paid (by exact e_v_paid) v_shireNow (by exact e_v_shireNow) v_codes (by exact e_v_codes) v_piled rfl v_pile rfl hc_14) (by decide) rfl rfl (by first | decide | simp [Value.category]) dX12_holds_14 (cs2 := (0, 0)) rfl ?_
  refine zb_S (S2 := ((va_up I 128 (va_up (I 128) 62 v_piled_c2)), (va_up J 175 v_pile_c2), Rr, D)) (zS_eq ((zcgV zn1).trans zn1) zn1) ?_
  refine zb_lconst E dX12_holds_17 (v := 1) rfl ?_
  refine zb_lcmp E dX12_holds_18 ?_
  refine zb_if_ne E dX12_holds_19 (tgt := 26) rfl (fun hc => ?_) (fun hc => ?_)
  · have h := if_f h hc
    refine zb_iconst E dX12_holds_26 (v := 0) rfl ?_
    obtain ⟨rfl, rfl, rfl⟩ := zinj3 h
    exact zb_zret E hQ (ty := .boolean) rfl rfl ⟨Nat.zero_le _, Nat.zero_le _⟩ dX12_holds_27
  · have h := if_t h hc
    refine zb_iconst E dX12_holds_22 (v := 1) rfl ?_
    refine zb_goto E dX12_holds_23 (tgt := 27) rfl ?_
    obtain ⟨rfl, rfl, rfl⟩ := zinj3 h
    exact zb_zret E hQ (ty := .boolean) rfl rfl ⟨Nat.zero_le _, Nat.zero_le _⟩ dX12_holds_27
theorem c_X12_holds {l : Launch} {X : zX} {I : Nat → Nat → Int32} {J : Nat → Nat → Int64} {Rr : Nat → Nat → Option Nat} {D : zD} {N : Nat} {a1 : Int32} {a2 : Int32} (oI128 : Nat → Int32) (eoI128 : I 128 = oI128) (v_debt : Int64) (e_v_debt : J 128 63 = v_debt) (v_now : Int32) (e_v_now : I 128 65 = v_now) (v_paid : Int64) (e_v_paid : J 128 64 = v_paid) (v_shireNow : Int32) (e_v_shireNow : I 128 66 = v_shireNow) (v_codes : (Nat → Int32)) (e_v_codes : I 173 = v_codes) (v_sumEnd : (Nat → Int32)) (e_v_sumEnd : I 171 = v_sumEnd) (v_testEnd : (Nat → Int32)) (e_v_testEnd : I 172 = v_testEnd) (v_piled : Int32) (e_v_piled : I 128 62 = v_piled) (v_pile : (Nat → Int64)) (e_v_pile : J 175 = v_pile) {rr : Int32} {y_v_piled : Int32} {y_v_pile : (Nat → Int64)} (h : pM_holds N a1 a2 v_debt v_now v_paid v_piled v_shireNow v_codes v_pile v_sumEnd v_testEnd = some (rr, y_v_piled, y_v_pile)) : zMi l yX12_holds cX12_holds 3 (some .boolean) ({ frames := 3, cells := 0, slots := 0, locals := 75 } : Room) X [.ref (X.1 + 128), .int a1, .int a2] (I, J, Rr, D) rr ((va_up I 128 (va_up oI128 62 y_v_piled)), (va_up J 175 y_v_pile), Rr, D) := by
  subst eoI128
  refine zMi.of (by decide) (Nat.le_of_ble_eq_true rfl) (fun C E hl hX hQ => ?_)
  subst hl
  subst hX
  have eI0 : (va_up I 128 (va_up (I 128) 62 v_piled)) = I := by rw [zup_idE e_v_piled, zup_id]
  have eJ0 : (va_up J 175 v_pile) = J := by rw [zup_idE e_v_pile]
  refine zb_S (S2 := ((va_up I 128 (va_up (I 128) 62 v_piled)), (va_up J 175 v_pile), Rr, D)) (zS_eq eI0.symm eJ0.symm) ?_
  exact c_X12_holds_0 N a1 a2 v_debt e_v_debt v_now e_v_now v_paid e_v_paid v_shireNow e_v_shireNow v_codes e_v_codes v_sumEnd e_v_sumEnd v_testEnd e_v_testEnd rr y_v_piled y_v_pile E hQ v_piled v_pile h
-- ChequeredClothModel.amount
theorem dX12_amount_0 : decode cX12_amount 0 = .ok (.aload_n 0, 1) := by decide +kernel
theorem dX12_amount_1 : decode cX12_amount 1 = .ok (.iload_n 1, 1) := by decide +kernel
theorem dX12_amount_2 : decode cX12_amount 2 = .ok (.aload_n 0, 1) := by decide +kernel
theorem dX12_amount_3 : decode cX12_amount 3 = .ok (.getfield 149, 3) := by decide +kernel
theorem dX12_amount_6 : decode cX12_amount 6 = .ok (.iload_n 2, 1) := by decide +kernel
theorem dX12_amount_7 : decode cX12_amount 7 = .ok (.iaload, 1) := by decide +kernel
theorem dX12_amount_8 : decode cX12_amount 8 = .ok (.aload_n 0, 1) := by decide +kernel
theorem dX12_amount_9 : decode cX12_amount 9 = .ok (.getfield 152, 3) := by decide +kernel
theorem dX12_amount_12 : decode cX12_amount 12 = .ok (.iload_n 2, 1) := by decide +kernel
theorem dX12_amount_13 : decode cX12_amount 13 = .ok (.iaload, 1) := by decide +kernel
theorem dX12_amount_14 : decode cX12_amount 14 = .ok (.invokevirtual 481, 3) := by decide +kernel
theorem dX12_amount_17 : decode cX12_amount 17 = .ok (.lstore_n 3, 1) := by decide +kernel
theorem dX12_amount_18 : decode cX12_amount 18 = .ok (.lload_n 3, 1) := by decide +kernel
theorem dX12_amount_19 : decode cX12_amount 19 = .ok (.lconst 0, 1) := by decide +kernel
theorem dX12_amount_20 : decode cX12_amount 20 = .ok (.lcmp, 1) := by decide +kernel
theorem dX12_amount_21 : decode cX12_amount 21 = .ok (.ifCond .ge 7, 3) := by decide +kernel
theorem dX12_amount_24 : decode cX12_amount 24 = .ok (.lconst 0, 1) := by decide +kernel
theorem dX12_amount_25 : decode cX12_amount 25 = .ok (.goto 4, 3) := by decide +kernel
theorem dX12_amount_28 : decode cX12_amount 28 = .ok (.lload_n 3, 1) := by decide +kernel
theorem dX12_amount_29 : decode cX12_amount 29 = .ok (.lreturn, 1) := by decide +kernel
theorem zy_X12_amount : zYv yX12_amount cX12_amount 5 (some .long) 2 := ⟨zw_1782, zws_95, zw_12, zw_1783, by decide, by decide, by decide⟩
theorem c_X12_amount_0 {C : zC} {I : Nat → Nat → Int32} {J : Nat → Nat → Int64} {Rr : Nat → Nat → Option Nat} {D : zD} (N : Nat) (a1 : Int32) (a2 : Int32) (v_debt : Int64) (e_v_debt : J 128 63 = v_debt) (v_now : Int32) (e_v_now : I 128 65 = v_now) (v_paid : Int64) (e_v_paid : J 128 64 = v_paid) (v_shireNow : Int32) (e_v_shireNow : I 128 66 = v_shireNow) (v_codes : (Nat → Int32)) (e_v_codes : I 173 = v_codes) (v_sumEnd : (Nat → Int32)) (e_v_sumEnd : I 171 = v_sumEnd) (v_sumFrom : (Nat → Int32)) (e_v_sumFrom : I 170 = v_sumFrom) (rr : Int64) (y_v_piled : Int32) (y_v_pile : (Nat → Int64)) (E : zE C RX12 cX12_amount 5 (some .long) ({ frames := 3, cells := 0, slots := 0, locals := 75 } : Room)) (hQ : C.Q = zQl C ({ frames := 3, cells := 0, slots := 0, locals := 75 } : Room) rr ((va_up I 128 (va_up (I 128) 62 y_v_piled)), (va_up J 175 y_v_pile), Rr, D)) (v_piled : Int32) (v_pile : (Nat → Int64)) (h : pM_amount N a1 a2 v_debt v_now v_paid v_piled v_shireNow v_codes v_pile v_sumEnd v_sumFrom = some (rr, y_v_piled, y_v_pile)) : zB C (0, 0) 0 [(0, .ref (C.X.1 + 128)), (1, .int a1), (2, .int a2)] [] ((va_up I 128 (va_up (I 128) 62 v_piled)), (va_up J 175 v_pile), Rr, D) := by
  refine zb_aload_n E dX12_amount_0 0 rfl rfl ?_
  refine zb_iload_n E dX12_amount_1 1 rfl rfl ?_
  refine zb_aload_n E dX12_amount_2 0 rfl rfl ?_
  refine zb_get E 128 (by decide) (zF_128 C.X) rfl zin12 52 (by decide) zw_1220 (v := .ref (C.X.1 + 170)) rfl dX12_amount_3 ?_
  refine zb_iload_n E dX12_amount_6 2 rfl rfl ?_
  obtain ⟨g1, h⟩ := gd_s h
  refine zb_iald E 170 (by decide) zF_170 (f := v_sumFrom) (by exact e_v_sumFrom) (ib_in g1) dX12_amount_7 ?_
  refine zb_aload_n E dX12_amount_8 0 rfl rfl ?_
  refine zb_get E 128 (by decide) (zF_128 C.X) rfl zin12 53 (by decide) zw_1221 (v := .ref (C.X.1 + 171)) rfl dX12_amount_9 ?_
  refine zb_iload_n E dX12_amount_12 2 rfl rfl ?_
  refine zb_iald E 171 (by decide) zF_171 (f := v_sumEnd) (by exact e_v_sumEnd) (ib_in g1) dX12_amount_13 ?_
  obtain ⟨rc2, v_piled_c2, v_pile_c2, hc_14, h⟩ := bd3_s h
  refine zb_cVl E [.int a1, .int (v_sumFrom (ix a2)), .int (v_sumEnd (ix a2))] 128 zy_X12_tells zw_1761 (by decide) (zF_128 _ _ _ _) rfl (c_X12_tells (va_up (I 128) 62 v_piled) rfl v_debt (by exact e_v_debt) v_now (by exact e_v_now) v_paid (by exact e_v_paid) v_shireNow (by exact e_v_shireNow) v_codes (by exact e_v_codes) v_piled rfl v_pile rfl hc_14) (by decide) rfl rfl (by first | decide | simp [Value.category]) dX12_amount_14 (cs2 := (0, 0)) rfl ?_
  refine zb_S (S2 := ((va_up I 128 (va_up (I 128) 62 v_piled_c2)), (va_up J 175 v_pile_c2), Rr, D)) (zS_eq ((zcgV zn1).trans zn1) zn1) ?_
  refine zb_lstore_n E dX12_amount_17 rfl (by decide) (lv2 := [(3, .long rc2), (0, .ref (C.X.1 + 128)), (1, .int a1), (2, .int a2)]) rfl ?_
  refine zb_lload_n E dX12_amount_18 0 rfl rfl ?_
  refine zb_lconst E dX12_amount_19 (v := 0) rfl ?_
  refine zb_lcmp E dX12_amount_20 ?_
  refine zb_if_ge E dX12_amount_21 (tgt := 28) rfl (fun hc => ?_) (fun hc => ?_)
  · have h := if_t h hc
    refine zb_lload_n E dX12_amount_28 0 rfl rfl ?_
    obtain ⟨rfl, rfl, rfl⟩ := zinj3 h
    exact zb_lret E hQ rfl ⟨Nat.zero_le _, Nat.zero_le _⟩ dX12_amount_29
  · have h := if_f h hc
    refine zb_lconst E dX12_amount_24 (v := 0) rfl ?_
    refine zb_goto E dX12_amount_25 (tgt := 29) rfl ?_
    obtain ⟨rfl, rfl, rfl⟩ := zinj3 h
    exact zb_lret E hQ rfl ⟨Nat.zero_le _, Nat.zero_le _⟩ dX12_amount_29
theorem c_X12_amount {l : Launch} {X : zX} {I : Nat → Nat → Int32} {J : Nat → Nat → Int64} {Rr : Nat → Nat → Option Nat} {D : zD} {N : Nat} {a1 : Int32} {a2 : Int32} (oI128 : Nat → Int32) (eoI128 : I 128 = oI128) (v_debt : Int64) (e_v_debt : J 128 63 = v_debt) (v_now : Int32) (e_v_now : I 128 65 = v_now) (v_paid : Int64) (e_v_paid : J 128 64 = v_paid) (v_shireNow : Int32) (e_v_shireNow : I 128 66 = v_shireNow) (v_codes : (Nat → Int32)) (e_v_codes : I 173 = v_codes) (v_sumEnd : (Nat → Int32)) (e_v_sumEnd : I 171 = v_sumEnd) (v_sumFrom : (Nat → Int32)) (e_v_sumFrom : I 170 = v_sumFrom) (v_piled : Int32) (e_v_piled : I 128 62 = v_piled) (v_pile : (Nat → Int64)) (e_v_pile : J 175 = v_pile) {rr : Int64} {y_v_piled : Int32} {y_v_pile : (Nat → Int64)} (h : pM_amount N a1 a2 v_debt v_now v_paid v_piled v_shireNow v_codes v_pile v_sumEnd v_sumFrom = some (rr, y_v_piled, y_v_pile)) : zMl l yX12_amount cX12_amount 5 (some .long) ({ frames := 3, cells := 0, slots := 0, locals := 75 } : Room) X [.ref (X.1 + 128), .int a1, .int a2] (I, J, Rr, D) rr ((va_up I 128 (va_up oI128 62 y_v_piled)), (va_up J 175 y_v_pile), Rr, D) := by
  subst eoI128
  refine zMl.of (by decide) (Nat.le_of_ble_eq_true rfl) (fun C E hl hX hQ => ?_)
  subst hl
  subst hX
  have eI0 : (va_up I 128 (va_up (I 128) 62 v_piled)) = I := by rw [zup_idE e_v_piled, zup_id]
  have eJ0 : (va_up J 175 v_pile) = J := by rw [zup_idE e_v_pile]
  refine zb_S (S2 := ((va_up I 128 (va_up (I 128) 62 v_piled)), (va_up J 175 v_pile), Rr, D)) (zS_eq eI0.symm eJ0.symm) ?_
  exact c_X12_amount_0 N a1 a2 v_debt e_v_debt v_now e_v_now v_paid e_v_paid v_shireNow e_v_shireNow v_codes e_v_codes v_sumEnd e_v_sumEnd v_sumFrom e_v_sumFrom rr y_v_piled y_v_pile E hQ v_piled v_pile h
-- ChequeredClothModel.does
theorem dX12_does_0 : decode cX12_does 0 = .ok (.iconst 0, 1) := by decide +kernel
theorem dX12_does_1 : decode cX12_does 1 = .ok (.istore_n 3, 1) := by decide +kernel
theorem dX12_does_2 : decode cX12_does 2 = .ok (.iload_n 3, 1) := by decide +kernel
theorem dX12_does_3 : decode cX12_does 3 = .ok (.aload_n 0, 1) := by decide +kernel
theorem dX12_does_4 : decode cX12_does 4 = .ok (.getfield 133, 3) := by decide +kernel
theorem dX12_does_7 : decode cX12_does 7 = .ok (.iload_n 1, 1) := by decide +kernel
theorem dX12_does_8 : decode cX12_does 8 = .ok (.iaload, 1) := by decide +kernel
theorem dX12_does_9 : decode cX12_does 9 = .ok (.if_icmp .ge 300, 3) := by decide +kernel
theorem dX12_does_12 : decode cX12_does 12 = .ok (.bipush 24, 2) := by decide +kernel
theorem dX12_does_14 : decode cX12_does 14 = .ok (.iload_n 1, 1) := by decide +kernel
theorem dX12_does_15 : decode cX12_does 15 = .ok (.imul, 1) := by decide +kernel
theorem dX12_does_16 : decode cX12_does 16 = .ok (.iload_n 3, 1) := by decide +kernel
theorem dX12_does_17 : decode cX12_does 17 = .ok (.iadd, 1) := by decide +kernel
theorem dX12_does_18 : decode cX12_does 18 = .ok (.istore 4, 2) := by decide +kernel
theorem dX12_does_20 : decode cX12_does 20 = .ok (.aload_n 0, 1) := by decide +kernel
theorem dX12_does_21 : decode cX12_does 21 = .ok (.getfield 136, 3) := by decide +kernel
theorem dX12_does_24 : decode cX12_does 24 = .ok (.iload 4, 2) := by decide +kernel
theorem dX12_does_26 : decode cX12_does 26 = .ok (.iaload, 1) := by decide +kernel
theorem dX12_does_27 : decode cX12_does 27 = .ok (.iload_n 2, 1) := by decide +kernel
theorem dX12_does_28 : decode cX12_does 28 = .ok (.if_icmp .ne 275, 3) := by decide +kernel
theorem dX12_does_31 : decode cX12_does 31 = .ok (.aload_n 0, 1) := by decide +kernel
theorem dX12_does_32 : decode cX12_does 32 = .ok (.iload_n 1, 1) := by decide +kernel
theorem dX12_does_33 : decode cX12_does 33 = .ok (.iload 4, 2) := by decide +kernel
theorem dX12_does_35 : decode cX12_does 35 = .ok (.invokevirtual 485, 3) := by decide +kernel
theorem dX12_does_38 : decode cX12_does 38 = .ok (.ifCond .ne 6, 3) := by decide +kernel
theorem dX12_does_41 : decode cX12_does 41 = .ok (.goto 262, 3) := by decide +kernel
theorem dX12_does_44 : decode cX12_does 44 = .ok (.iload_n 2, 1) := by decide +kernel
theorem dX12_does_45 : decode cX12_does 45 = .ok (.ifCond .ne 63, 3) := by decide +kernel
theorem dX12_does_48 : decode cX12_does 48 = .ok (.aload_n 0, 1) := by decide +kernel
theorem dX12_does_49 : decode cX12_does 49 = .ok (.iload_n 1, 1) := by decide +kernel
theorem dX12_does_50 : decode cX12_does 50 = .ok (.iload 4, 2) := by decide +kernel
theorem dX12_does_52 : decode cX12_does 52 = .ok (.invokevirtual 488, 3) := by decide +kernel
theorem dX12_does_55 : decode cX12_does 55 = .ok (.lstore 5, 2) := by decide +kernel
theorem dX12_does_57 : decode cX12_does 57 = .ok (.aload_n 0, 1) := by decide +kernel
theorem dX12_does_58 : decode cX12_does 58 = .ok (.dup, 1) := by decide +kernel
theorem dX12_does_59 : decode cX12_does 59 = .ok (.getfield 415, 3) := by decide +kernel
theorem dX12_does_62 : decode cX12_does 62 = .ok (.lload 5, 2) := by decide +kernel
theorem dX12_does_64 : decode cX12_does 64 = .ok (.ladd, 1) := by decide +kernel
theorem dX12_does_65 : decode cX12_does 65 = .ok (.putfield 415, 3) := by decide +kernel
theorem dX12_does_68 : decode cX12_does 68 = .ok (.aload_n 0, 1) := by decide +kernel
theorem dX12_does_69 : decode cX12_does 69 = .ok (.dup, 1) := by decide +kernel
theorem dX12_does_70 : decode cX12_does 70 = .ok (.getfield 492, 3) := by decide +kernel
theorem dX12_does_73 : decode cX12_does 73 = .ok (.lload 5, 2) := by decide +kernel
theorem dX12_does_75 : decode cX12_does 75 = .ok (.ladd, 1) := by decide +kernel
theorem dX12_does_76 : decode cX12_does 76 = .ok (.putfield 492, 3) := by decide +kernel
theorem dX12_does_79 : decode cX12_does 79 = .ok (.aload_n 0, 1) := by decide +kernel
theorem dX12_does_80 : decode cX12_does 80 = .ok (.aload_n 0, 1) := by decide +kernel
theorem dX12_does_81 : decode cX12_does 81 = .ok (.getfield 495, 3) := by decide +kernel
theorem dX12_does_84 : decode cX12_does 84 = .ok (.ifCond .ne 13, 3) := by decide +kernel
theorem dX12_does_87 : decode cX12_does 87 = .ok (.aload_n 0, 1) := by decide +kernel
theorem dX12_does_88 : decode cX12_does 88 = .ok (.getfield 139, 3) := by decide +kernel
theorem dX12_does_91 : decode cX12_does 91 = .ok (.iload 4, 2) := by decide +kernel
theorem dX12_does_93 : decode cX12_does 93 = .ok (.baload, 1) := by decide +kernel
theorem dX12_does_94 : decode cX12_does 94 = .ok (.ifCond .eq 7, 3) := by decide +kernel
theorem dX12_does_97 : decode cX12_does 97 = .ok (.iconst 1, 1) := by decide +kernel
theorem dX12_does_98 : decode cX12_does 98 = .ok (.goto 4, 3) := by decide +kernel
theorem dX12_does_101 : decode cX12_does 101 = .ok (.iconst 0, 1) := by decide +kernel
theorem dX12_does_102 : decode cX12_does 102 = .ok (.putfield 495, 3) := by decide +kernel
theorem dX12_does_105 : decode cX12_does 105 = .ok (.goto 198, 3) := by decide +kernel
theorem dX12_does_108 : decode cX12_does 108 = .ok (.iload_n 2, 1) := by decide +kernel
theorem dX12_does_109 : decode cX12_does 109 = .ok (.iconst 1, 1) := by decide +kernel
theorem dX12_does_110 : decode cX12_does 110 = .ok (.if_icmp .ne 37, 3) := by decide +kernel
theorem dX12_does_113 : decode cX12_does 113 = .ok (.aload_n 0, 1) := by decide +kernel
theorem dX12_does_114 : decode cX12_does 114 = .ok (.iload_n 1, 1) := by decide +kernel
theorem dX12_does_115 : decode cX12_does 115 = .ok (.iload 4, 2) := by decide +kernel
theorem dX12_does_117 : decode cX12_does 117 = .ok (.invokevirtual 488, 3) := by decide +kernel
theorem dX12_does_120 : decode cX12_does 120 = .ok (.lstore 5, 2) := by decide +kernel
theorem dX12_does_122 : decode cX12_does 122 = .ok (.aload_n 0, 1) := by decide +kernel
theorem dX12_does_123 : decode cX12_does 123 = .ok (.dup, 1) := by decide +kernel
theorem dX12_does_124 : decode cX12_does 124 = .ok (.getfield 415, 3) := by decide +kernel
theorem dX12_does_127 : decode cX12_does 127 = .ok (.lload 5, 2) := by decide +kernel
theorem dX12_does_129 : decode cX12_does 129 = .ok (.lsub, 1) := by decide +kernel
theorem dX12_does_130 : decode cX12_does 130 = .ok (.putfield 415, 3) := by decide +kernel
theorem dX12_does_133 : decode cX12_does 133 = .ok (.aload_n 0, 1) := by decide +kernel
theorem dX12_does_134 : decode cX12_does 134 = .ok (.dup, 1) := by decide +kernel
theorem dX12_does_135 : decode cX12_does 135 = .ok (.getfield 499, 3) := by decide +kernel
theorem dX12_does_138 : decode cX12_does 138 = .ok (.lload 5, 2) := by decide +kernel
theorem dX12_does_140 : decode cX12_does 140 = .ok (.ladd, 1) := by decide +kernel
theorem dX12_does_141 : decode cX12_does 141 = .ok (.putfield 499, 3) := by decide +kernel
theorem dX12_does_144 : decode cX12_does 144 = .ok (.goto 159, 3) := by decide +kernel
theorem dX12_does_147 : decode cX12_does 147 = .ok (.iload_n 2, 1) := by decide +kernel
theorem dX12_does_148 : decode cX12_does 148 = .ok (.iconst 2, 1) := by decide +kernel
theorem dX12_does_149 : decode cX12_does 149 = .ok (.if_icmp .ne 63, 3) := by decide +kernel
theorem dX12_does_152 : decode cX12_does 152 = .ok (.aload_n 0, 1) := by decide +kernel
theorem dX12_does_153 : decode cX12_does 153 = .ok (.getfield 415, 3) := by decide +kernel
theorem dX12_does_156 : decode cX12_does 156 = .ok (.lconst 0, 1) := by decide +kernel
theorem dX12_does_157 : decode cX12_does 157 = .ok (.lcmp, 1) := by decide +kernel
theorem dX12_does_158 : decode cX12_does 158 = .ok (.ifCond .le 54, 3) := by decide +kernel
theorem dX12_does_161 : decode cX12_does 161 = .ok (.aload_n 0, 1) := by decide +kernel
theorem dX12_does_162 : decode cX12_does 162 = .ok (.getfield 415, 3) := by decide +kernel
theorem dX12_does_165 : decode cX12_does 165 = .ok (.aload_n 0, 1) := by decide +kernel
theorem dX12_does_166 : decode cX12_does 166 = .ok (.getfield 143, 3) := by decide +kernel
theorem dX12_does_169 : decode cX12_does 169 = .ok (.iload 4, 2) := by decide +kernel
theorem dX12_does_171 : decode cX12_does 171 = .ok (.iaload, 1) := by decide +kernel
theorem dX12_does_172 : decode cX12_does 172 = .ok (.i2l, 1) := by decide +kernel
theorem dX12_does_173 : decode cX12_does 173 = .ok (.lmul, 1) := by decide +kernel
theorem dX12_does_174 : decode cX12_does 174 = .ok (.aload_n 0, 1) := by decide +kernel
theorem dX12_does_175 : decode cX12_does 175 = .ok (.getfield 146, 3) := by decide +kernel
theorem dX12_does_178 : decode cX12_does 178 = .ok (.iload 4, 2) := by decide +kernel
theorem dX12_does_180 : decode cX12_does 180 = .ok (.iaload, 1) := by decide +kernel
theorem dX12_does_181 : decode cX12_does 181 = .ok (.i2l, 1) := by decide +kernel
theorem dX12_does_182 : decode cX12_does 182 = .ok (.invokestatic 405, 3) := by decide +kernel
theorem dX12_does_185 : decode cX12_does 185 = .ok (.lstore 5, 2) := by decide +kernel
theorem dX12_does_187 : decode cX12_does 187 = .ok (.aload_n 0, 1) := by decide +kernel
theorem dX12_does_188 : decode cX12_does 188 = .ok (.dup, 1) := by decide +kernel
theorem dX12_does_189 : decode cX12_does 189 = .ok (.getfield 415, 3) := by decide +kernel
theorem dX12_does_192 : decode cX12_does 192 = .ok (.lload 5, 2) := by decide +kernel
theorem dX12_does_194 : decode cX12_does 194 = .ok (.lsub, 1) := by decide +kernel
theorem dX12_does_195 : decode cX12_does 195 = .ok (.putfield 415, 3) := by decide +kernel
theorem dX12_does_198 : decode cX12_does 198 = .ok (.aload_n 0, 1) := by decide +kernel
theorem dX12_does_199 : decode cX12_does 199 = .ok (.dup, 1) := by decide +kernel
theorem dX12_does_200 : decode cX12_does 200 = .ok (.getfield 502, 3) := by decide +kernel
theorem dX12_does_203 : decode cX12_does 203 = .ok (.lload 5, 2) := by decide +kernel
theorem dX12_does_205 : decode cX12_does 205 = .ok (.ladd, 1) := by decide +kernel
theorem dX12_does_206 : decode cX12_does 206 = .ok (.putfield 502, 3) := by decide +kernel
theorem dX12_does_209 : decode cX12_does 209 = .ok (.goto 94, 3) := by decide +kernel
theorem dX12_does_212 : decode cX12_does 212 = .ok (.iload_n 2, 1) := by decide +kernel
theorem dX12_does_213 : decode cX12_does 213 = .ok (.iconst 3, 1) := by decide +kernel
theorem dX12_does_214 : decode cX12_does 214 = .ok (.if_icmp .ne 89, 3) := by decide +kernel
theorem dX12_does_217 : decode cX12_does 217 = .ok (.aload_n 0, 1) := by decide +kernel
theorem dX12_does_218 : decode cX12_does 218 = .ok (.getfield 415, 3) := by decide +kernel
theorem dX12_does_221 : decode cX12_does 221 = .ok (.lconst 0, 1) := by decide +kernel
theorem dX12_does_222 : decode cX12_does 222 = .ok (.lcmp, 1) := by decide +kernel
theorem dX12_does_223 : decode cX12_does 223 = .ok (.ifCond .le 80, 3) := by decide +kernel
theorem dX12_does_226 : decode cX12_does 226 = .ok (.aload_n 0, 1) := by decide +kernel
theorem dX12_does_227 : decode cX12_does 227 = .ok (.getfield 415, 3) := by decide +kernel
theorem dX12_does_230 : decode cX12_does 230 = .ok (.aload_n 0, 1) := by decide +kernel
theorem dX12_does_231 : decode cX12_does 231 = .ok (.getfield 143, 3) := by decide +kernel
theorem dX12_does_234 : decode cX12_does 234 = .ok (.iload 4, 2) := by decide +kernel
theorem dX12_does_236 : decode cX12_does 236 = .ok (.iaload, 1) := by decide +kernel
theorem dX12_does_237 : decode cX12_does 237 = .ok (.i2l, 1) := by decide +kernel
theorem dX12_does_238 : decode cX12_does 238 = .ok (.invokestatic 405, 3) := by decide +kernel
theorem dX12_does_241 : decode cX12_does 241 = .ok (.lstore 5, 2) := by decide +kernel
theorem dX12_does_243 : decode cX12_does 243 = .ok (.iconst 1, 1) := by decide +kernel
theorem dX12_does_244 : decode cX12_does 244 = .ok (.istore 7, 2) := by decide +kernel
theorem dX12_does_246 : decode cX12_does 246 = .ok (.iload 7, 2) := by decide +kernel
theorem dX12_does_248 : decode cX12_does 248 = .ok (.aload_n 0, 1) := by decide +kernel
theorem dX12_does_249 : decode cX12_does 249 = .ok (.getfield 143, 3) := by decide +kernel
theorem dX12_does_252 : decode cX12_does 252 = .ok (.iload 4, 2) := by decide +kernel
theorem dX12_does_254 : decode cX12_does 254 = .ok (.iaload, 1) := by decide +kernel
theorem dX12_does_255 : decode cX12_does 255 = .ok (.if_icmp .ge 26, 3) := by decide +kernel
theorem dX12_does_258 : decode cX12_does 258 = .ok (.aload_n 0, 1) := by decide +kernel
theorem dX12_does_259 : decode cX12_does 259 = .ok (.getfield 187, 3) := by decide +kernel
theorem dX12_does_262 : decode cX12_does 262 = .ok (.aload_n 0, 1) := by decide +kernel
theorem dX12_does_263 : decode cX12_does 263 = .ok (.getfield 412, 3) := by decide +kernel
theorem dX12_does_266 : decode cX12_does 266 = .ok (.iload 7, 2) := by decide +kernel
theorem dX12_does_268 : decode cX12_does 268 = .ok (.iadd, 1) := by decide +kernel
theorem dX12_does_269 : decode cX12_does 269 = .ok (.dup2, 1) := by decide +kernel
theorem dX12_does_270 : decode cX12_does 270 = .ok (.laload, 1) := by decide +kernel
theorem dX12_does_271 : decode cX12_does 271 = .ok (.lload 5, 2) := by decide +kernel
theorem dX12_does_273 : decode cX12_does 273 = .ok (.ladd, 1) := by decide +kernel
theorem dX12_does_274 : decode cX12_does 274 = .ok (.lastore, 1) := by decide +kernel
theorem dX12_does_275 : decode cX12_does 275 = .ok (.iinc 7 1, 3) := by decide +kernel
theorem dX12_does_278 : decode cX12_does 278 = .ok (.goto (-32), 3) := by decide +kernel
theorem dX12_does_281 : decode cX12_does 281 = .ok (.aload_n 0, 1) := by decide +kernel
theorem dX12_does_282 : decode cX12_does 282 = .ok (.dup, 1) := by decide +kernel
theorem dX12_does_283 : decode cX12_does 283 = .ok (.getfield 415, 3) := by decide +kernel
theorem dX12_does_286 : decode cX12_does 286 = .ok (.lload 5, 2) := by decide +kernel
theorem dX12_does_288 : decode cX12_does 288 = .ok (.aload_n 0, 1) := by decide +kernel
theorem dX12_does_289 : decode cX12_does 289 = .ok (.getfield 143, 3) := by decide +kernel
theorem dX12_does_292 : decode cX12_does 292 = .ok (.iload 4, 2) := by decide +kernel
theorem dX12_does_294 : decode cX12_does 294 = .ok (.iaload, 1) := by decide +kernel
theorem dX12_does_295 : decode cX12_does 295 = .ok (.iconst 1, 1) := by decide +kernel
theorem dX12_does_296 : decode cX12_does 296 = .ok (.isub, 1) := by decide +kernel
theorem dX12_does_297 : decode cX12_does 297 = .ok (.i2l, 1) := by decide +kernel
theorem dX12_does_298 : decode cX12_does 298 = .ok (.lmul, 1) := by decide +kernel
theorem dX12_does_299 : decode cX12_does 299 = .ok (.lsub, 1) := by decide +kernel
theorem dX12_does_300 : decode cX12_does 300 = .ok (.putfield 415, 3) := by decide +kernel
theorem dX12_does_303 : decode cX12_does 303 = .ok (.iinc 3 1, 3) := by decide +kernel
theorem dX12_does_306 : decode cX12_does 306 = .ok (.goto (-304), 3) := by decide +kernel
theorem dX12_does_309 : decode cX12_does 309 = .ok (.return_, 1) := by decide +kernel
theorem zy_X12_does : zYv yX12_does cX12_does 8 none 2 := ⟨zw_1755, zws_90, zw_12, zw_1756, by decide, by decide, by decide⟩
theorem c_X12_does_b246 {C : zC} {I : Nat → Nat → Int32} {J : Nat → Nat → Int64} {Rr : Nat → Nat → Option Nat} {D : zD} (N : Nat) (a1 : Int32) (a2 : Int32) (v_now : Int32) (e_v_now : I 128 65 = v_now) (v_paid : Int64) (e_v_paid : J 128 64 = v_paid) (v_shireNow : Int32) (e_v_shireNow : I 128 66 = v_shireNow) (v_codes : (Nat → Int32)) (e_v_codes : I 173 = v_codes) (v_first : (Nat → Int32)) (e_v_first : I 168 = v_first) (v_isBlanched : (Nat → Int32)) (e_v_isBlanched : I 167 = v_isBlanched) (v_many : (Nat → Int32)) (e_v_many : I 165 = v_many) (v_second : (Nat → Int32)) (e_v_second : I 169 = v_second) (v_sort : (Nat → Int32)) (e_v_sort : I 166 = v_sort) (v_sumEnd : (Nat → Int32)) (e_v_sumEnd : I 171 = v_sumEnd) (v_sumFrom : (Nat → Int32)) (e_v_sumFrom : I 170 = v_sumFrom) (v_testEnd : (Nat → Int32)) (e_v_testEnd : I 172 = v_testEnd) (y_v_allowed : Int64) (y_v_debt : Int64) (y_v_farms : Int64) (y_v_isBlanchedNow : Int32) (y_v_pardoned : Int64) (y_v_piled : Int32) (y_v_off : (Nat → Int64)) (y_v_pile : (Nat → Int64)) (E : zE C RX12 cX12_does 8 none ({ frames := 4, cells := 0, slots := 0, locals := 99 } : Room)) (hQ : C.Q = zQv C ({ frames := 4, cells := 0, slots := 0, locals := 99 } : Room) ((va_up I 128 (va_up (va_up (I 128) 62 y_v_piled) 83 y_v_isBlanchedNow)), (va_up (va_up (va_up J 128 (va_up (va_up (va_up (va_up (J 128) 63 y_v_debt) 79 y_v_farms) 80 y_v_allowed) 81 y_v_pardoned)) 175 y_v_pile) 181 y_v_off), Rr, D)) (x3 : Int32) (x4 : Int32) (x5 : Int64) (v_allowed : Int64) (v_debt : Int64) (v_farms : Int64) (v_isBlanchedNow : Int32) (v_pardoned : Int64) (v_piled : Int32) (v_pile : (Nat → Int64)) (k281 : (Nat → Int64) → Option R_pM_does) (hk281 : ∀ (v_off : (Nat → Int64)), k281 v_off = some (y_v_allowed, y_v_debt, y_v_farms, y_v_isBlanchedNow, y_v_pardoned, y_v_piled, y_v_off, y_v_pile) → zB C (0, 0) 281 [(0, .ref (C.X.1 + 128)), (1, .int a1), (2, .int a2), (3, .int x3), (4, .int x4), (5, .long x5)] [] ((va_up I 128 (va_up (va_up (I 128) 62 v_piled) 83 v_isBlanchedNow)), (va_up (va_up (va_up J 128 (va_up (va_up (va_up (va_up (J 128) 63 v_debt) 79 v_farms) 80 v_allowed) 81 v_pardoned)) 175 v_pile) 181 v_off), Rr, D)) : ∀ (n9 : Nat) (x7 : Int32) (v_off : (Nat → Int64)), pM_does_b246 N a1 a2 v_now v_paid v_shireNow v_codes v_first v_isBlanched v_many v_second v_sort v_sumEnd v_sumFrom v_testEnd x3 x4 x5 v_allowed v_debt v_farms v_isBlanchedNow v_pardoned v_piled v_pile k281 n9 x7 v_off = some (y_v_allowed, y_v_debt, y_v_farms, y_v_isBlanchedNow, y_v_pardoned, y_v_piled, y_v_off, y_v_pile) → zB C (0, 0) 246 [(0, .ref (C.X.1 + 128)), (1, .int a1), (2, .int a2), (3, .int x3), (4, .int x4), (5, .long x5), (7, .int x7)] [] ((va_up I 128 (va_up (va_up (I 128) 62 v_piled) 83 v_isBlanchedNow)), (va_up (va_up (va_up J 128 (va_up (va_up (va_up (va_up (J 128) 63 v_debt) 79 v_farms) 80 v_allowed) 81 v_pardoned)) 175 v_pile) 181 v_off), Rr, D) := by
  refine zlp2_ind (P := fun (x7 : Int32) (v_off : (Nat → Int64)) => zB C (0, 0) 246 [(0, .ref (C.X.1 + 128)), (1, .int a1), (2, .int a2), (3, .int x3), (4, .int x4), (5, .long x5), (7, .int x7)] [] ((va_up I 128 (va_up (va_up (I 128) 62 v_piled) 83 v_isBlanchedNow)), (va_up (va_up (va_up J 128 (va_up (va_up (va_up (va_up (J 128) 63 v_debt) 79 v_farms) 80 v_allowed) 81 v_pardoned)) 175 v_pile) 181 v_off), Rr, D)) (fun self ih => ?_)
  intro x7 v_off h
  refine zb_iload E dX12_does_246 6 rfl ?_
  refine zb_aload_n E dX12_does_248 0 rfl rfl ?_
  refine zb_get E 128 (by decide) (zF_128 C.X) rfl zin12 50 (by decide) zw_1218 (v := .ref (C.X.1 + 168)) rfl dX12_does_249 ?_
  refine zb_iload E dX12_does_252 4 rfl ?_
  obtain ⟨g10, h⟩ := gd_s h
  refine zb_iald E 168 (by decide) zF_168 (f := v_first) (by exact e_v_first) (ib_in g10) dX12_does_254 ?_
  refine zb_icmp_ge E dX12_does_255 (tgt := 281) rfl (fun hc => ?_) (fun hc => ?_)
  · have h := if_t h hc
    refine zb_sub [0, 1, 2, 3, 4, 5] rfl ?_
    exact hk281 v_off h
  · have h := if_f h hc
    refine zb_aload_n E dX12_does_258 0 rfl rfl ?_
    refine zb_get E 128 (by decide) (zF_128 C.X) rfl zin12 78 (by decide) zw_1246 (v := .ref (C.X.1 + 181)) rfl dX12_does_259 ?_
    refine zb_aload_n E dX12_does_262 0 rfl rfl ?_
    refine zb_get E 128 (by decide) (zF_128 C.X) rfl zin12 65 (by decide) zw_1233 (v := .int v_now) (by exact congrArg (fun z => some (Value.int z)) e_v_now) dX12_does_263 ?_
    refine zb_iload E dX12_does_266 6 rfl ?_
    refine zb_iadd E dX12_does_268 ?_
    refine zb_dup2_11 E dX12_does_269 rfl rfl ?_
    obtain ⟨g11, h⟩ := gd_s h
    refine zb_lald E 181 (by decide) zF_181 (f := v_off) rfl (ib_in g11) dX12_does_270 ?_
    refine zb_lload E dX12_does_271 5 rfl ?_
    refine zb_ladd E dX12_does_273 ?_
    refine zb_last E 181 (by decide) zF_181 (f := v_off) rfl (ib_in g11) dX12_does_274 (J2 := (va_up (va_up (va_up J 128 (va_up (va_up (va_up (va_up (J 128) 63 v_debt) 79 v_farms) 80 v_allowed) 81 v_pardoned)) 175 v_pile) 181 (vp_updL v_off (ix (v_now + x7)) ((v_off (ix (v_now + x7))) + x5)))) zn1 ?_
    refine zb_iinc E dX12_does_275 6 rfl (v := (x7 + 1)) rfl (by decide) (lv2 := [(7, .int (x7 + 1)), (0, .ref (C.X.1 + 128)), (1, .int a1), (2, .int a2), (3, .int x3), (4, .int x4), (5, .long x5)]) rfl ?_
    refine zb_goto E dX12_does_278 (tgt := 246) rfl ?_
    refine zb_sub [1, 2, 3, 4, 5, 6, 0] rfl ?_
    exact ih (x7 + 1) (vp_updL v_off (ix (v_now + x7)) ((v_off (ix (v_now + x7))) + x5)) h
theorem c_X12_does_b281 {C : zC} {I : Nat → Nat → Int32} {J : Nat → Nat → Int64} {Rr : Nat → Nat → Option Nat} {D : zD} (N : Nat) (a1 : Int32) (a2 : Int32) (v_now : Int32) (e_v_now : I 128 65 = v_now) (v_paid : Int64) (e_v_paid : J 128 64 = v_paid) (v_shireNow : Int32) (e_v_shireNow : I 128 66 = v_shireNow) (v_codes : (Nat → Int32)) (e_v_codes : I 173 = v_codes) (v_first : (Nat → Int32)) (e_v_first : I 168 = v_first) (v_isBlanched : (Nat → Int32)) (e_v_isBlanched : I 167 = v_isBlanched) (v_many : (Nat → Int32)) (e_v_many : I 165 = v_many) (v_second : (Nat → Int32)) (e_v_second : I 169 = v_second) (v_sort : (Nat → Int32)) (e_v_sort : I 166 = v_sort) (v_sumEnd : (Nat → Int32)) (e_v_sumEnd : I 171 = v_sumEnd) (v_sumFrom : (Nat → Int32)) (e_v_sumFrom : I 170 = v_sumFrom) (v_testEnd : (Nat → Int32)) (e_v_testEnd : I 172 = v_testEnd) (y_v_allowed : Int64) (y_v_debt : Int64) (y_v_farms : Int64) (y_v_isBlanchedNow : Int32) (y_v_pardoned : Int64) (y_v_piled : Int32) (y_v_off : (Nat → Int64)) (y_v_pile : (Nat → Int64)) (E : zE C RX12 cX12_does 8 none ({ frames := 4, cells := 0, slots := 0, locals := 99 } : Room)) (hQ : C.Q = zQv C ({ frames := 4, cells := 0, slots := 0, locals := 99 } : Room) ((va_up I 128 (va_up (va_up (I 128) 62 y_v_piled) 83 y_v_isBlanchedNow)), (va_up (va_up (va_up J 128 (va_up (va_up (va_up (va_up (J 128) 63 y_v_debt) 79 y_v_farms) 80 y_v_allowed) 81 y_v_pardoned)) 175 y_v_pile) 181 y_v_off), Rr, D)) (x3 : Int32) (x4 : Int32) (x5 : Int64) (v_allowed : Int64) (v_debt : Int64) (v_farms : Int64) (v_isBlanchedNow : Int32) (v_pardoned : Int64) (v_piled : Int32) (v_off : (Nat → Int64)) (v_pile : (Nat → Int64)) (self : Int32 → Int64 → Int64 → Int64 → Int32 → Int64 → Int32 → (Nat → Int64) → (Nat → Int64) → Option R_pM_does) (ih : ∀ (x3 : Int32) (v_allowed : Int64) (v_debt : Int64) (v_farms : Int64) (v_isBlanchedNow : Int32) (v_pardoned : Int64) (v_piled : Int32) (v_off : (Nat → Int64)) (v_pile : (Nat → Int64)), self x3 v_allowed v_debt v_farms v_isBlanchedNow v_pardoned v_piled v_off v_pile = some (y_v_allowed, y_v_debt, y_v_farms, y_v_isBlanchedNow, y_v_pardoned, y_v_piled, y_v_off, y_v_pile) → zB C (0, 0) 2 [(0, .ref (C.X.1 + 128)), (1, .int a1), (2, .int a2), (3, .int x3)] [] ((va_up I 128 (va_up (va_up (I 128) 62 v_piled) 83 v_isBlanchedNow)), (va_up (va_up (va_up J 128 (va_up (va_up (va_up (va_up (J 128) 63 v_debt) 79 v_farms) 80 v_allowed) 81 v_pardoned)) 175 v_pile) 181 v_off), Rr, D)) (h : pM_does_b281 N a1 a2 v_now v_paid v_shireNow v_codes v_first v_isBlanched v_many v_second v_sort v_sumEnd v_sumFrom v_testEnd self x3 x4 x5 v_allowed v_debt v_farms v_isBlanchedNow v_pardoned v_piled v_off v_pile = some (y_v_allowed, y_v_debt, y_v_farms, y_v_isBlanchedNow, y_v_pardoned, y_v_piled, y_v_off, y_v_pile)) : zB C (0, 0) 281 [(0, .ref (C.X.1 + 128)), (1, .int a1), (2, .int a2), (3, .int x3), (4, .int x4), (5, .long x5)] [] ((va_up I 128 (va_up (va_up (I 128) 62 v_piled) 83 v_isBlanchedNow)), (va_up (va_up (va_up J 128 (va_up (va_up (va_up (va_up (J 128) 63 v_debt) 79 v_farms) 80 v_allowed) 81 v_pardoned)) 175 v_pile) 181 v_off), Rr, D) := by
  refine zb_aload_n E dX12_does_281 0 rfl rfl ?_
  refine zb_dup E dX12_does_282 rfl ?_
  refine zb_get E 128 (by decide) (zF_128 C.X) rfl zin12 63 (by decide) zw_1231 (v := .long v_debt) rfl dX12_does_283 ?_
  refine zb_lload E dX12_does_286 5 rfl ?_
  refine zb_aload_n E dX12_does_288 0 rfl rfl ?_
  refine zb_get E 128 (by decide) (zF_128 C.X) rfl zin12 50 (by decide) zw_1218 (v := .ref (C.X.1 + 168)) rfl dX12_does_289 ?_
  refine zb_iload E dX12_does_292 4 rfl ?_
  obtain ⟨g12, h⟩ := gd_s h
  refine zb_iald E 168 (by decide) zF_168 (f := v_first) (by exact e_v_first) (ib_in g12) dX12_does_294 ?_
  refine zb_iconst E dX12_does_295 (v := 1) rfl ?_
  refine zb_isub E dX12_does_296 ?_
  refine zb_i2l E dX12_does_297 ?_
  refine zb_lmul E dX12_does_298 ?_
  refine zb_lsub E dX12_does_299 ?_
  refine zb_put E 128 (by decide) (zF_128 C.X) rfl zin12 63 (by decide) zw_1231 tyX12 tyX12_ok nmX12 rfl rfl rfl (I2 := (va_up I 128 (va_up (va_up (I 128) 62 v_piled) 83 v_isBlanchedNow))) (J2 := (va_up (va_up (va_up J 128 (va_up (va_up (va_up (va_up (J 128) 63 (v_debt - (x5 * (i2l ((v_first (ix x4)) - 1))))) 79 v_farms) 80 v_allowed) 81 v_pardoned)) 175 v_pile) 181 v_off)) ((zset12_63 C.X (va_up (va_up (I 128) 62 v_piled) 83 v_isBlanchedNow) (va_up (va_up (va_up (va_up (J 128) 63 v_debt) 79 v_farms) 80 v_allowed) 81 v_pardoned) (v_debt - (x5 * (i2l ((v_first (ix x4)) - 1))))).trans (congrArg (fun g => zf12 C.X (va_up (va_up (I 128) 62 v_piled) 83 v_isBlanchedNow) g) (zn4 (by decide : (81 : Nat) ≠ 63) (by decide : (80 : Nat) ≠ 63) (by decide : (79 : Nat) ≠ 63)))) (by rw [zflen12]; decide) (fun j hj => ⟨rfl, zup_cg (zup_cg ((zup_n hj).trans (zup_n hj).symm))⟩) dX12_does_300 ?_
  refine zb_iinc E dX12_does_303 3 rfl (v := (x3 + 1)) rfl (by decide) (lv2 := [(3, .int (x3 + 1)), (0, .ref (C.X.1 + 128)), (1, .int a1), (2, .int a2), (4, .int x4), (5, .long x5)]) rfl ?_
  refine zb_goto E dX12_does_306 (tgt := 2) rfl ?_
  refine zb_sub [1, 2, 3, 0] rfl ?_
  exact ih (x3 + 1) v_allowed (v_debt - (x5 * (i2l ((v_first (ix x4)) - 1)))) v_farms v_isBlanchedNow v_pardoned v_piled v_off v_pile h
theorem c_X12_does_b212 {C : zC} {I : Nat → Nat → Int32} {J : Nat → Nat → Int64} {Rr : Nat → Nat → Option Nat} {D : zD} (N : Nat) (a1 : Int32) (a2 : Int32) (v_now : Int32) (e_v_now : I 128 65 = v_now) (v_paid : Int64) (e_v_paid : J 128 64 = v_paid) (v_shireNow : Int32) (e_v_shireNow : I 128 66 = v_shireNow) (v_codes : (Nat → Int32)) (e_v_codes : I 173 = v_codes) (v_first : (Nat → Int32)) (e_v_first : I 168 = v_first) (v_isBlanched : (Nat → Int32)) (e_v_isBlanched : I 167 = v_isBlanched) (v_many : (Nat → Int32)) (e_v_many : I 165 = v_many) (v_second : (Nat → Int32)) (e_v_second : I 169 = v_second) (v_sort : (Nat → Int32)) (e_v_sort : I 166 = v_sort) (v_sumEnd : (Nat → Int32)) (e_v_sumEnd : I 171 = v_sumEnd) (v_sumFrom : (Nat → Int32)) (e_v_sumFrom : I 170 = v_sumFrom) (v_testEnd : (Nat → Int32)) (e_v_testEnd : I 172 = v_testEnd) (y_v_allowed : Int64) (y_v_debt : Int64) (y_v_farms : Int64) (y_v_isBlanchedNow : Int32) (y_v_pardoned : Int64) (y_v_piled : Int32) (y_v_off : (Nat → Int64)) (y_v_pile : (Nat → Int64)) (E : zE C RX12 cX12_does 8 none ({ frames := 4, cells := 0, slots := 0, locals := 99 } : Room)) (hQ : C.Q = zQv C ({ frames := 4, cells := 0, slots := 0, locals := 99 } : Room) ((va_up I 128 (va_up (va_up (I 128) 62 y_v_piled) 83 y_v_isBlanchedNow)), (va_up (va_up (va_up J 128 (va_up (va_up (va_up (va_up (J 128) 63 y_v_debt) 79 y_v_farms) 80 y_v_allowed) 81 y_v_pardoned)) 175 y_v_pile) 181 y_v_off), Rr, D)) (x3 : Int32) (x4 : Int32) (v_allowed : Int64) (v_debt : Int64) (v_farms : Int64) (v_isBlanchedNow : Int32) (v_pardoned : Int64) (v_piled : Int32) (v_off : (Nat → Int64)) (v_pile : (Nat → Int64)) (self : Int32 → Int64 → Int64 → Int64 → Int32 → Int64 → Int32 → (Nat → Int64) → (Nat → Int64) → Option R_pM_does) (ih : ∀ (x3 : Int32) (v_allowed : Int64) (v_debt : Int64) (v_farms : Int64) (v_isBlanchedNow : Int32) (v_pardoned : Int64) (v_piled : Int32) (v_off : (Nat → Int64)) (v_pile : (Nat → Int64)), self x3 v_allowed v_debt v_farms v_isBlanchedNow v_pardoned v_piled v_off v_pile = some (y_v_allowed, y_v_debt, y_v_farms, y_v_isBlanchedNow, y_v_pardoned, y_v_piled, y_v_off, y_v_pile) → zB C (0, 0) 2 [(0, .ref (C.X.1 + 128)), (1, .int a1), (2, .int a2), (3, .int x3)] [] ((va_up I 128 (va_up (va_up (I 128) 62 v_piled) 83 v_isBlanchedNow)), (va_up (va_up (va_up J 128 (va_up (va_up (va_up (va_up (J 128) 63 v_debt) 79 v_farms) 80 v_allowed) 81 v_pardoned)) 175 v_pile) 181 v_off), Rr, D)) (h : pM_does_b212 N a1 a2 v_now v_paid v_shireNow v_codes v_first v_isBlanched v_many v_second v_sort v_sumEnd v_sumFrom v_testEnd self x3 x4 v_allowed v_debt v_farms v_isBlanchedNow v_pardoned v_piled v_off v_pile = some (y_v_allowed, y_v_debt, y_v_farms, y_v_isBlanchedNow, y_v_pardoned, y_v_piled, y_v_off, y_v_pile)) : zB C (0, 0) 212 [(0, .ref (C.X.1 + 128)), (1, .int a1), (2, .int a2), (3, .int x3), (4, .int x4)] [] ((va_up I 128 (va_up (va_up (I 128) 62 v_piled) 83 v_isBlanchedNow)), (va_up (va_up (va_up J 128 (va_up (va_up (va_up (va_up (J 128) 63 v_debt) 79 v_farms) 80 v_allowed) 81 v_pardoned)) 175 v_pile) 181 v_off), Rr, D) := by
  refine zb_iload_n E dX12_does_212 2 rfl rfl ?_
  refine zb_iconst E dX12_does_213 (v := 3) rfl ?_
  refine zb_icmp_ne E dX12_does_214 (tgt := 303) rfl (fun hc => ?_) (fun hc => ?_)
  · have h := if_f h hc
    refine zb_iinc E dX12_does_303 3 rfl (v := (x3 + 1)) rfl (by decide) (lv2 := [(3, .int (x3 + 1)), (0, .ref (C.X.1 + 128)), (1, .int a1), (2, .int a2), (4, .int x4)]) rfl ?_
    refine zb_goto E dX12_does_306 (tgt := 2) rfl ?_
    refine zb_sub [1, 2, 3, 0] rfl ?_
    exact ih (x3 + 1) v_allowed v_debt v_farms v_isBlanchedNow v_pardoned v_piled v_off v_pile h
  · have h := if_t h hc
    refine zb_aload_n E dX12_does_217 0 rfl rfl ?_
    refine zb_get E 128 (by decide) (zF_128 C.X) rfl zin12 63 (by decide) zw_1231 (v := .long v_debt) rfl dX12_does_218 ?_
    refine zb_lconst E dX12_does_221 (v := 0) rfl ?_
    refine zb_lcmp E dX12_does_222 ?_
    refine zb_if_le E dX12_does_223 (tgt := 303) rfl (fun hc => ?_) (fun hc => ?_)
    · have h := if_t h hc
      refine zb_iinc E dX12_does_303 3 rfl (v := (x3 + 1)) rfl (by decide) (lv2 := [(3, .int (x3 + 1)), (0, .ref (C.X.1 + 128)), (1, .int a1), (2, .int a2), (4, .int x4)]) rfl ?_
      refine zb_goto E dX12_does_306 (tgt := 2) rfl ?_
      refine zb_sub [1, 2, 3, 0] rfl ?_
      exact ih (x3 + 1) v_allowed v_debt v_farms v_isBlanchedNow v_pardoned v_piled v_off v_pile h
    · have h := if_f h hc
      refine zb_aload_n E dX12_does_226 0 rfl rfl ?_
      refine zb_get E 128 (by decide) (zF_128 C.X) rfl zin12 63 (by decide) zw_1231 (v := .long v_debt) rfl dX12_does_227 ?_
      refine zb_aload_n E dX12_does_230 0 rfl rfl ?_
      refine zb_get E 128 (by decide) (zF_128 C.X) rfl zin12 50 (by decide) zw_1218 (v := .ref (C.X.1 + 168)) rfl dX12_does_231 ?_
      refine zb_iload E dX12_does_234 4 rfl ?_
      obtain ⟨g7, h⟩ := gd_s h
      refine zb_iald E 168 (by decide) zF_168 (f := v_first) (by exact e_v_first) (ib_in g7) dX12_does_236 ?_
      refine zb_i2l E dX12_does_237 ?_
      obtain ⟨rc8, hc_238, h⟩ := bd1_s h
      refine zb_cSl E [.long v_debt, .long (i2l (v_first (ix x4)))] zy_X12_floor zw_1777 (c_X12_floor hc_238) (by decide) rfl rfl (by first | decide | simp [Value.category]) dX12_does_238 (cs2 := (0, 0)) rfl ?_
      refine zb_lstore E dX12_does_241 (by decide) (lv2 := [(5, .long rc8), (0, .ref (C.X.1 + 128)), (1, .int a1), (2, .int a2), (3, .int x3), (4, .int x4)]) rfl ?_
      refine zb_iconst E dX12_does_243 (v := 1) rfl ?_
      refine zb_istore E dX12_does_244 (by decide) (lv2 := [(7, .int 1), (5, .long rc8), (0, .ref (C.X.1 + 128)), (1, .int a1), (2, .int a2), (3, .int x3), (4, .int x4)]) rfl ?_
      refine zb_sub [2, 3, 4, 5, 6, 1, 0] rfl ?_
      exact c_X12_does_b246 N a1 a2 v_now e_v_now v_paid e_v_paid v_shireNow e_v_shireNow v_codes e_v_codes v_first e_v_first v_isBlanched e_v_isBlanched v_many e_v_many v_second e_v_second v_sort e_v_sort v_sumEnd e_v_sumEnd v_sumFrom e_v_sumFrom v_testEnd e_v_testEnd y_v_allowed y_v_debt y_v_farms y_v_isBlanchedNow y_v_pardoned y_v_piled y_v_off y_v_pile E hQ x3 x4 rc8 v_allowed v_debt v_farms v_isBlanchedNow v_pardoned v_piled v_pile _ (fun v_off_z1 h => c_X12_does_b281 N a1 a2 v_now e_v_now v_paid e_v_paid v_shireNow e_v_shireNow v_codes e_v_codes v_first e_v_first v_isBlanched e_v_isBlanched v_many e_v_many v_second e_v_second v_sort e_v_sort v_sumEnd e_v_sumEnd v_sumFrom e_v_sumFrom v_testEnd e_v_testEnd y_v_allowed y_v_debt y_v_farms y_v_isBlanchedNow y_v_pardoned y_v_piled y_v_off y_v_pile E hQ x3 x4 rc8 v_allowed v_debt v_farms v_isBlanchedNow v_pardoned v_piled v_off_z1 v_pile self ih h) _ 1 v_off h
theorem c_X12_does_b102 {C : zC} {I : Nat → Nat → Int32} {J : Nat → Nat → Int64} {Rr : Nat → Nat → Option Nat} {D : zD} (N : Nat) (a1 : Int32) (a2 : Int32) (v_now : Int32) (e_v_now : I 128 65 = v_now) (v_paid : Int64) (e_v_paid : J 128 64 = v_paid) (v_shireNow : Int32) (e_v_shireNow : I 128 66 = v_shireNow) (v_codes : (Nat → Int32)) (e_v_codes : I 173 = v_codes) (v_first : (Nat → Int32)) (e_v_first : I 168 = v_first) (v_isBlanched : (Nat → Int32)) (e_v_isBlanched : I 167 = v_isBlanched) (v_many : (Nat → Int32)) (e_v_many : I 165 = v_many) (v_second : (Nat → Int32)) (e_v_second : I 169 = v_second) (v_sort : (Nat → Int32)) (e_v_sort : I 166 = v_sort) (v_sumEnd : (Nat → Int32)) (e_v_sumEnd : I 171 = v_sumEnd) (v_sumFrom : (Nat → Int32)) (e_v_sumFrom : I 170 = v_sumFrom) (v_testEnd : (Nat → Int32)) (e_v_testEnd : I 172 = v_testEnd) (y_v_allowed : Int64) (y_v_debt : Int64) (y_v_farms : Int64) (y_v_isBlanchedNow : Int32) (y_v_pardoned : Int64) (y_v_piled : Int32) (y_v_off : (Nat → Int64)) (y_v_pile : (Nat → Int64)) (E : zE C RX12 cX12_does 8 none ({ frames := 4, cells := 0, slots := 0, locals := 99 } : Room)) (hQ : C.Q = zQv C ({ frames := 4, cells := 0, slots := 0, locals := 99 } : Room) ((va_up I 128 (va_up (va_up (I 128) 62 y_v_piled) 83 y_v_isBlanchedNow)), (va_up (va_up (va_up J 128 (va_up (va_up (va_up (va_up (J 128) 63 y_v_debt) 79 y_v_farms) 80 y_v_allowed) 81 y_v_pardoned)) 175 y_v_pile) 181 y_v_off), Rr, D)) (x3 : Int32) (s1 : Int32) (v_allowed : Int64) (v_debt : Int64) (v_farms : Int64) (v_isBlanchedNow : Int32) (v_pardoned : Int64) (v_piled : Int32) (v_off : (Nat → Int64)) (v_pile : (Nat → Int64)) (self : Int32 → Int64 → Int64 → Int64 → Int32 → Int64 → Int32 → (Nat → Int64) → (Nat → Int64) → Option R_pM_does) (ih : ∀ (x3 : Int32) (v_allowed : Int64) (v_debt : Int64) (v_farms : Int64) (v_isBlanchedNow : Int32) (v_pardoned : Int64) (v_piled : Int32) (v_off : (Nat → Int64)) (v_pile : (Nat → Int64)), self x3 v_allowed v_debt v_farms v_isBlanchedNow v_pardoned v_piled v_off v_pile = some (y_v_allowed, y_v_debt, y_v_farms, y_v_isBlanchedNow, y_v_pardoned, y_v_piled, y_v_off, y_v_pile) → zB C (0, 0) 2 [(0, .ref (C.X.1 + 128)), (1, .int a1), (2, .int a2), (3, .int x3)] [] ((va_up I 128 (va_up (va_up (I 128) 62 v_piled) 83 v_isBlanchedNow)), (va_up (va_up (va_up J 128 (va_up (va_up (va_up (va_up (J 128) 63 v_debt) 79 v_farms) 80 v_allowed) 81 v_pardoned)) 175 v_pile) 181 v_off), Rr, D)) (h : pM_does_b102 N a1 a2 v_now v_paid v_shireNow v_codes v_first v_isBlanched v_many v_second v_sort v_sumEnd v_sumFrom v_testEnd self x3 s1 v_allowed v_debt v_farms v_isBlanchedNow v_pardoned v_piled v_off v_pile = some (y_v_allowed, y_v_debt, y_v_farms, y_v_isBlanchedNow, y_v_pardoned, y_v_piled, y_v_off, y_v_pile)) : zB C (0, 0) 102 [(0, .ref (C.X.1 + 128)), (1, .int a1), (2, .int a2), (3, .int x3)] [.int s1, .ref (C.X.1 + 128)] ((va_up I 128 (va_up (va_up (I 128) 62 v_piled) 83 v_isBlanchedNow)), (va_up (va_up (va_up J 128 (va_up (va_up (va_up (va_up (J 128) 63 v_debt) 79 v_farms) 80 v_allowed) 81 v_pardoned)) 175 v_pile) 181 v_off), Rr, D) := by
  obtain ⟨g9, h⟩ := gd_s h
  refine zb_put E 128 (by decide) (zF_128 C.X) rfl zin12 83 (by decide) zw_1251 tyX12 tyX12_ok nmX12 rfl (isB_n g9) (isB_f g9) (I2 := (va_up I 128 (va_up (va_up (I 128) 62 v_piled) 83 s1))) (J2 := (va_up (va_up (va_up J 128 (va_up (va_up (va_up (va_up (J 128) 63 v_debt) 79 v_farms) 80 v_allowed) 81 v_pardoned)) 175 v_pile) 181 v_off)) ((zset12_83 C.X (va_up (va_up (I 128) 62 v_piled) 83 v_isBlanchedNow) (va_up (va_up (va_up (va_up (J 128) 63 v_debt) 79 v_farms) 80 v_allowed) 81 v_pardoned) s1).trans (congrArg (fun g => zf12 C.X g (va_up (va_up (va_up (va_up (J 128) 63 v_debt) 79 v_farms) 80 v_allowed) 81 v_pardoned)) zn1)) (by rw [zflen12]; decide) (fun j hj => ⟨(zup_n hj).trans (zup_n hj).symm, rfl⟩) dX12_does_102 ?_
  refine zb_goto E dX12_does_105 (tgt := 303) rfl ?_
  refine zb_iinc E dX12_does_303 3 rfl (v := (x3 + 1)) rfl (by decide) (lv2 := [(3, .int (x3 + 1)), (0, .ref (C.X.1 + 128)), (1, .int a1), (2, .int a2)]) rfl ?_
  refine zb_goto E dX12_does_306 (tgt := 2) rfl ?_
  refine zb_sub [1, 2, 3, 0] rfl ?_
  exact ih (x3 + 1) v_allowed v_debt v_farms s1 v_pardoned v_piled v_off v_pile h
theorem c_X12_does_b2 {C : zC} {I : Nat → Nat → Int32} {J : Nat → Nat → Int64} {Rr : Nat → Nat → Option Nat} {D : zD} (N : Nat) (a1 : Int32) (a2 : Int32) (v_now : Int32) (e_v_now : I 128 65 = v_now) (v_paid : Int64) (e_v_paid : J 128 64 = v_paid) (v_shireNow : Int32) (e_v_shireNow : I 128 66 = v_shireNow) (v_codes : (Nat → Int32)) (e_v_codes : I 173 = v_codes) (v_first : (Nat → Int32)) (e_v_first : I 168 = v_first) (v_isBlanched : (Nat → Int32)) (e_v_isBlanched : I 167 = v_isBlanched) (v_many : (Nat → Int32)) (e_v_many : I 165 = v_many) (v_second : (Nat → Int32)) (e_v_second : I 169 = v_second) (v_sort : (Nat → Int32)) (e_v_sort : I 166 = v_sort) (v_sumEnd : (Nat → Int32)) (e_v_sumEnd : I 171 = v_sumEnd) (v_sumFrom : (Nat → Int32)) (e_v_sumFrom : I 170 = v_sumFrom) (v_testEnd : (Nat → Int32)) (e_v_testEnd : I 172 = v_testEnd) (y_v_allowed : Int64) (y_v_debt : Int64) (y_v_farms : Int64) (y_v_isBlanchedNow : Int32) (y_v_pardoned : Int64) (y_v_piled : Int32) (y_v_off : (Nat → Int64)) (y_v_pile : (Nat → Int64)) (E : zE C RX12 cX12_does 8 none ({ frames := 4, cells := 0, slots := 0, locals := 99 } : Room)) (hQ : C.Q = zQv C ({ frames := 4, cells := 0, slots := 0, locals := 99 } : Room) ((va_up I 128 (va_up (va_up (I 128) 62 y_v_piled) 83 y_v_isBlanchedNow)), (va_up (va_up (va_up J 128 (va_up (va_up (va_up (va_up (J 128) 63 y_v_debt) 79 y_v_farms) 80 y_v_allowed) 81 y_v_pardoned)) 175 y_v_pile) 181 y_v_off), Rr, D))  : ∀ (n9 : Nat) (x3 : Int32) (v_allowed : Int64) (v_debt : Int64) (v_farms : Int64) (v_isBlanchedNow : Int32) (v_pardoned : Int64) (v_piled : Int32) (v_off : (Nat → Int64)) (v_pile : (Nat → Int64)), pM_does_b2 N a1 a2 v_now v_paid v_shireNow v_codes v_first v_isBlanched v_many v_second v_sort v_sumEnd v_sumFrom v_testEnd n9 x3 v_allowed v_debt v_farms v_isBlanchedNow v_pardoned v_piled v_off v_pile = some (y_v_allowed, y_v_debt, y_v_farms, y_v_isBlanchedNow, y_v_pardoned, y_v_piled, y_v_off, y_v_pile) → zB C (0, 0) 2 [(0, .ref (C.X.1 + 128)), (1, .int a1), (2, .int a2), (3, .int x3)] [] ((va_up I 128 (va_up (va_up (I 128) 62 v_piled) 83 v_isBlanchedNow)), (va_up (va_up (va_up J 128 (va_up (va_up (va_up (va_up (J 128) 63 v_debt) 79 v_farms) 80 v_allowed) 81 v_pardoned)) 175 v_pile) 181 v_off), Rr, D) := by
  refine zlp9_ind (P := fun (x3 : Int32) (v_allowed : Int64) (v_debt : Int64) (v_farms : Int64) (v_isBlanchedNow : Int32) (v_pardoned : Int64) (v_piled : Int32) (v_off : (Nat → Int64)) (v_pile : (Nat → Int64)) => zB C (0, 0) 2 [(0, .ref (C.X.1 + 128)), (1, .int a1), (2, .int a2), (3, .int x3)] [] ((va_up I 128 (va_up (va_up (I 128) 62 v_piled) 83 v_isBlanchedNow)), (va_up (va_up (va_up J 128 (va_up (va_up (va_up (va_up (J 128) 63 v_debt) 79 v_farms) 80 v_allowed) 81 v_pardoned)) 175 v_pile) 181 v_off), Rr, D)) (fun self ih => ?_)
  intro x3 v_allowed v_debt v_farms v_isBlanchedNow v_pardoned v_piled v_off v_pile h
  refine zb_iload_n E dX12_does_2 3 rfl rfl ?_
  refine zb_aload_n E dX12_does_3 0 rfl rfl ?_
  refine zb_get E 128 (by decide) (zF_128 C.X) rfl zin12 47 (by decide) zw_1215 (v := .ref (C.X.1 + 165)) rfl dX12_does_4 ?_
  refine zb_iload_n E dX12_does_7 1 rfl rfl ?_
  obtain ⟨g1, h⟩ := gd_s h
  refine zb_iald E 165 (by decide) zF_165 (f := v_many) (by exact e_v_many) (ib_in g1) dX12_does_8 ?_
  refine zb_icmp_ge E dX12_does_9 (tgt := 309) rfl (fun hc => ?_) (fun hc => ?_)
  · have h := if_t h hc
    obtain ⟨rfl, rfl, rfl, rfl, rfl, rfl, rfl, rfl⟩ := zinj8 h
    exact zb_vret E hQ rfl ⟨Nat.zero_le _, Nat.zero_le _⟩ dX12_does_309
  · have h := if_f h hc
    refine zb_bipush E dX12_does_12 (v := 24) rfl ?_
    refine zb_iload_n E dX12_does_14 1 rfl rfl ?_
    refine zb_imul E dX12_does_15 ?_
    refine zb_iload_n E dX12_does_16 3 rfl rfl ?_
    refine zb_iadd E dX12_does_17 ?_
    refine zb_istore E dX12_does_18 (by decide) (lv2 := [(4, .int ((24 * a1) + x3)), (0, .ref (C.X.1 + 128)), (1, .int a1), (2, .int a2), (3, .int x3)]) rfl ?_
    refine zb_aload_n E dX12_does_20 1 rfl rfl ?_
    refine zb_get E 128 (by decide) (zF_128 C.X) rfl zin12 48 (by decide) zw_1216 (v := .ref (C.X.1 + 166)) rfl dX12_does_21 ?_
    refine zb_iload E dX12_does_24 0 rfl ?_
    obtain ⟨g2, h⟩ := gd_s h
    refine zb_iald E 166 (by decide) zF_166 (f := v_sort) (by exact e_v_sort) (ib_in g2) dX12_does_26 ?_
    refine zb_iload_n E dX12_does_27 3 rfl rfl ?_
    refine zb_icmp_ne E dX12_does_28 (tgt := 303) rfl (fun hc => ?_) (fun hc => ?_)
    · have h := if_f h hc
      refine zb_iinc E dX12_does_303 4 rfl (v := (x3 + 1)) rfl (by decide) (lv2 := [(3, .int (x3 + 1)), (4, .int ((24 * a1) + x3)), (0, .ref (C.X.1 + 128)), (1, .int a1), (2, .int a2)]) rfl ?_
      refine zb_goto E dX12_does_306 (tgt := 2) rfl ?_
      refine zb_sub [2, 3, 4, 0] rfl ?_
      exact ih (x3 + 1) v_allowed v_debt v_farms v_isBlanchedNow v_pardoned v_piled v_off v_pile h
    · have h := if_t h hc
      refine zb_aload_n E dX12_does_31 1 rfl rfl ?_
      refine zb_iload_n E dX12_does_32 2 rfl rfl ?_
      refine zb_iload E dX12_does_33 0 rfl ?_
      obtain ⟨rc3, v_piled_c3, v_pile_c3, hc_35, h⟩ := bd3_s h
      refine zb_cVi E [.int a1, .int ((24 * a1) + x3)] 128 zy_X12_holds zw_1757 (by decide) (zF_128 _ _ _ _) rfl (c_X12_holds (va_up (va_up (I 128) 62 v_piled) 83 v_isBlanchedNow) rfl v_debt rfl v_now (by exact e_v_now) v_paid (by exact e_v_paid) v_shireNow (by exact e_v_shireNow) v_codes (by exact e_v_codes) v_sumEnd (by exact e_v_sumEnd) v_testEnd (by exact e_v_testEnd) v_piled rfl v_pile rfl hc_35) (by decide) rfl rfl (by first | decide | simp [Value.category]) dX12_does_35 (cs2 := (0, 0)) rfl ?_
      refine zb_S (S2 := ((va_up I 128 (va_up (va_up (I 128) 62 v_piled_c3) 83 v_isBlanchedNow)), (va_up (va_up (va_up J 128 (va_up (va_up (va_up (va_up (J 128) 63 v_debt) 79 v_farms) 80 v_allowed) 81 v_pardoned)) 175 v_pile_c3) 181 v_off), Rr, D)) (zS_eq ((zcgV (zn2 (by decide : (83 : Nat) ≠ 62))).trans zn1) (zn2 (by decide : (181 : Nat) ≠ 175))) ?_
      refine zb_if_ne E dX12_does_38 (tgt := 44) rfl (fun hc => ?_) (fun hc => ?_)
      · have h := if_f h hc
        refine zb_iload_n E dX12_does_44 3 rfl rfl ?_
        refine zb_if_ne E dX12_does_45 (tgt := 108) rfl (fun hc => ?_) (fun hc => ?_)
        · have h := if_f h hc
          refine zb_iload_n E dX12_does_108 3 rfl rfl ?_
          refine zb_iconst E dX12_does_109 (v := 1) rfl ?_
          refine zb_icmp_ne E dX12_does_110 (tgt := 147) rfl (fun hc => ?_) (fun hc => ?_)
          · have h := if_f h hc
            refine zb_iload_n E dX12_does_147 3 rfl rfl ?_
            refine zb_iconst E dX12_does_148 (v := 2) rfl ?_
            refine zb_icmp_ne E dX12_does_149 (tgt := 212) rfl (fun hc => ?_) (fun hc => ?_)
            · have h := if_f h hc
              refine zb_sub [1, 2, 3, 4, 0] rfl ?_
              exact c_X12_does_b212 N a1 a2 v_now e_v_now v_paid e_v_paid v_shireNow e_v_shireNow v_codes e_v_codes v_first e_v_first v_isBlanched e_v_isBlanched v_many e_v_many v_second e_v_second v_sort e_v_sort v_sumEnd e_v_sumEnd v_sumFrom e_v_sumFrom v_testEnd e_v_testEnd y_v_allowed y_v_debt y_v_farms y_v_isBlanchedNow y_v_pardoned y_v_piled y_v_off y_v_pile E hQ x3 ((24 * a1) + x3) v_allowed v_debt v_farms v_isBlanchedNow v_pardoned v_piled_c3 v_off v_pile_c3 self ih h
            · have h := if_t h hc
              refine zb_aload_n E dX12_does_152 1 rfl rfl ?_
              refine zb_get E 128 (by decide) (zF_128 C.X) rfl zin12 63 (by decide) zw_1231 (v := .long v_debt) rfl dX12_does_153 ?_
              refine zb_lconst E dX12_does_156 (v := 0) rfl ?_
              refine zb_lcmp E dX12_does_157 ?_
              refine zb_if_le E dX12_does_158 (tgt := 212) rfl (fun hc => ?_) (fun hc => ?_)
              · have h := if_t h hc
                refine zb_sub [1, 2, 3, 4, 0] rfl ?_
                exact c_X12_does_b212 N a1 a2 v_now e_v_now v_paid e_v_paid v_shireNow e_v_shireNow v_codes e_v_codes v_first e_v_first v_isBlanched e_v_isBlanched v_many e_v_many v_second e_v_second v_sort e_v_sort v_sumEnd e_v_sumEnd v_sumFrom e_v_sumFrom v_testEnd e_v_testEnd y_v_allowed y_v_debt y_v_farms y_v_isBlanchedNow y_v_pardoned y_v_piled y_v_off y_v_pile E hQ x3 ((24 * a1) + x3) v_allowed v_debt v_farms v_isBlanchedNow v_pardoned v_piled_c3 v_off v_pile_c3 self ih h
              · have h := if_f h hc
                refine zb_aload_n E dX12_does_161 1 rfl rfl ?_
                refine zb_get E 128 (by decide) (zF_128 C.X) rfl zin12 63 (by decide) zw_1231 (v := .long v_debt) rfl dX12_does_162 ?_
                refine zb_aload_n E dX12_does_165 1 rfl rfl ?_
                refine zb_get E 128 (by decide) (zF_128 C.X) rfl zin12 50 (by decide) zw_1218 (v := .ref (C.X.1 + 168)) rfl dX12_does_166 ?_
                refine zb_iload E dX12_does_169 0 rfl ?_
                refine zb_iald E 168 (by decide) zF_168 (f := v_first) (by exact e_v_first) (ib_in g2) dX12_does_171 ?_
                refine zb_i2l E dX12_does_172 ?_
                refine zb_lmul E dX12_does_173 ?_
                refine zb_aload_n E dX12_does_174 1 rfl rfl ?_
                refine zb_get E 128 (by decide) (zF_128 C.X) rfl zin12 51 (by decide) zw_1219 (v := .ref (C.X.1 + 169)) rfl dX12_does_175 ?_
                refine zb_iload E dX12_does_178 0 rfl ?_
                refine zb_iald E 169 (by decide) zF_169 (f := v_second) (by exact e_v_second) (ib_in g2) dX12_does_180 ?_
                refine zb_i2l E dX12_does_181 ?_
                obtain ⟨rc4, hc_182, h⟩ := bd1_s h
                refine zb_cSl E [.long (v_debt * (i2l (v_first (ix ((24 * a1) + x3))))), .long (i2l (v_second (ix ((24 * a1) + x3))))] zy_X12_floor zw_1777 (c_X12_floor hc_182) (by decide) rfl rfl (by first | decide | simp [Value.category]) dX12_does_182 (cs2 := (0, 0)) rfl ?_
                refine zb_lstore E dX12_does_185 (by decide) (lv2 := [(5, .long rc4), (4, .int ((24 * a1) + x3)), (0, .ref (C.X.1 + 128)), (1, .int a1), (2, .int a2), (3, .int x3)]) rfl ?_
                refine zb_aload_n E dX12_does_187 2 rfl rfl ?_
                refine zb_dup E dX12_does_188 rfl ?_
                refine zb_get E 128 (by decide) (zF_128 C.X) rfl zin12 63 (by decide) zw_1231 (v := .long v_debt) rfl dX12_does_189 ?_
                refine zb_lload E dX12_does_192 0 rfl ?_
                refine zb_lsub E dX12_does_194 ?_
                refine zb_put E 128 (by decide) (zF_128 C.X) rfl zin12 63 (by decide) zw_1231 tyX12 tyX12_ok nmX12 rfl rfl rfl (I2 := (va_up I 128 (va_up (va_up (I 128) 62 v_piled_c3) 83 v_isBlanchedNow))) (J2 := (va_up (va_up (va_up J 128 (va_up (va_up (va_up (va_up (J 128) 63 (v_debt - rc4)) 79 v_farms) 80 v_allowed) 81 v_pardoned)) 175 v_pile_c3) 181 v_off)) ((zset12_63 C.X (va_up (va_up (I 128) 62 v_piled_c3) 83 v_isBlanchedNow) (va_up (va_up (va_up (va_up (J 128) 63 v_debt) 79 v_farms) 80 v_allowed) 81 v_pardoned) (v_debt - rc4)).trans (congrArg (fun g => zf12 C.X (va_up (va_up (I 128) 62 v_piled_c3) 83 v_isBlanchedNow) g) (zn4 (by decide : (81 : Nat) ≠ 63) (by decide : (80 : Nat) ≠ 63) (by decide : (79 : Nat) ≠ 63)))) (by rw [zflen12]; decide) (fun j hj => ⟨rfl, zup_cg (zup_cg ((zup_n hj).trans (zup_n hj).symm))⟩) dX12_does_195 ?_
                refine zb_aload_n E dX12_does_198 2 rfl rfl ?_
                refine zb_dup E dX12_does_199 rfl ?_
                refine zb_get E 128 (by decide) (zF_128 C.X) rfl zin12 81 (by decide) zw_1249 (v := .long v_pardoned) rfl dX12_does_200 ?_
                refine zb_lload E dX12_does_203 0 rfl ?_
                refine zb_ladd E dX12_does_205 ?_
                refine zb_put E 128 (by decide) (zF_128 C.X) rfl zin12 81 (by decide) zw_1249 tyX12 tyX12_ok nmX12 rfl rfl rfl (I2 := (va_up I 128 (va_up (va_up (I 128) 62 v_piled_c3) 83 v_isBlanchedNow))) (J2 := (va_up (va_up (va_up J 128 (va_up (va_up (va_up (va_up (J 128) 63 (v_debt - rc4)) 79 v_farms) 80 v_allowed) 81 (v_pardoned + rc4))) 175 v_pile_c3) 181 v_off)) ((zset12_81 C.X (va_up (va_up (I 128) 62 v_piled_c3) 83 v_isBlanchedNow) (va_up (va_up (va_up (va_up (J 128) 63 (v_debt - rc4)) 79 v_farms) 80 v_allowed) 81 v_pardoned) (v_pardoned + rc4)).trans (congrArg (fun g => zf12 C.X (va_up (va_up (I 128) 62 v_piled_c3) 83 v_isBlanchedNow) g) zn1)) (by rw [zflen12]; decide) (fun j hj => ⟨rfl, zup_cg (zup_cg ((zup_n hj).trans (zup_n hj).symm))⟩) dX12_does_206 ?_
                refine zb_goto E dX12_does_209 (tgt := 303) rfl ?_
                refine zb_iinc E dX12_does_303 5 rfl (v := (x3 + 1)) rfl (by decide) (lv2 := [(3, .int (x3 + 1)), (5, .long rc4), (4, .int ((24 * a1) + x3)), (0, .ref (C.X.1 + 128)), (1, .int a1), (2, .int a2)]) rfl ?_
                refine zb_goto E dX12_does_306 (tgt := 2) rfl ?_
                refine zb_sub [3, 4, 5, 0] rfl ?_
                exact ih (x3 + 1) v_allowed (v_debt - rc4) v_farms v_isBlanchedNow (v_pardoned + rc4) v_piled_c3 v_off v_pile_c3 h
          · have h := if_t h hc
            refine zb_aload_n E dX12_does_113 1 rfl rfl ?_
            refine zb_iload_n E dX12_does_114 2 rfl rfl ?_
            refine zb_iload E dX12_does_115 0 rfl ?_
            obtain ⟨rc5, v_piled_c5, v_pile_c5, hc_117, h⟩ := bd3_s h
            refine zb_cVl E [.int a1, .int ((24 * a1) + x3)] 128 zy_X12_amount zw_1780 (by decide) (zF_128 _ _ _ _) rfl (c_X12_amount (va_up (va_up (I 128) 62 v_piled_c3) 83 v_isBlanchedNow) rfl v_debt rfl v_now (by exact e_v_now) v_paid (by exact e_v_paid) v_shireNow (by exact e_v_shireNow) v_codes (by exact e_v_codes) v_sumEnd (by exact e_v_sumEnd) v_sumFrom (by exact e_v_sumFrom) v_piled_c3 rfl v_pile_c3 rfl hc_117) (by decide) rfl rfl (by first | decide | simp [Value.category]) dX12_does_117 (cs2 := (0, 0)) rfl ?_
            refine zb_S (S2 := ((va_up I 128 (va_up (va_up (I 128) 62 v_piled_c5) 83 v_isBlanchedNow)), (va_up (va_up (va_up J 128 (va_up (va_up (va_up (va_up (J 128) 63 v_debt) 79 v_farms) 80 v_allowed) 81 v_pardoned)) 175 v_pile_c5) 181 v_off), Rr, D)) (zS_eq ((zcgV (zn2 (by decide : (83 : Nat) ≠ 62))).trans zn1) (zn2 (by decide : (181 : Nat) ≠ 175))) ?_
            refine zb_lstore E dX12_does_120 (by decide) (lv2 := [(5, .long rc5), (4, .int ((24 * a1) + x3)), (0, .ref (C.X.1 + 128)), (1, .int a1), (2, .int a2), (3, .int x3)]) rfl ?_
            refine zb_aload_n E dX12_does_122 2 rfl rfl ?_
            refine zb_dup E dX12_does_123 rfl ?_
            refine zb_get E 128 (by decide) (zF_128 C.X) rfl zin12 63 (by decide) zw_1231 (v := .long v_debt) rfl dX12_does_124 ?_
            refine zb_lload E dX12_does_127 0 rfl ?_
            refine zb_lsub E dX12_does_129 ?_
            refine zb_put E 128 (by decide) (zF_128 C.X) rfl zin12 63 (by decide) zw_1231 tyX12 tyX12_ok nmX12 rfl rfl rfl (I2 := (va_up I 128 (va_up (va_up (I 128) 62 v_piled_c5) 83 v_isBlanchedNow))) (J2 := (va_up (va_up (va_up J 128 (va_up (va_up (va_up (va_up (J 128) 63 (v_debt - rc5)) 79 v_farms) 80 v_allowed) 81 v_pardoned)) 175 v_pile_c5) 181 v_off)) ((zset12_63 C.X (va_up (va_up (I 128) 62 v_piled_c5) 83 v_isBlanchedNow) (va_up (va_up (va_up (va_up (J 128) 63 v_debt) 79 v_farms) 80 v_allowed) 81 v_pardoned) (v_debt - rc5)).trans (congrArg (fun g => zf12 C.X (va_up (va_up (I 128) 62 v_piled_c5) 83 v_isBlanchedNow) g) (zn4 (by decide : (81 : Nat) ≠ 63) (by decide : (80 : Nat) ≠ 63) (by decide : (79 : Nat) ≠ 63)))) (by rw [zflen12]; decide) (fun j hj => ⟨rfl, zup_cg (zup_cg ((zup_n hj).trans (zup_n hj).symm))⟩) dX12_does_130 ?_
            refine zb_aload_n E dX12_does_133 2 rfl rfl ?_
            refine zb_dup E dX12_does_134 rfl ?_
            refine zb_get E 128 (by decide) (zF_128 C.X) rfl zin12 80 (by decide) zw_1248 (v := .long v_allowed) rfl dX12_does_135 ?_
            refine zb_lload E dX12_does_138 0 rfl ?_
            refine zb_ladd E dX12_does_140 ?_
            refine zb_put E 128 (by decide) (zF_128 C.X) rfl zin12 80 (by decide) zw_1248 tyX12 tyX12_ok nmX12 rfl rfl rfl (I2 := (va_up I 128 (va_up (va_up (I 128) 62 v_piled_c5) 83 v_isBlanchedNow))) (J2 := (va_up (va_up (va_up J 128 (va_up (va_up (va_up (va_up (J 128) 63 (v_debt - rc5)) 79 v_farms) 80 (v_allowed + rc5)) 81 v_pardoned)) 175 v_pile_c5) 181 v_off)) ((zset12_80 C.X (va_up (va_up (I 128) 62 v_piled_c5) 83 v_isBlanchedNow) (va_up (va_up (va_up (va_up (J 128) 63 (v_debt - rc5)) 79 v_farms) 80 v_allowed) 81 v_pardoned) (v_allowed + rc5)).trans (congrArg (fun g => zf12 C.X (va_up (va_up (I 128) 62 v_piled_c5) 83 v_isBlanchedNow) g) (zn2 (by decide : (81 : Nat) ≠ 80)))) (by rw [zflen12]; decide) (fun j hj => ⟨rfl, zup_cg (zup_cg ((zup_n hj).trans (zup_n hj).symm))⟩) dX12_does_141 ?_
            refine zb_goto E dX12_does_144 (tgt := 303) rfl ?_
            refine zb_iinc E dX12_does_303 5 rfl (v := (x3 + 1)) rfl (by decide) (lv2 := [(3, .int (x3 + 1)), (5, .long rc5), (4, .int ((24 * a1) + x3)), (0, .ref (C.X.1 + 128)), (1, .int a1), (2, .int a2)]) rfl ?_
            refine zb_goto E dX12_does_306 (tgt := 2) rfl ?_
            refine zb_sub [3, 4, 5, 0] rfl ?_
            exact ih (x3 + 1) (v_allowed + rc5) (v_debt - rc5) v_farms v_isBlanchedNow v_pardoned v_piled_c5 v_off v_pile_c5 h
        · have h := if_t h hc
          refine zb_aload_n E dX12_does_48 1 rfl rfl ?_
          refine zb_iload_n E dX12_does_49 2 rfl rfl ?_
          refine zb_iload E dX12_does_50 0 rfl ?_
          obtain ⟨rc6, v_piled_c6, v_pile_c6, hc_52, h⟩ := bd3_s h
          refine zb_cVl E [.int a1, .int ((24 * a1) + x3)] 128 zy_X12_amount zw_1780 (by decide) (zF_128 _ _ _ _) rfl (c_X12_amount (va_up (va_up (I 128) 62 v_piled_c3) 83 v_isBlanchedNow) rfl v_debt rfl v_now (by exact e_v_now) v_paid (by exact e_v_paid) v_shireNow (by exact e_v_shireNow) v_codes (by exact e_v_codes) v_sumEnd (by exact e_v_sumEnd) v_sumFrom (by exact e_v_sumFrom) v_piled_c3 rfl v_pile_c3 rfl hc_52) (by decide) rfl rfl (by first | decide | simp [Value.category]) dX12_does_52 (cs2 := (0, 0)) rfl ?_
          refine zb_S (S2 := ((va_up I 128 (va_up (va_up (I 128) 62 v_piled_c6) 83 v_isBlanchedNow)), (va_up (va_up (va_up J 128 (va_up (va_up (va_up (va_up (J 128) 63 v_debt) 79 v_farms) 80 v_allowed) 81 v_pardoned)) 175 v_pile_c6) 181 v_off), Rr, D)) (zS_eq ((zcgV (zn2 (by decide : (83 : Nat) ≠ 62))).trans zn1) (zn2 (by decide : (181 : Nat) ≠ 175))) ?_
          refine zb_lstore E dX12_does_55 (by decide) (lv2 := [(5, .long rc6), (4, .int ((24 * a1) + x3)), (0, .ref (C.X.1 + 128)), (1, .int a1), (2, .int a2), (3, .int x3)]) rfl ?_
          refine zb_aload_n E dX12_does_57 2 rfl rfl ?_
          refine zb_dup E dX12_does_58 rfl ?_
          refine zb_get E 128 (by decide) (zF_128 C.X) rfl zin12 63 (by decide) zw_1231 (v := .long v_debt) rfl dX12_does_59 ?_
          refine zb_lload E dX12_does_62 0 rfl ?_
          refine zb_ladd E dX12_does_64 ?_
          refine zb_put E 128 (by decide) (zF_128 C.X) rfl zin12 63 (by decide) zw_1231 tyX12 tyX12_ok nmX12 rfl rfl rfl (I2 := (va_up I 128 (va_up (va_up (I 128) 62 v_piled_c6) 83 v_isBlanchedNow))) (J2 := (va_up (va_up (va_up J 128 (va_up (va_up (va_up (va_up (J 128) 63 (v_debt + rc6)) 79 v_farms) 80 v_allowed) 81 v_pardoned)) 175 v_pile_c6) 181 v_off)) ((zset12_63 C.X (va_up (va_up (I 128) 62 v_piled_c6) 83 v_isBlanchedNow) (va_up (va_up (va_up (va_up (J 128) 63 v_debt) 79 v_farms) 80 v_allowed) 81 v_pardoned) (v_debt + rc6)).trans (congrArg (fun g => zf12 C.X (va_up (va_up (I 128) 62 v_piled_c6) 83 v_isBlanchedNow) g) (zn4 (by decide : (81 : Nat) ≠ 63) (by decide : (80 : Nat) ≠ 63) (by decide : (79 : Nat) ≠ 63)))) (by rw [zflen12]; decide) (fun j hj => ⟨rfl, zup_cg (zup_cg ((zup_n hj).trans (zup_n hj).symm))⟩) dX12_does_65 ?_
          refine zb_aload_n E dX12_does_68 2 rfl rfl ?_
          refine zb_dup E dX12_does_69 rfl ?_
          refine zb_get E 128 (by decide) (zF_128 C.X) rfl zin12 79 (by decide) zw_1247 (v := .long v_farms) rfl dX12_does_70 ?_
          refine zb_lload E dX12_does_73 0 rfl ?_
          refine zb_ladd E dX12_does_75 ?_
          refine zb_put E 128 (by decide) (zF_128 C.X) rfl zin12 79 (by decide) zw_1247 tyX12 tyX12_ok nmX12 rfl rfl rfl (I2 := (va_up I 128 (va_up (va_up (I 128) 62 v_piled_c6) 83 v_isBlanchedNow))) (J2 := (va_up (va_up (va_up J 128 (va_up (va_up (va_up (va_up (J 128) 63 (v_debt + rc6)) 79 (v_farms + rc6)) 80 v_allowed) 81 v_pardoned)) 175 v_pile_c6) 181 v_off)) ((zset12_79 C.X (va_up (va_up (I 128) 62 v_piled_c6) 83 v_isBlanchedNow) (va_up (va_up (va_up (va_up (J 128) 63 (v_debt + rc6)) 79 v_farms) 80 v_allowed) 81 v_pardoned) (v_farms + rc6)).trans (congrArg (fun g => zf12 C.X (va_up (va_up (I 128) 62 v_piled_c6) 83 v_isBlanchedNow) g) (zn3 (by decide : (81 : Nat) ≠ 79) (by decide : (80 : Nat) ≠ 79)))) (by rw [zflen12]; decide) (fun j hj => ⟨rfl, zup_cg (zup_cg ((zup_n hj).trans (zup_n hj).symm))⟩) dX12_does_76 ?_
          refine zb_aload_n E dX12_does_79 2 rfl rfl ?_
          refine zb_aload_n E dX12_does_80 2 rfl rfl ?_
          refine zb_get E 128 (by decide) (zF_128 C.X) rfl zin12 83 (by decide) zw_1251 (v := .int v_isBlanchedNow) rfl dX12_does_81 ?_
          refine zb_if_ne E dX12_does_84 (tgt := 97) rfl (fun hc => ?_) (fun hc => ?_)
          · have h := if_f h hc
            refine zb_iconst E dX12_does_97 (v := 1) rfl ?_
            refine zb_goto E dX12_does_98 (tgt := 102) rfl ?_
            refine zb_sub [2, 3, 4, 5] rfl ?_
            exact c_X12_does_b102 N a1 a2 v_now e_v_now v_paid e_v_paid v_shireNow e_v_shireNow v_codes e_v_codes v_first e_v_first v_isBlanched e_v_isBlanched v_many e_v_many v_second e_v_second v_sort e_v_sort v_sumEnd e_v_sumEnd v_sumFrom e_v_sumFrom v_testEnd e_v_testEnd y_v_allowed y_v_debt y_v_farms y_v_isBlanchedNow y_v_pardoned y_v_piled y_v_off y_v_pile E hQ x3 1 v_allowed (v_debt + rc6) (v_farms + rc6) v_isBlanchedNow v_pardoned v_piled_c6 v_off v_pile_c6 self ih h
          · have h := if_t h hc
            refine zb_aload_n E dX12_does_87 2 rfl rfl ?_
            refine zb_get E 128 (by decide) (zF_128 C.X) rfl zin12 49 (by decide) zw_1217 (v := .ref (C.X.1 + 167)) rfl dX12_does_88 ?_
            refine zb_iload E dX12_does_91 1 rfl ?_
            refine zb_zald E 167 (by decide) zF_167 (f := v_isBlanched) (by exact e_v_isBlanched) (ib_in g2) dX12_does_93 ?_
            refine zb_if_eq E dX12_does_94 (tgt := 101) rfl (fun hc => ?_) (fun hc => ?_)
            · have h := if_t h hc
              refine zb_iconst E dX12_does_101 (v := 0) rfl ?_
              refine zb_sub [2, 3, 4, 5] rfl ?_
              exact c_X12_does_b102 N a1 a2 v_now e_v_now v_paid e_v_paid v_shireNow e_v_shireNow v_codes e_v_codes v_first e_v_first v_isBlanched e_v_isBlanched v_many e_v_many v_second e_v_second v_sort e_v_sort v_sumEnd e_v_sumEnd v_sumFrom e_v_sumFrom v_testEnd e_v_testEnd y_v_allowed y_v_debt y_v_farms y_v_isBlanchedNow y_v_pardoned y_v_piled y_v_off y_v_pile E hQ x3 0 v_allowed (v_debt + rc6) (v_farms + rc6) v_isBlanchedNow v_pardoned v_piled_c6 v_off v_pile_c6 self ih h
            · have h := if_f h hc
              refine zb_iconst E dX12_does_97 (v := 1) rfl ?_
              refine zb_goto E dX12_does_98 (tgt := 102) rfl ?_
              refine zb_sub [2, 3, 4, 5] rfl ?_
              exact c_X12_does_b102 N a1 a2 v_now e_v_now v_paid e_v_paid v_shireNow e_v_shireNow v_codes e_v_codes v_first e_v_first v_isBlanched e_v_isBlanched v_many e_v_many v_second e_v_second v_sort e_v_sort v_sumEnd e_v_sumEnd v_sumFrom e_v_sumFrom v_testEnd e_v_testEnd y_v_allowed y_v_debt y_v_farms y_v_isBlanchedNow y_v_pardoned y_v_piled y_v_off y_v_pile E hQ x3 1 v_allowed (v_debt + rc6) (v_farms + rc6) v_isBlanchedNow v_pardoned v_piled_c6 v_off v_pile_c6 self ih h
      · have h := if_t h hc
        refine zb_goto E dX12_does_41 (tgt := 303) rfl ?_
        refine zb_iinc E dX12_does_303 4 rfl (v := (x3 + 1)) rfl (by decide) (lv2 := [(3, .int (x3 + 1)), (4, .int ((24 * a1) + x3)), (0, .ref (C.X.1 + 128)), (1, .int a1), (2, .int a2)]) rfl ?_
        refine zb_goto E dX12_does_306 (tgt := 2) rfl ?_
        refine zb_sub [2, 3, 4, 0] rfl ?_
        exact ih (x3 + 1) v_allowed v_debt v_farms v_isBlanchedNow v_pardoned v_piled_c3 v_off v_pile_c3 h
theorem c_X12_does_0 {C : zC} {I : Nat → Nat → Int32} {J : Nat → Nat → Int64} {Rr : Nat → Nat → Option Nat} {D : zD} (N : Nat) (a1 : Int32) (a2 : Int32) (v_now : Int32) (e_v_now : I 128 65 = v_now) (v_paid : Int64) (e_v_paid : J 128 64 = v_paid) (v_shireNow : Int32) (e_v_shireNow : I 128 66 = v_shireNow) (v_codes : (Nat → Int32)) (e_v_codes : I 173 = v_codes) (v_first : (Nat → Int32)) (e_v_first : I 168 = v_first) (v_isBlanched : (Nat → Int32)) (e_v_isBlanched : I 167 = v_isBlanched) (v_many : (Nat → Int32)) (e_v_many : I 165 = v_many) (v_second : (Nat → Int32)) (e_v_second : I 169 = v_second) (v_sort : (Nat → Int32)) (e_v_sort : I 166 = v_sort) (v_sumEnd : (Nat → Int32)) (e_v_sumEnd : I 171 = v_sumEnd) (v_sumFrom : (Nat → Int32)) (e_v_sumFrom : I 170 = v_sumFrom) (v_testEnd : (Nat → Int32)) (e_v_testEnd : I 172 = v_testEnd) (y_v_allowed : Int64) (y_v_debt : Int64) (y_v_farms : Int64) (y_v_isBlanchedNow : Int32) (y_v_pardoned : Int64) (y_v_piled : Int32) (y_v_off : (Nat → Int64)) (y_v_pile : (Nat → Int64)) (E : zE C RX12 cX12_does 8 none ({ frames := 4, cells := 0, slots := 0, locals := 99 } : Room)) (hQ : C.Q = zQv C ({ frames := 4, cells := 0, slots := 0, locals := 99 } : Room) ((va_up I 128 (va_up (va_up (I 128) 62 y_v_piled) 83 y_v_isBlanchedNow)), (va_up (va_up (va_up J 128 (va_up (va_up (va_up (va_up (J 128) 63 y_v_debt) 79 y_v_farms) 80 y_v_allowed) 81 y_v_pardoned)) 175 y_v_pile) 181 y_v_off), Rr, D)) (v_allowed : Int64) (v_debt : Int64) (v_farms : Int64) (v_isBlanchedNow : Int32) (v_pardoned : Int64) (v_piled : Int32) (v_off : (Nat → Int64)) (v_pile : (Nat → Int64)) (h : pM_does N a1 a2 v_allowed v_debt v_farms v_isBlanchedNow v_now v_paid v_pardoned v_piled v_shireNow v_codes v_first v_isBlanched v_many v_off v_pile v_second v_sort v_sumEnd v_sumFrom v_testEnd = some (y_v_allowed, y_v_debt, y_v_farms, y_v_isBlanchedNow, y_v_pardoned, y_v_piled, y_v_off, y_v_pile)) : zB C (0, 0) 0 [(0, .ref (C.X.1 + 128)), (1, .int a1), (2, .int a2)] [] ((va_up I 128 (va_up (va_up (I 128) 62 v_piled) 83 v_isBlanchedNow)), (va_up (va_up (va_up J 128 (va_up (va_up (va_up (va_up (J 128) 63 v_debt) 79 v_farms) 80 v_allowed) 81 v_pardoned)) 175 v_pile) 181 v_off), Rr, D) := by
  refine zb_iconst E dX12_does_0 (v := 0) rfl ?_
  refine zb_istore_n E dX12_does_1 rfl (by decide) (lv2 := [(3, .int 0), (0, .ref (C.X.1 + 128)), (1, .int a1), (2, .int a2)]) rfl ?_
  refine zb_sub [1, 2, 3, 0] rfl ?_
  exact c_X12_does_b2 N a1 a2 v_now e_v_now v_paid e_v_paid v_shireNow e_v_shireNow v_codes e_v_codes v_first e_v_first v_isBlanched e_v_isBlanched v_many e_v_many v_second e_v_second v_sort e_v_sort v_sumEnd e_v_sumEnd v_sumFrom e_v_sumFrom v_testEnd e_v_testEnd y_v_allowed y_v_debt y_v_farms y_v_isBlanchedNow y_v_pardoned y_v_piled y_v_off y_v_pile E hQ _ 0 v_allowed v_debt v_farms v_isBlanchedNow v_pardoned v_piled v_off v_pile h
theorem c_X12_does {l : Launch} {X : zX} {I : Nat → Nat → Int32} {J : Nat → Nat → Int64} {Rr : Nat → Nat → Option Nat} {D : zD} {N : Nat} {a1 : Int32} {a2 : Int32} (oI128 : Nat → Int32) (eoI128 : I 128 = oI128) (oJ128 : Nat → Int64) (eoJ128 : J 128 = oJ128) (v_now : Int32) (e_v_now : I 128 65 = v_now) (v_paid : Int64) (e_v_paid : J 128 64 = v_paid) (v_shireNow : Int32) (e_v_shireNow : I 128 66 = v_shireNow) (v_codes : (Nat → Int32)) (e_v_codes : I 173 = v_codes) (v_first : (Nat → Int32)) (e_v_first : I 168 = v_first) (v_isBlanched : (Nat → Int32)) (e_v_isBlanched : I 167 = v_isBlanched) (v_many : (Nat → Int32)) (e_v_many : I 165 = v_many) (v_second : (Nat → Int32)) (e_v_second : I 169 = v_second) (v_sort : (Nat → Int32)) (e_v_sort : I 166 = v_sort) (v_sumEnd : (Nat → Int32)) (e_v_sumEnd : I 171 = v_sumEnd) (v_sumFrom : (Nat → Int32)) (e_v_sumFrom : I 170 = v_sumFrom) (v_testEnd : (Nat → Int32)) (e_v_testEnd : I 172 = v_testEnd) (v_allowed : Int64) (e_v_allowed : J 128 80 = v_allowed) (v_debt : Int64) (e_v_debt : J 128 63 = v_debt) (v_farms : Int64) (e_v_farms : J 128 79 = v_farms) (v_isBlanchedNow : Int32) (e_v_isBlanchedNow : I 128 83 = v_isBlanchedNow) (v_pardoned : Int64) (e_v_pardoned : J 128 81 = v_pardoned) (v_piled : Int32) (e_v_piled : I 128 62 = v_piled) (v_off : (Nat → Int64)) (e_v_off : J 181 = v_off) (v_pile : (Nat → Int64)) (e_v_pile : J 175 = v_pile) {y_v_allowed : Int64} {y_v_debt : Int64} {y_v_farms : Int64} {y_v_isBlanchedNow : Int32} {y_v_pardoned : Int64} {y_v_piled : Int32} {y_v_off : (Nat → Int64)} {y_v_pile : (Nat → Int64)} (h : pM_does N a1 a2 v_allowed v_debt v_farms v_isBlanchedNow v_now v_paid v_pardoned v_piled v_shireNow v_codes v_first v_isBlanched v_many v_off v_pile v_second v_sort v_sumEnd v_sumFrom v_testEnd = some (y_v_allowed, y_v_debt, y_v_farms, y_v_isBlanchedNow, y_v_pardoned, y_v_piled, y_v_off, y_v_pile)) : zMv l yX12_does cX12_does 8 none ({ frames := 4, cells := 0, slots := 0, locals := 99 } : Room) X [.ref (X.1 + 128), .int a1, .int a2] (I, J, Rr, D) ((va_up I 128 (va_up (va_up oI128 62 y_v_piled) 83 y_v_isBlanchedNow)), (va_up (va_up (va_up J 128 (va_up (va_up (va_up (va_up oJ128 63 y_v_debt) 79 y_v_farms) 80 y_v_allowed) 81 y_v_pardoned)) 175 y_v_pile) 181 y_v_off), Rr, D) := by
  subst eoI128
  subst eoJ128
  refine zMv.of (by decide) (Nat.le_of_ble_eq_true rfl) (fun C E hl hX hQ => ?_)
  subst hl
  subst hX
  have eI0 : (va_up I 128 (va_up (va_up (I 128) 62 v_piled) 83 v_isBlanchedNow)) = I := by rw [zup_idE e_v_piled, zup_idE e_v_isBlanchedNow, zup_id]
  have eJ0 : (va_up (va_up (va_up J 128 (va_up (va_up (va_up (va_up (J 128) 63 v_debt) 79 v_farms) 80 v_allowed) 81 v_pardoned)) 175 v_pile) 181 v_off) = J := by rw [zup_idE e_v_debt, zup_idE e_v_farms, zup_idE e_v_allowed, zup_idE e_v_pardoned, zup_id, zup_idE e_v_pile, zup_idE e_v_off]
  refine zb_S (S2 := ((va_up I 128 (va_up (va_up (I 128) 62 v_piled) 83 v_isBlanchedNow)), (va_up (va_up (va_up J 128 (va_up (va_up (va_up (va_up (J 128) 63 v_debt) 79 v_farms) 80 v_allowed) 81 v_pardoned)) 175 v_pile) 181 v_off), Rr, D)) (zS_eq eI0.symm eJ0.symm) ?_
  exact c_X12_does_0 N a1 a2 v_now e_v_now v_paid e_v_paid v_shireNow e_v_shireNow v_codes e_v_codes v_first e_v_first v_isBlanched e_v_isBlanched v_many e_v_many v_second e_v_second v_sort e_v_sort v_sumEnd e_v_sumEnd v_sumFrom e_v_sumFrom v_testEnd e_v_testEnd y_v_allowed y_v_debt y_v_farms y_v_isBlanchedNow y_v_pardoned y_v_piled y_v_off y_v_pile E hQ v_allowed v_debt v_farms v_isBlanchedNow v_pardoned v_piled v_off v_pile h
