set_option maxHeartbeats 4000000
set_option maxRecDepth 100000
-- ChequeredCloth$Reader.readBoth
theorem dX7_readBoth_0 : decode cX7_readBoth 0 = .ok (.aload_n 0, 1) := by decide +kernel
theorem dX7_readBoth_1 : decode cX7_readBoth 1 = .ok (.invokevirtual 142, 3) := by decide +kernel
theorem dX7_readBoth_4 : decode cX7_readBoth 4 = .ok (.istore_n 1, 1) := by decide +kernel
theorem dX7_readBoth_5 : decode cX7_readBoth 5 = .ok (.iconst 0, 1) := by decide +kernel
theorem dX7_readBoth_6 : decode cX7_readBoth 6 = .ok (.istore_n 2, 1) := by decide +kernel
theorem dX7_readBoth_7 : decode cX7_readBoth 7 = .ok (.iload_n 2, 1) := by decide +kernel
theorem dX7_readBoth_8 : decode cX7_readBoth 8 = .ok (.sipush 600, 3) := by decide +kernel
theorem dX7_readBoth_11 : decode cX7_readBoth 11 = .ok (.if_icmp .ge 44, 3) := by decide +kernel
theorem dX7_readBoth_14 : decode cX7_readBoth 14 = .ok (.iload_n 1, 1) := by decide +kernel
theorem dX7_readBoth_15 : decode cX7_readBoth 15 = .ok (.ifCond .eq 40, 3) := by decide +kernel
theorem dX7_readBoth_18 : decode cX7_readBoth 18 = .ok (.aload_n 0, 1) := by decide +kernel
theorem dX7_readBoth_19 : decode cX7_readBoth 19 = .ok (.ldc 145, 2) := by decide +kernel
theorem dX7_readBoth_21 : decode cX7_readBoth 21 = .ok (.invokevirtual 101, 3) := by decide +kernel
theorem dX7_readBoth_24 : decode cX7_readBoth 24 = .ok (.ifCond .eq 31, 3) := by decide +kernel
theorem dX7_readBoth_27 : decode cX7_readBoth 27 = .ok (.aload_n 0, 1) := by decide +kernel
theorem dX7_readBoth_28 : decode cX7_readBoth 28 = .ok (.invokevirtual 142, 3) := by decide +kernel
theorem dX7_readBoth_31 : decode cX7_readBoth 31 = .ok (.ifCond .eq 16, 3) := by decide +kernel
theorem dX7_readBoth_34 : decode cX7_readBoth 34 = .ok (.aload_n 0, 1) := by decide +kernel
theorem dX7_readBoth_35 : decode cX7_readBoth 35 = .ok (.bipush (-16), 2) := by decide +kernel
theorem dX7_readBoth_37 : decode cX7_readBoth 37 = .ok (.invokevirtual 138, 3) := by decide +kernel
theorem dX7_readBoth_40 : decode cX7_readBoth 40 = .ok (.ifCond .eq 7, 3) := by decide +kernel
theorem dX7_readBoth_43 : decode cX7_readBoth 43 = .ok (.iconst 1, 1) := by decide +kernel
theorem dX7_readBoth_44 : decode cX7_readBoth 44 = .ok (.goto 4, 3) := by decide +kernel
theorem dX7_readBoth_47 : decode cX7_readBoth 47 = .ok (.iconst 0, 1) := by decide +kernel
theorem dX7_readBoth_48 : decode cX7_readBoth 48 = .ok (.istore_n 1, 1) := by decide +kernel
theorem dX7_readBoth_49 : decode cX7_readBoth 49 = .ok (.iinc 2 1, 3) := by decide +kernel
theorem dX7_readBoth_52 : decode cX7_readBoth 52 = .ok (.goto (-45), 3) := by decide +kernel
theorem dX7_readBoth_55 : decode cX7_readBoth 55 = .ok (.iload_n 1, 1) := by decide +kernel
theorem dX7_readBoth_56 : decode cX7_readBoth 56 = .ok (.ireturn, 1) := by decide +kernel
theorem dX7_readFact_0 : decode cX7_readFact 0 = .ok (.aload_n 0, 1) := by decide +kernel
theorem dX7_readFact_1 : decode cX7_readFact 1 = .ok (.getfield 57, 3) := by decide +kernel
theorem dX7_readFact_4 : decode cX7_readFact 4 = .ok (.istore_n 1, 1) := by decide +kernel
theorem dX7_readFact_5 : decode cX7_readFact 5 = .ok (.aload_n 0, 1) := by decide +kernel
theorem dX7_readFact_6 : decode cX7_readFact 6 = .ok (.ldc 147, 2) := by decide +kernel
theorem dX7_readFact_8 : decode cX7_readFact 8 = .ok (.invokevirtual 101, 3) := by decide +kernel
theorem dX7_readFact_11 : decode cX7_readFact 11 = .ok (.ifCond .eq 40, 3) := by decide +kernel
theorem dX7_readFact_14 : decode cX7_readFact 14 = .ok (.aload_n 0, 1) := by decide +kernel
theorem dX7_readFact_15 : decode cX7_readFact 15 = .ok (.iload_n 1, 1) := by decide +kernel
theorem dX7_readFact_16 : decode cX7_readFact 16 = .ok (.invokevirtual 149, 3) := by decide +kernel
theorem dX7_readFact_19 : decode cX7_readFact 19 = .ok (.ifCond .eq 30, 3) := by decide +kernel
theorem dX7_readFact_22 : decode cX7_readFact 22 = .ok (.aload_n 0, 1) := by decide +kernel
theorem dX7_readFact_23 : decode cX7_readFact 23 = .ok (.invokevirtual 142, 3) := by decide +kernel
theorem dX7_readFact_26 : decode cX7_readFact 26 = .ok (.ifCond .eq 23, 3) := by decide +kernel
theorem dX7_readFact_29 : decode cX7_readFact 29 = .ok (.aload_n 0, 1) := by decide +kernel
theorem dX7_readFact_30 : decode cX7_readFact 30 = .ok (.bipush (-5), 2) := by decide +kernel
theorem dX7_readFact_32 : decode cX7_readFact 32 = .ok (.invokevirtual 138, 3) := by decide +kernel
theorem dX7_readFact_35 : decode cX7_readFact 35 = .ok (.ifCond .eq 14, 3) := by decide +kernel
theorem dX7_readFact_38 : decode cX7_readFact 38 = .ok (.aload_n 0, 1) := by decide +kernel
theorem dX7_readFact_39 : decode cX7_readFact 39 = .ok (.invokevirtual 152, 3) := by decide +kernel
theorem dX7_readFact_42 : decode cX7_readFact 42 = .ok (.ifCond .eq 7, 3) := by decide +kernel
theorem dX7_readFact_45 : decode cX7_readFact 45 = .ok (.iconst 1, 1) := by decide +kernel
theorem dX7_readFact_46 : decode cX7_readFact 46 = .ok (.goto 4, 3) := by decide +kernel
theorem dX7_readFact_49 : decode cX7_readFact 49 = .ok (.iconst 0, 1) := by decide +kernel
theorem dX7_readFact_50 : decode cX7_readFact 50 = .ok (.ireturn, 1) := by decide +kernel
theorem dX7_readFact_51 : decode cX7_readFact 51 = .ok (.aload_n 0, 1) := by decide +kernel
theorem dX7_readFact_52 : decode cX7_readFact 52 = .ok (.bipush 91, 2) := by decide +kernel
theorem dX7_readFact_54 : decode cX7_readFact 54 = .ok (.invokevirtual 155, 3) := by decide +kernel
theorem dX7_readFact_57 : decode cX7_readFact 57 = .ok (.ifCond .eq 40, 3) := by decide +kernel
theorem dX7_readFact_60 : decode cX7_readFact 60 = .ok (.aload_n 0, 1) := by decide +kernel
theorem dX7_readFact_61 : decode cX7_readFact 61 = .ok (.iload_n 1, 1) := by decide +kernel
theorem dX7_readFact_62 : decode cX7_readFact 62 = .ok (.invokevirtual 149, 3) := by decide +kernel
theorem dX7_readFact_65 : decode cX7_readFact 65 = .ok (.ifCond .eq 30, 3) := by decide +kernel
theorem dX7_readFact_68 : decode cX7_readFact 68 = .ok (.aload_n 0, 1) := by decide +kernel
theorem dX7_readFact_69 : decode cX7_readFact 69 = .ok (.invokevirtual 89, 3) := by decide +kernel
theorem dX7_readFact_72 : decode cX7_readFact 72 = .ok (.ifCond .eq 23, 3) := by decide +kernel
theorem dX7_readFact_75 : decode cX7_readFact 75 = .ok (.aload_n 0, 1) := by decide +kernel
theorem dX7_readFact_76 : decode cX7_readFact 76 = .ok (.bipush 93, 2) := by decide +kernel
theorem dX7_readFact_78 : decode cX7_readFact 78 = .ok (.invokevirtual 95, 3) := by decide +kernel
theorem dX7_readFact_81 : decode cX7_readFact 81 = .ok (.ifCond .eq 14, 3) := by decide +kernel
theorem dX7_readFact_84 : decode cX7_readFact 84 = .ok (.aload_n 0, 1) := by decide +kernel
theorem dX7_readFact_85 : decode cX7_readFact 85 = .ok (.invokevirtual 152, 3) := by decide +kernel
theorem dX7_readFact_88 : decode cX7_readFact 88 = .ok (.ifCond .eq 7, 3) := by decide +kernel
theorem dX7_readFact_91 : decode cX7_readFact 91 = .ok (.iconst 1, 1) := by decide +kernel
theorem dX7_readFact_92 : decode cX7_readFact 92 = .ok (.goto 4, 3) := by decide +kernel
theorem dX7_readFact_95 : decode cX7_readFact 95 = .ok (.iconst 0, 1) := by decide +kernel
theorem dX7_readFact_96 : decode cX7_readFact 96 = .ok (.ireturn, 1) := by decide +kernel
theorem dX7_readFact_97 : decode cX7_readFact 97 = .ok (.aload_n 0, 1) := by decide +kernel
theorem dX7_readFact_98 : decode cX7_readFact 98 = .ok (.ldc 158, 2) := by decide +kernel
theorem dX7_readFact_100 : decode cX7_readFact 100 = .ok (.invokevirtual 101, 3) := by decide +kernel
theorem dX7_readFact_103 : decode cX7_readFact 103 = .ok (.ifCond .eq 9, 3) := by decide +kernel
theorem dX7_readFact_106 : decode cX7_readFact 106 = .ok (.aload_n 0, 1) := by decide +kernel
theorem dX7_readFact_107 : decode cX7_readFact 107 = .ok (.iconst 1, 1) := by decide +kernel
theorem dX7_readFact_108 : decode cX7_readFact 108 = .ok (.invokevirtual 138, 3) := by decide +kernel
theorem dX7_readFact_111 : decode cX7_readFact 111 = .ok (.ireturn, 1) := by decide +kernel
theorem dX7_readFact_112 : decode cX7_readFact 112 = .ok (.aload_n 0, 1) := by decide +kernel
theorem dX7_readFact_113 : decode cX7_readFact 113 = .ok (.ldc 160, 2) := by decide +kernel
theorem dX7_readFact_115 : decode cX7_readFact 115 = .ok (.invokevirtual 101, 3) := by decide +kernel
theorem dX7_readFact_118 : decode cX7_readFact 118 = .ok (.ifCond .eq 39, 3) := by decide +kernel
theorem dX7_readFact_121 : decode cX7_readFact 121 = .ok (.aload_n 0, 1) := by decide +kernel
theorem dX7_readFact_122 : decode cX7_readFact 122 = .ok (.iconst 0, 1) := by decide +kernel
theorem dX7_readFact_123 : decode cX7_readFact 123 = .ok (.bipush 7, 2) := by decide +kernel
theorem dX7_readFact_125 : decode cX7_readFact 125 = .ok (.invokevirtual 117, 3) := by decide +kernel
theorem dX7_readFact_128 : decode cX7_readFact 128 = .ok (.istore_n 2, 1) := by decide +kernel
theorem dX7_readFact_129 : decode cX7_readFact 129 = .ok (.iload_n 2, 1) := by decide +kernel
theorem dX7_readFact_130 : decode cX7_readFact 130 = .ok (.iconst (-1), 1) := by decide +kernel
theorem dX7_readFact_131 : decode cX7_readFact 131 = .ok (.if_icmp .eq 24, 3) := by decide +kernel
theorem dX7_readFact_134 : decode cX7_readFact 134 = .ok (.aload_n 0, 1) := by decide +kernel
theorem dX7_readFact_135 : decode cX7_readFact 135 = .ok (.iload_n 2, 1) := by decide +kernel
theorem dX7_readFact_136 : decode cX7_readFact 136 = .ok (.invokevirtual 138, 3) := by decide +kernel
theorem dX7_readFact_139 : decode cX7_readFact 139 = .ok (.ifCond .eq 16, 3) := by decide +kernel
theorem dX7_readFact_142 : decode cX7_readFact 142 = .ok (.aload_n 0, 1) := by decide +kernel
theorem dX7_readFact_143 : decode cX7_readFact 143 = .ok (.bipush (-6), 2) := by decide +kernel
theorem dX7_readFact_145 : decode cX7_readFact 145 = .ok (.invokevirtual 138, 3) := by decide +kernel
theorem dX7_readFact_148 : decode cX7_readFact 148 = .ok (.ifCond .eq 7, 3) := by decide +kernel
theorem dX7_readFact_151 : decode cX7_readFact 151 = .ok (.iconst 1, 1) := by decide +kernel
theorem dX7_readFact_152 : decode cX7_readFact 152 = .ok (.goto 4, 3) := by decide +kernel
theorem dX7_readFact_155 : decode cX7_readFact 155 = .ok (.iconst 0, 1) := by decide +kernel
theorem dX7_readFact_156 : decode cX7_readFact 156 = .ok (.ireturn, 1) := by decide +kernel
theorem dX7_readFact_157 : decode cX7_readFact 157 = .ok (.aload_n 0, 1) := by decide +kernel
theorem dX7_readFact_158 : decode cX7_readFact 158 = .ok (.invokevirtual 105, 3) := by decide +kernel
theorem dX7_readFact_161 : decode cX7_readFact 161 = .ok (.ifCond .ne 5, 3) := by decide +kernel
theorem dX7_readFact_164 : decode cX7_readFact 164 = .ok (.iconst 0, 1) := by decide +kernel
theorem dX7_readFact_165 : decode cX7_readFact 165 = .ok (.ireturn, 1) := by decide +kernel
theorem dX7_readFact_166 : decode cX7_readFact 166 = .ok (.aload_n 0, 1) := by decide +kernel
theorem dX7_readFact_167 : decode cX7_readFact 167 = .ok (.bipush 60, 2) := by decide +kernel
theorem dX7_readFact_169 : decode cX7_readFact 169 = .ok (.invokevirtual 155, 3) := by decide +kernel
theorem dX7_readFact_172 : decode cX7_readFact 172 = .ok (.ifCond .eq 8, 3) := by decide +kernel
theorem dX7_readFact_175 : decode cX7_readFact 175 = .ok (.bipush (-13), 2) := by decide +kernel
theorem dX7_readFact_177 : decode cX7_readFact 177 = .ok (.goto 32, 3) := by decide +kernel
theorem dX7_readFact_180 : decode cX7_readFact 180 = .ok (.aload_n 0, 1) := by decide +kernel
theorem dX7_readFact_181 : decode cX7_readFact 181 = .ok (.bipush 62, 2) := by decide +kernel
theorem dX7_readFact_183 : decode cX7_readFact 183 = .ok (.invokevirtual 155, 3) := by decide +kernel
theorem dX7_readFact_186 : decode cX7_readFact 186 = .ok (.ifCond .eq 8, 3) := by decide +kernel
theorem dX7_readFact_189 : decode cX7_readFact 189 = .ok (.bipush (-14), 2) := by decide +kernel
theorem dX7_readFact_191 : decode cX7_readFact 191 = .ok (.goto 18, 3) := by decide +kernel
theorem dX7_readFact_194 : decode cX7_readFact 194 = .ok (.aload_n 0, 1) := by decide +kernel
theorem dX7_readFact_195 : decode cX7_readFact 195 = .ok (.bipush 61, 2) := by decide +kernel
theorem dX7_readFact_197 : decode cX7_readFact 197 = .ok (.invokevirtual 155, 3) := by decide +kernel
theorem dX7_readFact_200 : decode cX7_readFact 200 = .ok (.ifCond .eq 8, 3) := by decide +kernel
theorem dX7_readFact_203 : decode cX7_readFact 203 = .ok (.bipush (-15), 2) := by decide +kernel
theorem dX7_readFact_205 : decode cX7_readFact 205 = .ok (.goto 4, 3) := by decide +kernel
theorem dX7_readFact_208 : decode cX7_readFact 208 = .ok (.iconst 0, 1) := by decide +kernel
theorem dX7_readFact_209 : decode cX7_readFact 209 = .ok (.istore_n 2, 1) := by decide +kernel
theorem dX7_readFact_210 : decode cX7_readFact 210 = .ok (.iload_n 2, 1) := by decide +kernel
theorem dX7_readFact_211 : decode cX7_readFact 211 = .ok (.ifCond .ne 15, 3) := by decide +kernel
theorem dX7_readFact_214 : decode cX7_readFact 214 = .ok (.aload_n 0, 1) := by decide +kernel
theorem dX7_readFact_215 : decode cX7_readFact 215 = .ok (.iconst 1, 1) := by decide +kernel
theorem dX7_readFact_216 : decode cX7_readFact 216 = .ok (.aload_n 0, 1) := by decide +kernel
theorem dX7_readFact_217 : decode cX7_readFact 217 = .ok (.getfield 57, 3) := by decide +kernel
theorem dX7_readFact_220 : decode cX7_readFact 220 = .ok (.invokevirtual 60, 3) := by decide +kernel
theorem dX7_readFact_223 : decode cX7_readFact 223 = .ok (.goto 23, 3) := by decide +kernel
theorem dX7_readFact_226 : decode cX7_readFact 226 = .ok (.aload_n 0, 1) := by decide +kernel
theorem dX7_readFact_227 : decode cX7_readFact 227 = .ok (.invokevirtual 105, 3) := by decide +kernel
theorem dX7_readFact_230 : decode cX7_readFact 230 = .ok (.ifCond .eq 15, 3) := by decide +kernel
theorem dX7_readFact_233 : decode cX7_readFact 233 = .ok (.aload_n 0, 1) := by decide +kernel
theorem dX7_readFact_234 : decode cX7_readFact 234 = .ok (.iload_n 2, 1) := by decide +kernel
theorem dX7_readFact_235 : decode cX7_readFact 235 = .ok (.invokevirtual 138, 3) := by decide +kernel
theorem dX7_readFact_238 : decode cX7_readFact 238 = .ok (.ifCond .eq 7, 3) := by decide +kernel
theorem dX7_readFact_241 : decode cX7_readFact 241 = .ok (.iconst 1, 1) := by decide +kernel
theorem dX7_readFact_242 : decode cX7_readFact 242 = .ok (.goto 4, 3) := by decide +kernel
theorem dX7_readFact_245 : decode cX7_readFact 245 = .ok (.iconst 0, 1) := by decide +kernel
theorem dX7_readFact_246 : decode cX7_readFact 246 = .ok (.ireturn, 1) := by decide +kernel
theorem dX7_readTest_0 : decode cX7_readTest 0 = .ok (.aload_n 0, 1) := by decide +kernel
theorem dX7_readTest_1 : decode cX7_readTest 1 = .ok (.invokevirtual 131, 3) := by decide +kernel
theorem dX7_readTest_4 : decode cX7_readTest 4 = .ok (.istore_n 1, 1) := by decide +kernel
theorem dX7_readTest_5 : decode cX7_readTest 5 = .ok (.iconst 0, 1) := by decide +kernel
theorem dX7_readTest_6 : decode cX7_readTest 6 = .ok (.istore_n 2, 1) := by decide +kernel
theorem dX7_readTest_7 : decode cX7_readTest 7 = .ok (.iload_n 2, 1) := by decide +kernel
theorem dX7_readTest_8 : decode cX7_readTest 8 = .ok (.sipush 600, 3) := by decide +kernel
theorem dX7_readTest_11 : decode cX7_readTest 11 = .ok (.if_icmp .ge 44, 3) := by decide +kernel
theorem dX7_readTest_14 : decode cX7_readTest 14 = .ok (.iload_n 1, 1) := by decide +kernel
theorem dX7_readTest_15 : decode cX7_readTest 15 = .ok (.ifCond .eq 40, 3) := by decide +kernel
theorem dX7_readTest_18 : decode cX7_readTest 18 = .ok (.aload_n 0, 1) := by decide +kernel
theorem dX7_readTest_19 : decode cX7_readTest 19 = .ok (.ldc 134, 2) := by decide +kernel
theorem dX7_readTest_21 : decode cX7_readTest 21 = .ok (.invokevirtual 101, 3) := by decide +kernel
theorem dX7_readTest_24 : decode cX7_readTest 24 = .ok (.ifCond .eq 31, 3) := by decide +kernel
theorem dX7_readTest_27 : decode cX7_readTest 27 = .ok (.aload_n 0, 1) := by decide +kernel
theorem dX7_readTest_28 : decode cX7_readTest 28 = .ok (.invokevirtual 131, 3) := by decide +kernel
theorem dX7_readTest_31 : decode cX7_readTest 31 = .ok (.ifCond .eq 16, 3) := by decide +kernel
theorem dX7_readTest_34 : decode cX7_readTest 34 = .ok (.aload_n 0, 1) := by decide +kernel
theorem dX7_readTest_35 : decode cX7_readTest 35 = .ok (.bipush (-17), 2) := by decide +kernel
theorem dX7_readTest_37 : decode cX7_readTest 37 = .ok (.invokevirtual 138, 3) := by decide +kernel
theorem dX7_readTest_40 : decode cX7_readTest 40 = .ok (.ifCond .eq 7, 3) := by decide +kernel
theorem dX7_readTest_43 : decode cX7_readTest 43 = .ok (.iconst 1, 1) := by decide +kernel
theorem dX7_readTest_44 : decode cX7_readTest 44 = .ok (.goto 4, 3) := by decide +kernel
theorem dX7_readTest_47 : decode cX7_readTest 47 = .ok (.iconst 0, 1) := by decide +kernel
theorem dX7_readTest_48 : decode cX7_readTest 48 = .ok (.istore_n 1, 1) := by decide +kernel
theorem dX7_readTest_49 : decode cX7_readTest 49 = .ok (.iinc 2 1, 3) := by decide +kernel
theorem dX7_readTest_52 : decode cX7_readTest 52 = .ok (.goto (-45), 3) := by decide +kernel
theorem dX7_readTest_55 : decode cX7_readTest 55 = .ok (.iload_n 1, 1) := by decide +kernel
theorem dX7_readTest_56 : decode cX7_readTest 56 = .ok (.ireturn, 1) := by decide +kernel
theorem zy_X7_readBoth : zYv yX7_readBoth cX7_readBoth 3 (some .boolean) 0 := ⟨zw_813, zws_29, zw_6, zw_814, by decide, by decide, by decide⟩
theorem zy_X7_readFact : zYv yX7_readFact cX7_readFact 3 (some .boolean) 0 := ⟨zw_817, zws_30, zw_6, zw_818, by decide, by decide, by decide⟩
theorem zy_X7_readTest : zYv yX7_readTest cX7_readTest 3 (some .boolean) 0 := ⟨zw_809, zws_28, zw_6, zw_810, by decide, by decide, by decide⟩
def pG_readBoth_readFact_readTest_0 (v_length : Int32) (v_tape : (Nat → Int32)) (rec : Nat → Int32 → Int32 → Int32 → Int32 → Int32 → Int32 → Int32 → (Nat → Int32) → Option R_pReader_readBoth) (rm : Room) : Prop := ∀ {l : Launch} {X : zX} {I : Nat → Nat → Int32} {J : Nat → Nat → Int64} {Rr : Nat → Nat → Option Nat} {D : zD} (oI33 : Nat → Int32) (eoI33 : I 33 = oI33) (e_v_length : I 33 3 = v_length) (e_v_tape : I 34 = v_tape) (v_at : Int32) (e_v_at : I 33 7 = v_at) (v_fault : Int32) (e_v_fault : I 33 10 = v_fault) (v_faultAt : Int32) (e_v_faultAt : I 33 11 = v_faultAt) (v_kind : Int32) (e_v_kind : I 33 6 = v_kind) (v_open : Int32) (e_v_open : I 33 9 = v_open) (v_size : Int32) (e_v_size : I 33 4 = v_size) (v_stop : Int32) (e_v_stop : I 33 8 = v_stop) (v_code : (Nat → Int32)) (e_v_code : I 35 = v_code) {rr : Int32} {y_v_at : Int32} {y_v_fault : Int32} {y_v_faultAt : Int32} {y_v_kind : Int32} {y_v_open : Int32} {y_v_size : Int32} {y_v_stop : Int32} {y_v_code : (Nat → Int32)}, rec 0 v_at v_fault v_faultAt v_kind v_open v_size v_stop v_code = some (rr, y_v_at, y_v_fault, y_v_faultAt, y_v_kind, y_v_open, y_v_size, y_v_stop, y_v_code) → zMi l yX7_readBoth cX7_readBoth 3 (some .boolean) rm X [.ref (X.1 + 33)] (I, J, Rr, D) rr ((va_up (va_up I 33 (va_up (va_up (va_up (va_up (va_up (va_up (va_up oI33 4 y_v_size) 6 y_v_kind) 7 y_v_at) 8 y_v_stop) 9 y_v_open) 10 y_v_fault) 11 y_v_faultAt)) 35 y_v_code), J, Rr, D)
def pG_readBoth_readFact_readTest_1 (v_length : Int32) (v_tape : (Nat → Int32)) (rec : Nat → Int32 → Int32 → Int32 → Int32 → Int32 → Int32 → Int32 → (Nat → Int32) → Option R_pReader_readFact) (rm : Room) : Prop := ∀ {l : Launch} {X : zX} {I : Nat → Nat → Int32} {J : Nat → Nat → Int64} {Rr : Nat → Nat → Option Nat} {D : zD} (oI33 : Nat → Int32) (eoI33 : I 33 = oI33) (e_v_length : I 33 3 = v_length) (e_v_tape : I 34 = v_tape) (v_at : Int32) (e_v_at : I 33 7 = v_at) (v_fault : Int32) (e_v_fault : I 33 10 = v_fault) (v_faultAt : Int32) (e_v_faultAt : I 33 11 = v_faultAt) (v_kind : Int32) (e_v_kind : I 33 6 = v_kind) (v_open : Int32) (e_v_open : I 33 9 = v_open) (v_size : Int32) (e_v_size : I 33 4 = v_size) (v_stop : Int32) (e_v_stop : I 33 8 = v_stop) (v_code : (Nat → Int32)) (e_v_code : I 35 = v_code) {rr : Int32} {y_v_at : Int32} {y_v_fault : Int32} {y_v_faultAt : Int32} {y_v_kind : Int32} {y_v_open : Int32} {y_v_size : Int32} {y_v_stop : Int32} {y_v_code : (Nat → Int32)}, rec 1 v_at v_fault v_faultAt v_kind v_open v_size v_stop v_code = some (rr, y_v_at, y_v_fault, y_v_faultAt, y_v_kind, y_v_open, y_v_size, y_v_stop, y_v_code) → zMi l yX7_readFact cX7_readFact 3 (some .boolean) rm X [.ref (X.1 + 33)] (I, J, Rr, D) rr ((va_up (va_up I 33 (va_up (va_up (va_up (va_up (va_up (va_up (va_up oI33 4 y_v_size) 6 y_v_kind) 7 y_v_at) 8 y_v_stop) 9 y_v_open) 10 y_v_fault) 11 y_v_faultAt)) 35 y_v_code), J, Rr, D)
def pG_readBoth_readFact_readTest_2 (v_length : Int32) (v_tape : (Nat → Int32)) (rec : Nat → Int32 → Int32 → Int32 → Int32 → Int32 → Int32 → Int32 → (Nat → Int32) → Option R_pReader_readTest) (rm : Room) : Prop := ∀ {l : Launch} {X : zX} {I : Nat → Nat → Int32} {J : Nat → Nat → Int64} {Rr : Nat → Nat → Option Nat} {D : zD} (oI33 : Nat → Int32) (eoI33 : I 33 = oI33) (e_v_length : I 33 3 = v_length) (e_v_tape : I 34 = v_tape) (v_at : Int32) (e_v_at : I 33 7 = v_at) (v_fault : Int32) (e_v_fault : I 33 10 = v_fault) (v_faultAt : Int32) (e_v_faultAt : I 33 11 = v_faultAt) (v_kind : Int32) (e_v_kind : I 33 6 = v_kind) (v_open : Int32) (e_v_open : I 33 9 = v_open) (v_size : Int32) (e_v_size : I 33 4 = v_size) (v_stop : Int32) (e_v_stop : I 33 8 = v_stop) (v_code : (Nat → Int32)) (e_v_code : I 35 = v_code) {rr : Int32} {y_v_at : Int32} {y_v_fault : Int32} {y_v_faultAt : Int32} {y_v_kind : Int32} {y_v_open : Int32} {y_v_size : Int32} {y_v_stop : Int32} {y_v_code : (Nat → Int32)}, rec 2 v_at v_fault v_faultAt v_kind v_open v_size v_stop v_code = some (rr, y_v_at, y_v_fault, y_v_faultAt, y_v_kind, y_v_open, y_v_size, y_v_stop, y_v_code) → zMi l yX7_readTest cX7_readTest 3 (some .boolean) rm X [.ref (X.1 + 33)] (I, J, Rr, D) rr ((va_up (va_up I 33 (va_up (va_up (va_up (va_up (va_up (va_up (va_up oI33 4 y_v_size) 6 y_v_kind) 7 y_v_at) 8 y_v_stop) 9 y_v_open) 10 y_v_fault) 11 y_v_faultAt)) 35 y_v_code), J, Rr, D)
def pG_readBoth_readFact_readTest_H (v_length : Int32) (v_tape : (Nat → Int32)) (rec : Nat → Int32 → Int32 → Int32 → Int32 → Int32 → Int32 → Int32 → (Nat → Int32) → Option R_pReader_readBoth) (rm : Room) : Prop := pG_readBoth_readFact_readTest_0 v_length v_tape rec rm ∧ pG_readBoth_readFact_readTest_1 v_length v_tape rec rm ∧ pG_readBoth_readFact_readTest_2 v_length v_tape rec rm
theorem c_X7_readBoth_b7 {C : zC} {I : Nat → Nat → Int32} {J : Nat → Nat → Int64} {Rr : Nat → Nat → Option Nat} {D : zD} (N : Nat) (d9 : Nat) (rec : Nat → Int32 → Int32 → Int32 → Int32 → Int32 → Int32 → Int32 → (Nat → Int32) → Option R_pReader_readBoth) (v_length : Int32) (e_v_length : I 33 3 = v_length) (v_tape : (Nat → Int32)) (e_v_tape : I 34 = v_tape) (hrec : pG_readBoth_readFact_readTest_H v_length v_tape rec (zrm 343 8550 d9)) (rr : Int32) (y_v_at : Int32) (y_v_fault : Int32) (y_v_faultAt : Int32) (y_v_kind : Int32) (y_v_open : Int32) (y_v_size : Int32) (y_v_stop : Int32) (y_v_code : (Nat → Int32)) (E : zE C RX7 cX7_readBoth 3 (some .boolean) (zrm 343 8550 (d9 + 1))) (hQ : C.Q = zQi C (zrm 343 8550 (d9 + 1)) rr ((va_up (va_up I 33 (va_up (va_up (va_up (va_up (va_up (va_up (va_up (I 33) 4 y_v_size) 6 y_v_kind) 7 y_v_at) 8 y_v_stop) 9 y_v_open) 10 y_v_fault) 11 y_v_faultAt)) 35 y_v_code), J, Rr, D))  : ∀ (n9 : Nat) (x1 : Int32) (x2 : Int32) (v_at : Int32) (v_fault : Int32) (v_faultAt : Int32) (v_kind : Int32) (v_open : Int32) (v_size : Int32) (v_stop : Int32) (v_code : (Nat → Int32)), pReader_readBoth_b7 N rec v_length v_tape n9 x1 x2 v_at v_fault v_faultAt v_kind v_open v_size v_stop v_code = some (rr, y_v_at, y_v_fault, y_v_faultAt, y_v_kind, y_v_open, y_v_size, y_v_stop, y_v_code) → zB C (0, 0) 7 [(0, .ref (C.X.1 + 33)), (1, .int x1), (2, .int x2)] [] ((va_up (va_up I 33 (va_up (va_up (va_up (va_up (va_up (va_up (va_up (I 33) 4 v_size) 6 v_kind) 7 v_at) 8 v_stop) 9 v_open) 10 v_fault) 11 v_faultAt)) 35 v_code), J, Rr, D) := by
  refine zlp10_ind (P := fun (x1 : Int32) (x2 : Int32) (v_at : Int32) (v_fault : Int32) (v_faultAt : Int32) (v_kind : Int32) (v_open : Int32) (v_size : Int32) (v_stop : Int32) (v_code : (Nat → Int32)) => zB C (0, 0) 7 [(0, .ref (C.X.1 + 33)), (1, .int x1), (2, .int x2)] [] ((va_up (va_up I 33 (va_up (va_up (va_up (va_up (va_up (va_up (va_up (I 33) 4 v_size) 6 v_kind) 7 v_at) 8 v_stop) 9 v_open) 10 v_fault) 11 v_faultAt)) 35 v_code), J, Rr, D)) (fun self ih => ?_)
  intro x1 x2 v_at v_fault v_faultAt v_kind v_open v_size v_stop v_code h
  refine zb_iload_n E dX7_readBoth_7 2 rfl rfl ?_
  refine zb_sipush E dX7_readBoth_8 (v := 600) rfl ?_
  refine zb_icmp_ge E dX7_readBoth_11 (tgt := 55) rfl (fun hc => ?_) (fun hc => ?_)
  · have h := if_t h hc
    refine zb_iload_n E dX7_readBoth_55 1 rfl rfl ?_
    obtain ⟨gB, h⟩ := gd_s h
    obtain ⟨rfl, rfl, rfl, rfl, rfl, rfl, rfl, rfl, rfl⟩ := zinj9 h
    exact zb_zret E hQ (ty := .boolean) rfl (isB_n gB) ⟨Nat.zero_le _, Nat.zero_le _⟩ dX7_readBoth_56
  · have h := if_f h hc
    refine zb_iload_n E dX7_readBoth_14 1 rfl rfl ?_
    refine zb_if_eq E dX7_readBoth_15 (tgt := 55) rfl (fun hc => ?_) (fun hc => ?_)
    · have h := if_t h hc
      refine zb_iload_n E dX7_readBoth_55 1 rfl rfl ?_
      obtain ⟨gB, h⟩ := gd_s h
      obtain ⟨rfl, rfl, rfl, rfl, rfl, rfl, rfl, rfl, rfl⟩ := zinj9 h
      exact zb_zret E hQ (ty := .boolean) rfl (isB_n gB) ⟨Nat.zero_le _, Nat.zero_le _⟩ dX7_readBoth_56
    · have h := if_f h hc
      refine zb_aload_n E dX7_readBoth_18 0 rfl rfl ?_
      refine zb_ldcS E rfl zJ_19 dX7_readBoth_19 ?_
      obtain ⟨rc2, v_at_c2, v_kind_c2, v_stop_c2, hc_21, h⟩ := bd4_s h
      refine zb_cVi E [.ref (C.X.2.2.2.2.1 19)] 33 zy_X7_takeWord zw_687 (by decide) (zF_33 _ _ _ _) rfl (c_X7_takeWord (by decide) (va_up (va_up (va_up (va_up (va_up (va_up (va_up (I 33) 4 v_size) 6 v_kind) 7 v_at) 8 v_stop) 9 v_open) 10 v_fault) 11 v_faultAt) rfl v_length (by exact e_v_length) v_tape (by exact e_v_tape) v_at rfl v_kind rfl v_stop rfl hc_21) (zrm_ok (by decide)) rfl rfl (by first | decide | simp [Value.category]) dX7_readBoth_21 (cs2 := (0, 0)) rfl ?_
      refine zb_S (S2 := ((va_up (va_up I 33 (va_up (va_up (va_up (va_up (va_up (va_up (va_up (I 33) 4 v_size) 6 v_kind_c2) 7 v_at_c2) 8 v_stop_c2) 9 v_open) 10 v_fault) 11 v_faultAt)) 35 v_code), J, Rr, D)) (zS_eq ((zcgV ((zcgF ((zcgF (zn6 (by decide : (11 : Nat) ≠ 6) (by decide : (10 : Nat) ≠ 6) (by decide : (9 : Nat) ≠ 6) (by decide : (8 : Nat) ≠ 6) (by decide : (7 : Nat) ≠ 6))).trans (zn5 (by decide : (11 : Nat) ≠ 7) (by decide : (10 : Nat) ≠ 7) (by decide : (9 : Nat) ≠ 7) (by decide : (8 : Nat) ≠ 7)))).trans (zn4 (by decide : (11 : Nat) ≠ 8) (by decide : (10 : Nat) ≠ 8) (by decide : (9 : Nat) ≠ 8)))).trans (zn2 (by decide : (35 : Nat) ≠ 33))) rfl) ?_
      refine zb_if_eq E dX7_readBoth_24 (tgt := 55) rfl (fun hc => ?_) (fun hc => ?_)
      · have h := if_t h hc
        refine zb_iload_n E dX7_readBoth_55 1 rfl rfl ?_
        obtain ⟨gB, h⟩ := gd_s h
        obtain ⟨rfl, rfl, rfl, rfl, rfl, rfl, rfl, rfl, rfl⟩ := zinj9 h
        exact zb_zret E hQ (ty := .boolean) rfl (isB_n gB) ⟨Nat.zero_le _, Nat.zero_le _⟩ dX7_readBoth_56
      · have h := if_f h hc
        refine zb_aload_n E dX7_readBoth_27 0 rfl rfl ?_
        obtain ⟨rc3, v_at_c3, v_fault_c3, v_faultAt_c3, v_kind_c3, v_open_c3, v_size_c3, v_stop_c3, v_code_c3, hc_28, h⟩ := bd9_s h
        refine zb_cVi E [] 33 zy_X7_readFact zw_815 (by decide) (zF_33 _ _ _ _) rfl (hrec.2.1 (va_up (va_up (va_up (va_up (va_up (va_up (va_up (I 33) 4 v_size) 6 v_kind_c2) 7 v_at_c2) 8 v_stop_c2) 9 v_open) 10 v_fault) 11 v_faultAt) rfl (by exact e_v_length) (by exact e_v_tape) v_at_c2 rfl v_fault rfl v_faultAt rfl v_kind_c2 rfl v_open rfl v_size rfl v_stop_c2 rfl v_code rfl hc_28) (zrm_rec (by decide)) rfl rfl (by first | decide | simp [Value.category]) dX7_readBoth_28 (cs2 := (0, 0)) rfl ?_
        refine zb_S (S2 := ((va_up (va_up I 33 (va_up (va_up (va_up (va_up (va_up (va_up (va_up (I 33) 4 v_size_c3) 6 v_kind_c3) 7 v_at_c3) 8 v_stop_c3) 9 v_open_c3) 10 v_fault_c3) 11 v_faultAt_c3)) 35 v_code_c3), J, Rr, D)) (zS_eq ((zcgF ((zcgV ((zcgF ((zcgF ((zcgF ((zcgF ((zcgF ((zcgF (zn7 (by decide : (11 : Nat) ≠ 4) (by decide : (10 : Nat) ≠ 4) (by decide : (9 : Nat) ≠ 4) (by decide : (8 : Nat) ≠ 4) (by decide : (7 : Nat) ≠ 4) (by decide : (6 : Nat) ≠ 4))).trans (zn6 (by decide : (11 : Nat) ≠ 6) (by decide : (10 : Nat) ≠ 6) (by decide : (9 : Nat) ≠ 6) (by decide : (8 : Nat) ≠ 6) (by decide : (7 : Nat) ≠ 6)))).trans (zn5 (by decide : (11 : Nat) ≠ 7) (by decide : (10 : Nat) ≠ 7) (by decide : (9 : Nat) ≠ 7) (by decide : (8 : Nat) ≠ 7)))).trans (zn4 (by decide : (11 : Nat) ≠ 8) (by decide : (10 : Nat) ≠ 8) (by decide : (9 : Nat) ≠ 8)))).trans (zn3 (by decide : (11 : Nat) ≠ 9) (by decide : (10 : Nat) ≠ 9)))).trans (zn2 (by decide : (11 : Nat) ≠ 10)))).trans zn1)).trans (zn2 (by decide : (35 : Nat) ≠ 33)))).trans zn1) rfl) ?_
        refine zb_if_eq E dX7_readBoth_31 (tgt := 47) rfl (fun hc => ?_) (fun hc => ?_)
        · have h := if_t h hc
          refine zb_iconst E dX7_readBoth_47 (v := 0) rfl ?_
          refine zb_istore_n E dX7_readBoth_48 rfl (by decide) (lv2 := [(1, .int 0), (0, .ref (C.X.1 + 33)), (2, .int x2)]) rfl ?_
          refine zb_iinc E dX7_readBoth_49 2 rfl (v := (x2 + 1)) rfl (by decide) (lv2 := [(2, .int (x2 + 1)), (1, .int 0), (0, .ref (C.X.1 + 33))]) rfl ?_
          refine zb_goto E dX7_readBoth_52 (tgt := 7) rfl ?_
          refine zb_sub [2, 1, 0] rfl ?_
          exact ih 0 (x2 + 1) v_at_c3 v_fault_c3 v_faultAt_c3 v_kind_c3 v_open_c3 v_size_c3 v_stop_c3 v_code_c3 h
        · have h := if_f h hc
          refine zb_aload_n E dX7_readBoth_34 0 rfl rfl ?_
          refine zb_bipush E dX7_readBoth_35 (v := (-16)) rfl ?_
          obtain ⟨rc4, v_fault_c4, v_faultAt_c4, v_size_c4, v_code_c4, hc_37, h⟩ := bd5_s h
          refine zb_cVi E [.int (-16)] 33 zy_X7_emit zw_767 (by decide) (zF_33 _ _ _ _) rfl (c_X7_emit (va_up (va_up (va_up (va_up (va_up (va_up (va_up (I 33) 4 v_size_c3) 6 v_kind_c3) 7 v_at_c3) 8 v_stop_c3) 9 v_open_c3) 10 v_fault_c3) 11 v_faultAt_c3) rfl v_at_c3 rfl v_fault_c3 rfl v_faultAt_c3 rfl v_size_c3 rfl v_code_c3 rfl hc_37) (zrm_ok (by decide)) rfl rfl (by first | decide | simp [Value.category]) dX7_readBoth_37 (cs2 := (0, 0)) rfl ?_
          refine zb_S (S2 := ((va_up (va_up I 33 (va_up (va_up (va_up (va_up (va_up (va_up (va_up (I 33) 4 v_size_c4) 6 v_kind_c3) 7 v_at_c3) 8 v_stop_c3) 9 v_open_c3) 10 v_fault_c4) 11 v_faultAt_c4)) 35 v_code_c4), J, Rr, D)) (zS_eq ((zcgF ((zcgV ((zcgF ((zcgF (zn7 (by decide : (11 : Nat) ≠ 4) (by decide : (10 : Nat) ≠ 4) (by decide : (9 : Nat) ≠ 4) (by decide : (8 : Nat) ≠ 4) (by decide : (7 : Nat) ≠ 4) (by decide : (6 : Nat) ≠ 4))).trans (zn2 (by decide : (11 : Nat) ≠ 10)))).trans zn1)).trans (zn2 (by decide : (35 : Nat) ≠ 33)))).trans zn1) rfl) ?_
          refine zb_if_eq E dX7_readBoth_40 (tgt := 47) rfl (fun hc => ?_) (fun hc => ?_)
          · have h := if_t h hc
            refine zb_iconst E dX7_readBoth_47 (v := 0) rfl ?_
            refine zb_istore_n E dX7_readBoth_48 rfl (by decide) (lv2 := [(1, .int 0), (0, .ref (C.X.1 + 33)), (2, .int x2)]) rfl ?_
            refine zb_iinc E dX7_readBoth_49 2 rfl (v := (x2 + 1)) rfl (by decide) (lv2 := [(2, .int (x2 + 1)), (1, .int 0), (0, .ref (C.X.1 + 33))]) rfl ?_
            refine zb_goto E dX7_readBoth_52 (tgt := 7) rfl ?_
            refine zb_sub [2, 1, 0] rfl ?_
            exact ih 0 (x2 + 1) v_at_c3 v_fault_c4 v_faultAt_c4 v_kind_c3 v_open_c3 v_size_c4 v_stop_c3 v_code_c4 h
          · have h := if_f h hc
            refine zb_iconst E dX7_readBoth_43 (v := 1) rfl ?_
            refine zb_goto E dX7_readBoth_44 (tgt := 48) rfl ?_
            refine zb_istore_n E dX7_readBoth_48 rfl (by decide) (lv2 := [(1, .int 1), (0, .ref (C.X.1 + 33)), (2, .int x2)]) rfl ?_
            refine zb_iinc E dX7_readBoth_49 2 rfl (v := (x2 + 1)) rfl (by decide) (lv2 := [(2, .int (x2 + 1)), (1, .int 1), (0, .ref (C.X.1 + 33))]) rfl ?_
            refine zb_goto E dX7_readBoth_52 (tgt := 7) rfl ?_
            refine zb_sub [2, 1, 0] rfl ?_
            exact ih 1 (x2 + 1) v_at_c3 v_fault_c4 v_faultAt_c4 v_kind_c3 v_open_c3 v_size_c4 v_stop_c3 v_code_c4 h
theorem c_X7_readBoth_0 {C : zC} {I : Nat → Nat → Int32} {J : Nat → Nat → Int64} {Rr : Nat → Nat → Option Nat} {D : zD} (N : Nat) (d9 : Nat) (rec : Nat → Int32 → Int32 → Int32 → Int32 → Int32 → Int32 → Int32 → (Nat → Int32) → Option R_pReader_readBoth) (v_length : Int32) (e_v_length : I 33 3 = v_length) (v_tape : (Nat → Int32)) (e_v_tape : I 34 = v_tape) (hrec : pG_readBoth_readFact_readTest_H v_length v_tape rec (zrm 343 8550 d9)) (rr : Int32) (y_v_at : Int32) (y_v_fault : Int32) (y_v_faultAt : Int32) (y_v_kind : Int32) (y_v_open : Int32) (y_v_size : Int32) (y_v_stop : Int32) (y_v_code : (Nat → Int32)) (E : zE C RX7 cX7_readBoth 3 (some .boolean) (zrm 343 8550 (d9 + 1))) (hQ : C.Q = zQi C (zrm 343 8550 (d9 + 1)) rr ((va_up (va_up I 33 (va_up (va_up (va_up (va_up (va_up (va_up (va_up (I 33) 4 y_v_size) 6 y_v_kind) 7 y_v_at) 8 y_v_stop) 9 y_v_open) 10 y_v_fault) 11 y_v_faultAt)) 35 y_v_code), J, Rr, D)) (v_at : Int32) (v_fault : Int32) (v_faultAt : Int32) (v_kind : Int32) (v_open : Int32) (v_size : Int32) (v_stop : Int32) (v_code : (Nat → Int32)) (h : pReader_readBoth_G N rec v_length v_tape v_at v_fault v_faultAt v_kind v_open v_size v_stop v_code = some (rr, y_v_at, y_v_fault, y_v_faultAt, y_v_kind, y_v_open, y_v_size, y_v_stop, y_v_code)) : zB C (0, 0) 0 [(0, .ref (C.X.1 + 33))] [] ((va_up (va_up I 33 (va_up (va_up (va_up (va_up (va_up (va_up (va_up (I 33) 4 v_size) 6 v_kind) 7 v_at) 8 v_stop) 9 v_open) 10 v_fault) 11 v_faultAt)) 35 v_code), J, Rr, D) := by
  refine zb_aload_n E dX7_readBoth_0 0 rfl rfl ?_
  obtain ⟨rc1, v_at_c1, v_fault_c1, v_faultAt_c1, v_kind_c1, v_open_c1, v_size_c1, v_stop_c1, v_code_c1, hc_1, h⟩ := bd9_s h
  refine zb_cVi E [] 33 zy_X7_readFact zw_815 (by decide) (zF_33 _ _ _ _) rfl (hrec.2.1 (va_up (va_up (va_up (va_up (va_up (va_up (va_up (I 33) 4 v_size) 6 v_kind) 7 v_at) 8 v_stop) 9 v_open) 10 v_fault) 11 v_faultAt) rfl (by exact e_v_length) (by exact e_v_tape) v_at rfl v_fault rfl v_faultAt rfl v_kind rfl v_open rfl v_size rfl v_stop rfl v_code rfl hc_1) (zrm_rec (by decide)) rfl rfl (by first | decide | simp [Value.category]) dX7_readBoth_1 (cs2 := (0, 0)) rfl ?_
  refine zb_S (S2 := ((va_up (va_up I 33 (va_up (va_up (va_up (va_up (va_up (va_up (va_up (I 33) 4 v_size_c1) 6 v_kind_c1) 7 v_at_c1) 8 v_stop_c1) 9 v_open_c1) 10 v_fault_c1) 11 v_faultAt_c1)) 35 v_code_c1), J, Rr, D)) (zS_eq ((zcgF ((zcgV ((zcgF ((zcgF ((zcgF ((zcgF ((zcgF ((zcgF (zn7 (by decide : (11 : Nat) ≠ 4) (by decide : (10 : Nat) ≠ 4) (by decide : (9 : Nat) ≠ 4) (by decide : (8 : Nat) ≠ 4) (by decide : (7 : Nat) ≠ 4) (by decide : (6 : Nat) ≠ 4))).trans (zn6 (by decide : (11 : Nat) ≠ 6) (by decide : (10 : Nat) ≠ 6) (by decide : (9 : Nat) ≠ 6) (by decide : (8 : Nat) ≠ 6) (by decide : (7 : Nat) ≠ 6)))).trans (zn5 (by decide : (11 : Nat) ≠ 7) (by decide : (10 : Nat) ≠ 7) (by decide : (9 : Nat) ≠ 7) (by decide : (8 : Nat) ≠ 7)))).trans (zn4 (by decide : (11 : Nat) ≠ 8) (by decide : (10 : Nat) ≠ 8) (by decide : (9 : Nat) ≠ 8)))).trans (zn3 (by decide : (11 : Nat) ≠ 9) (by decide : (10 : Nat) ≠ 9)))).trans (zn2 (by decide : (11 : Nat) ≠ 10)))).trans zn1)).trans (zn2 (by decide : (35 : Nat) ≠ 33)))).trans zn1) rfl) ?_
  refine zb_istore_n E dX7_readBoth_4 rfl (by decide) (lv2 := [(1, .int rc1), (0, .ref (C.X.1 + 33))]) rfl ?_
  refine zb_iconst E dX7_readBoth_5 (v := 0) rfl ?_
  refine zb_istore_n E dX7_readBoth_6 rfl (by decide) (lv2 := [(2, .int 0), (1, .int rc1), (0, .ref (C.X.1 + 33))]) rfl ?_
  refine zb_sub [2, 1, 0] rfl ?_
  exact c_X7_readBoth_b7 N d9 rec v_length e_v_length v_tape e_v_tape hrec rr y_v_at y_v_fault y_v_faultAt y_v_kind y_v_open y_v_size y_v_stop y_v_code E hQ _ rc1 0 v_at_c1 v_fault_c1 v_faultAt_c1 v_kind_c1 v_open_c1 v_size_c1 v_stop_c1 v_code_c1 h
theorem c_X7_readBoth_G (N d9 : Nat) (rec : Nat → Int32 → Int32 → Int32 → Int32 → Int32 → Int32 → Int32 → (Nat → Int32) → Option R_pReader_readBoth) {l : Launch} {X : zX} {I : Nat → Nat → Int32} {J : Nat → Nat → Int64} {Rr : Nat → Nat → Option Nat} {D : zD} (oI33 : Nat → Int32) (eoI33 : I 33 = oI33) (v_length : Int32) (e_v_length : I 33 3 = v_length) (v_tape : (Nat → Int32)) (e_v_tape : I 34 = v_tape) (v_at : Int32) (e_v_at : I 33 7 = v_at) (v_fault : Int32) (e_v_fault : I 33 10 = v_fault) (v_faultAt : Int32) (e_v_faultAt : I 33 11 = v_faultAt) (v_kind : Int32) (e_v_kind : I 33 6 = v_kind) (v_open : Int32) (e_v_open : I 33 9 = v_open) (v_size : Int32) (e_v_size : I 33 4 = v_size) (v_stop : Int32) (e_v_stop : I 33 8 = v_stop) (v_code : (Nat → Int32)) (e_v_code : I 35 = v_code) {rr : Int32} {y_v_at : Int32} {y_v_fault : Int32} {y_v_faultAt : Int32} {y_v_kind : Int32} {y_v_open : Int32} {y_v_size : Int32} {y_v_stop : Int32} {y_v_code : (Nat → Int32)} (hrec : pG_readBoth_readFact_readTest_H v_length v_tape rec (zrm 343 8550 d9)) (h : pReader_readBoth_G N rec v_length v_tape v_at v_fault v_faultAt v_kind v_open v_size v_stop v_code = some (rr, y_v_at, y_v_fault, y_v_faultAt, y_v_kind, y_v_open, y_v_size, y_v_stop, y_v_code)) : zMi l yX7_readBoth cX7_readBoth 3 (some .boolean) (zrm 343 8550 (d9 + 1)) X [.ref (X.1 + 33)] (I, J, Rr, D) rr ((va_up (va_up I 33 (va_up (va_up (va_up (va_up (va_up (va_up (va_up oI33 4 y_v_size) 6 y_v_kind) 7 y_v_at) 8 y_v_stop) 9 y_v_open) 10 y_v_fault) 11 y_v_faultAt)) 35 y_v_code), J, Rr, D) := by
  subst eoI33
  refine zMi.of (by decide) (Nat.le_of_ble_eq_true rfl) (fun C E hl hX hQ => ?_)
  subst hl
  subst hX
  have eI0 : (va_up (va_up I 33 (va_up (va_up (va_up (va_up (va_up (va_up (va_up (I 33) 4 v_size) 6 v_kind) 7 v_at) 8 v_stop) 9 v_open) 10 v_fault) 11 v_faultAt)) 35 v_code) = I := by rw [zup_idE e_v_size, zup_idE e_v_kind, zup_idE e_v_at, zup_idE e_v_stop, zup_idE e_v_open, zup_idE e_v_fault, zup_idE e_v_faultAt, zup_id, zup_idE e_v_code]
  have eJ0 : J = J := rfl
  refine zb_S (S2 := ((va_up (va_up I 33 (va_up (va_up (va_up (va_up (va_up (va_up (va_up (I 33) 4 v_size) 6 v_kind) 7 v_at) 8 v_stop) 9 v_open) 10 v_fault) 11 v_faultAt)) 35 v_code), J, Rr, D)) (zS_eq eI0.symm eJ0.symm) ?_
  exact c_X7_readBoth_0 N d9 rec v_length e_v_length v_tape e_v_tape hrec rr y_v_at y_v_fault y_v_faultAt y_v_kind y_v_open y_v_size y_v_stop y_v_code E hQ v_at v_fault v_faultAt v_kind v_open v_size v_stop v_code h
theorem c_X7_readFact_b209 {C : zC} {I : Nat → Nat → Int32} {J : Nat → Nat → Int64} {Rr : Nat → Nat → Option Nat} {D : zD} (N : Nat) (d9 : Nat) (rec : Nat → Int32 → Int32 → Int32 → Int32 → Int32 → Int32 → Int32 → (Nat → Int32) → Option R_pReader_readFact) (v_length : Int32) (e_v_length : I 33 3 = v_length) (v_tape : (Nat → Int32)) (e_v_tape : I 34 = v_tape) (hrec : pG_readBoth_readFact_readTest_H v_length v_tape rec (zrm 343 8550 d9)) (rr : Int32) (y_v_at : Int32) (y_v_fault : Int32) (y_v_faultAt : Int32) (y_v_kind : Int32) (y_v_open : Int32) (y_v_size : Int32) (y_v_stop : Int32) (y_v_code : (Nat → Int32)) (E : zE C RX7 cX7_readFact 3 (some .boolean) (zrm 343 8550 (d9 + 1))) (hQ : C.Q = zQi C (zrm 343 8550 (d9 + 1)) rr ((va_up (va_up I 33 (va_up (va_up (va_up (va_up (va_up (va_up (va_up (I 33) 4 y_v_size) 6 y_v_kind) 7 y_v_at) 8 y_v_stop) 9 y_v_open) 10 y_v_fault) 11 y_v_faultAt)) 35 y_v_code), J, Rr, D)) (s0 : Int32) (v_at : Int32) (v_fault : Int32) (v_faultAt : Int32) (v_kind : Int32) (v_open : Int32) (v_size : Int32) (v_stop : Int32) (v_code : (Nat → Int32)) (h : pReader_readFact_b209 N rec v_length v_tape s0 v_at v_fault v_faultAt v_kind v_open v_size v_stop v_code = some (rr, y_v_at, y_v_fault, y_v_faultAt, y_v_kind, y_v_open, y_v_size, y_v_stop, y_v_code)) : zB C (0, 0) 209 [(0, .ref (C.X.1 + 33))] [.int s0] ((va_up (va_up I 33 (va_up (va_up (va_up (va_up (va_up (va_up (va_up (I 33) 4 v_size) 6 v_kind) 7 v_at) 8 v_stop) 9 v_open) 10 v_fault) 11 v_faultAt)) 35 v_code), J, Rr, D) := by
  refine zb_istore_n E dX7_readFact_209 rfl (by decide) (lv2 := [(2, .int s0), (0, .ref (C.X.1 + 33))]) rfl ?_
  refine zb_iload_n E dX7_readFact_210 0 rfl rfl ?_
  refine zb_if_ne E dX7_readFact_211 (tgt := 226) rfl (fun hc => ?_) (fun hc => ?_)
  · have h := if_f h hc
    refine zb_aload_n E dX7_readFact_226 1 rfl rfl ?_
    obtain ⟨rc21, v_at_c21, v_fault_c21, v_faultAt_c21, v_kind_c21, v_open_c21, v_size_c21, v_stop_c21, v_code_c21, hc_227, h⟩ := bd9_s h
    refine zb_cVi E [] 33 zy_X7_readSum zw_739 (by decide) (zF_33 _ _ _ _) rfl (c_X7_readSum (va_up (va_up (va_up (va_up (va_up (va_up (va_up (I 33) 4 v_size) 6 v_kind) 7 v_at) 8 v_stop) 9 v_open) 10 v_fault) 11 v_faultAt) rfl v_length (by exact e_v_length) v_tape (by exact e_v_tape) v_at rfl v_fault rfl v_faultAt rfl v_kind rfl v_open rfl v_size rfl v_stop rfl v_code rfl hc_227) (zrm_ok (by decide)) rfl rfl (by first | decide | simp [Value.category]) dX7_readFact_227 (cs2 := (0, 0)) rfl ?_
    refine zb_S (S2 := ((va_up (va_up I 33 (va_up (va_up (va_up (va_up (va_up (va_up (va_up (I 33) 4 v_size_c21) 6 v_kind_c21) 7 v_at_c21) 8 v_stop_c21) 9 v_open_c21) 10 v_fault_c21) 11 v_faultAt_c21)) 35 v_code_c21), J, Rr, D)) (zS_eq ((zcgF ((zcgV ((zcgF ((zcgF ((zcgF ((zcgF ((zcgF ((zcgF (zn7 (by decide : (11 : Nat) ≠ 4) (by decide : (10 : Nat) ≠ 4) (by decide : (9 : Nat) ≠ 4) (by decide : (8 : Nat) ≠ 4) (by decide : (7 : Nat) ≠ 4) (by decide : (6 : Nat) ≠ 4))).trans (zn6 (by decide : (11 : Nat) ≠ 6) (by decide : (10 : Nat) ≠ 6) (by decide : (9 : Nat) ≠ 6) (by decide : (8 : Nat) ≠ 6) (by decide : (7 : Nat) ≠ 6)))).trans (zn5 (by decide : (11 : Nat) ≠ 7) (by decide : (10 : Nat) ≠ 7) (by decide : (9 : Nat) ≠ 7) (by decide : (8 : Nat) ≠ 7)))).trans (zn4 (by decide : (11 : Nat) ≠ 8) (by decide : (10 : Nat) ≠ 8) (by decide : (9 : Nat) ≠ 8)))).trans (zn3 (by decide : (11 : Nat) ≠ 9) (by decide : (10 : Nat) ≠ 9)))).trans (zn2 (by decide : (11 : Nat) ≠ 10)))).trans zn1)).trans (zn2 (by decide : (35 : Nat) ≠ 33)))).trans zn1) rfl) ?_
    refine zb_if_eq E dX7_readFact_230 (tgt := 245) rfl (fun hc => ?_) (fun hc => ?_)
    · have h := if_t h hc
      refine zb_iconst E dX7_readFact_245 (v := 0) rfl ?_
      obtain ⟨rfl, rfl, rfl, rfl, rfl, rfl, rfl, rfl, rfl⟩ := zinj9 h
      exact zb_zret E hQ (ty := .boolean) rfl rfl ⟨Nat.zero_le _, Nat.zero_le _⟩ dX7_readFact_246
    · have h := if_f h hc
      refine zb_aload_n E dX7_readFact_233 1 rfl rfl ?_
      refine zb_iload_n E dX7_readFact_234 0 rfl rfl ?_
      obtain ⟨rc22, v_fault_c22, v_faultAt_c22, v_size_c22, v_code_c22, hc_235, h⟩ := bd5_s h
      refine zb_cVi E [.int s0] 33 zy_X7_emit zw_767 (by decide) (zF_33 _ _ _ _) rfl (c_X7_emit (va_up (va_up (va_up (va_up (va_up (va_up (va_up (I 33) 4 v_size_c21) 6 v_kind_c21) 7 v_at_c21) 8 v_stop_c21) 9 v_open_c21) 10 v_fault_c21) 11 v_faultAt_c21) rfl v_at_c21 rfl v_fault_c21 rfl v_faultAt_c21 rfl v_size_c21 rfl v_code_c21 rfl hc_235) (zrm_ok (by decide)) rfl rfl (by first | decide | simp [Value.category]) dX7_readFact_235 (cs2 := (0, 0)) rfl ?_
      refine zb_S (S2 := ((va_up (va_up I 33 (va_up (va_up (va_up (va_up (va_up (va_up (va_up (I 33) 4 v_size_c22) 6 v_kind_c21) 7 v_at_c21) 8 v_stop_c21) 9 v_open_c21) 10 v_fault_c22) 11 v_faultAt_c22)) 35 v_code_c22), J, Rr, D)) (zS_eq ((zcgF ((zcgV ((zcgF ((zcgF (zn7 (by decide : (11 : Nat) ≠ 4) (by decide : (10 : Nat) ≠ 4) (by decide : (9 : Nat) ≠ 4) (by decide : (8 : Nat) ≠ 4) (by decide : (7 : Nat) ≠ 4) (by decide : (6 : Nat) ≠ 4))).trans (zn2 (by decide : (11 : Nat) ≠ 10)))).trans zn1)).trans (zn2 (by decide : (35 : Nat) ≠ 33)))).trans zn1) rfl) ?_
      refine zb_if_eq E dX7_readFact_238 (tgt := 245) rfl (fun hc => ?_) (fun hc => ?_)
      · have h := if_t h hc
        refine zb_iconst E dX7_readFact_245 (v := 0) rfl ?_
        obtain ⟨rfl, rfl, rfl, rfl, rfl, rfl, rfl, rfl, rfl⟩ := zinj9 h
        exact zb_zret E hQ (ty := .boolean) rfl rfl ⟨Nat.zero_le _, Nat.zero_le _⟩ dX7_readFact_246
      · have h := if_f h hc
        refine zb_iconst E dX7_readFact_241 (v := 1) rfl ?_
        refine zb_goto E dX7_readFact_242 (tgt := 246) rfl ?_
        obtain ⟨rfl, rfl, rfl, rfl, rfl, rfl, rfl, rfl, rfl⟩ := zinj9 h
        exact zb_zret E hQ (ty := .boolean) rfl rfl ⟨Nat.zero_le _, Nat.zero_le _⟩ dX7_readFact_246
  · have h := if_t h hc
    refine zb_aload_n E dX7_readFact_214 1 rfl rfl ?_
    refine zb_iconst E dX7_readFact_215 (v := 1) rfl ?_
    refine zb_aload_n E dX7_readFact_216 1 rfl rfl ?_
    refine zb_get E 33 (by decide) (zF_33 C.X) rfl zin7 7 (by decide) zw_145 (v := .int v_at) rfl dX7_readFact_217 ?_
    obtain ⟨rc23, v_fault_c23, v_faultAt_c23, hc_220, h⟩ := bd3_s h
    refine zb_cVi E [.int 1, .int v_at] 33 zy_X7_fail zw_756 (by decide) (zF_33 _ _ _ _) rfl (c_X7_fail (va_up (va_up (va_up (va_up (va_up (va_up (va_up (I 33) 4 v_size) 6 v_kind) 7 v_at) 8 v_stop) 9 v_open) 10 v_fault) 11 v_faultAt) rfl v_fault rfl v_faultAt rfl hc_220) (zrm_ok (by decide)) rfl rfl (by first | decide | simp [Value.category]) dX7_readFact_220 (cs2 := (0, 0)) rfl ?_
    refine zb_S (S2 := ((va_up (va_up I 33 (va_up (va_up (va_up (va_up (va_up (va_up (va_up (I 33) 4 v_size) 6 v_kind) 7 v_at) 8 v_stop) 9 v_open) 10 v_fault_c23) 11 v_faultAt_c23)) 35 v_code), J, Rr, D)) (zS_eq ((zcgV ((zcgF (zn2 (by decide : (11 : Nat) ≠ 10))).trans zn1)).trans (zn2 (by decide : (35 : Nat) ≠ 33))) rfl) ?_
    refine zb_goto E dX7_readFact_223 (tgt := 246) rfl ?_
    obtain ⟨gB, h⟩ := gd_s h
    obtain ⟨rfl, rfl, rfl, rfl, rfl, rfl, rfl, rfl, rfl⟩ := zinj9 h
    exact zb_zret E hQ (ty := .boolean) rfl (isB_n gB) ⟨Nat.zero_le _, Nat.zero_le _⟩ dX7_readFact_246
theorem c_X7_readFact_0 {C : zC} {I : Nat → Nat → Int32} {J : Nat → Nat → Int64} {Rr : Nat → Nat → Option Nat} {D : zD} (N : Nat) (d9 : Nat) (rec : Nat → Int32 → Int32 → Int32 → Int32 → Int32 → Int32 → Int32 → (Nat → Int32) → Option R_pReader_readFact) (v_length : Int32) (e_v_length : I 33 3 = v_length) (v_tape : (Nat → Int32)) (e_v_tape : I 34 = v_tape) (hrec : pG_readBoth_readFact_readTest_H v_length v_tape rec (zrm 343 8550 d9)) (rr : Int32) (y_v_at : Int32) (y_v_fault : Int32) (y_v_faultAt : Int32) (y_v_kind : Int32) (y_v_open : Int32) (y_v_size : Int32) (y_v_stop : Int32) (y_v_code : (Nat → Int32)) (E : zE C RX7 cX7_readFact 3 (some .boolean) (zrm 343 8550 (d9 + 1))) (hQ : C.Q = zQi C (zrm 343 8550 (d9 + 1)) rr ((va_up (va_up I 33 (va_up (va_up (va_up (va_up (va_up (va_up (va_up (I 33) 4 y_v_size) 6 y_v_kind) 7 y_v_at) 8 y_v_stop) 9 y_v_open) 10 y_v_fault) 11 y_v_faultAt)) 35 y_v_code), J, Rr, D)) (v_at : Int32) (v_fault : Int32) (v_faultAt : Int32) (v_kind : Int32) (v_open : Int32) (v_size : Int32) (v_stop : Int32) (v_code : (Nat → Int32)) (h : pReader_readFact_G N rec v_length v_tape v_at v_fault v_faultAt v_kind v_open v_size v_stop v_code = some (rr, y_v_at, y_v_fault, y_v_faultAt, y_v_kind, y_v_open, y_v_size, y_v_stop, y_v_code)) : zB C (0, 0) 0 [(0, .ref (C.X.1 + 33))] [] ((va_up (va_up I 33 (va_up (va_up (va_up (va_up (va_up (va_up (va_up (I 33) 4 v_size) 6 v_kind) 7 v_at) 8 v_stop) 9 v_open) 10 v_fault) 11 v_faultAt)) 35 v_code), J, Rr, D) := by
  refine zb_aload_n E dX7_readFact_0 0 rfl rfl ?_
  refine zb_get E 33 (by decide) (zF_33 C.X) rfl zin7 7 (by decide) zw_145 (v := .int v_at) rfl dX7_readFact_1 ?_
  refine zb_istore_n E dX7_readFact_4 rfl (by decide) (lv2 := [(1, .int v_at), (0, .ref (C.X.1 + 33))]) rfl ?_
  refine zb_aload_n E dX7_readFact_5 1 rfl rfl ?_
  refine zb_ldcS E rfl zJ_16 dX7_readFact_6 ?_
  obtain ⟨rc1, v_at_c1, v_kind_c1, v_stop_c1, hc_8, h⟩ := bd4_s h
  refine zb_cVi E [.ref (C.X.2.2.2.2.1 16)] 33 zy_X7_takeWord zw_687 (by decide) (zF_33 _ _ _ _) rfl (c_X7_takeWord (by decide) (va_up (va_up (va_up (va_up (va_up (va_up (va_up (I 33) 4 v_size) 6 v_kind) 7 v_at) 8 v_stop) 9 v_open) 10 v_fault) 11 v_faultAt) rfl v_length (by exact e_v_length) v_tape (by exact e_v_tape) v_at rfl v_kind rfl v_stop rfl hc_8) (zrm_ok (by decide)) rfl rfl (by first | decide | simp [Value.category]) dX7_readFact_8 (cs2 := (0, 0)) rfl ?_
  refine zb_S (S2 := ((va_up (va_up I 33 (va_up (va_up (va_up (va_up (va_up (va_up (va_up (I 33) 4 v_size) 6 v_kind_c1) 7 v_at_c1) 8 v_stop_c1) 9 v_open) 10 v_fault) 11 v_faultAt)) 35 v_code), J, Rr, D)) (zS_eq ((zcgV ((zcgF ((zcgF (zn6 (by decide : (11 : Nat) ≠ 6) (by decide : (10 : Nat) ≠ 6) (by decide : (9 : Nat) ≠ 6) (by decide : (8 : Nat) ≠ 6) (by decide : (7 : Nat) ≠ 6))).trans (zn5 (by decide : (11 : Nat) ≠ 7) (by decide : (10 : Nat) ≠ 7) (by decide : (9 : Nat) ≠ 7) (by decide : (8 : Nat) ≠ 7)))).trans (zn4 (by decide : (11 : Nat) ≠ 8) (by decide : (10 : Nat) ≠ 8) (by decide : (9 : Nat) ≠ 8)))).trans (zn2 (by decide : (35 : Nat) ≠ 33))) rfl) ?_
  refine zb_if_eq E dX7_readFact_11 (tgt := 51) rfl (fun hc => ?_) (fun hc => ?_)
  · have h := if_t h hc
    refine zb_aload_n E dX7_readFact_51 1 rfl rfl ?_
    refine zb_bipush E dX7_readFact_52 (v := 91) rfl ?_
    obtain ⟨rc2, v_at_c2, v_kind_c2, v_stop_c2, hc_54, h⟩ := bd4_s h
    refine zb_cVi E [.int 91] 33 zy_X7_takeMark zw_771 (by decide) (zF_33 _ _ _ _) rfl (c_X7_takeMark (va_up (va_up (va_up (va_up (va_up (va_up (va_up (I 33) 4 v_size) 6 v_kind_c1) 7 v_at_c1) 8 v_stop_c1) 9 v_open) 10 v_fault) 11 v_faultAt) rfl v_length (by exact e_v_length) v_tape (by exact e_v_tape) v_at_c1 rfl v_kind_c1 rfl v_stop_c1 rfl hc_54) (zrm_ok (by decide)) rfl rfl (by first | decide | simp [Value.category]) dX7_readFact_54 (cs2 := (0, 0)) rfl ?_
    refine zb_S (S2 := ((va_up (va_up I 33 (va_up (va_up (va_up (va_up (va_up (va_up (va_up (I 33) 4 v_size) 6 v_kind_c2) 7 v_at_c2) 8 v_stop_c2) 9 v_open) 10 v_fault) 11 v_faultAt)) 35 v_code), J, Rr, D)) (zS_eq ((zcgV ((zcgF ((zcgF (zn6 (by decide : (11 : Nat) ≠ 6) (by decide : (10 : Nat) ≠ 6) (by decide : (9 : Nat) ≠ 6) (by decide : (8 : Nat) ≠ 6) (by decide : (7 : Nat) ≠ 6))).trans (zn5 (by decide : (11 : Nat) ≠ 7) (by decide : (10 : Nat) ≠ 7) (by decide : (9 : Nat) ≠ 7) (by decide : (8 : Nat) ≠ 7)))).trans (zn4 (by decide : (11 : Nat) ≠ 8) (by decide : (10 : Nat) ≠ 8) (by decide : (9 : Nat) ≠ 8)))).trans (zn2 (by decide : (35 : Nat) ≠ 33))) rfl) ?_
    refine zb_if_eq E dX7_readFact_57 (tgt := 97) rfl (fun hc => ?_) (fun hc => ?_)
    · have h := if_t h hc
      refine zb_aload_n E dX7_readFact_97 1 rfl rfl ?_
      refine zb_ldcS E rfl zJ_17 dX7_readFact_98 ?_
      obtain ⟨rc3, v_at_c3, v_kind_c3, v_stop_c3, hc_100, h⟩ := bd4_s h
      refine zb_cVi E [.ref (C.X.2.2.2.2.1 17)] 33 zy_X7_takeWord zw_687 (by decide) (zF_33 _ _ _ _) rfl (c_X7_takeWord (by decide) (va_up (va_up (va_up (va_up (va_up (va_up (va_up (I 33) 4 v_size) 6 v_kind_c2) 7 v_at_c2) 8 v_stop_c2) 9 v_open) 10 v_fault) 11 v_faultAt) rfl v_length (by exact e_v_length) v_tape (by exact e_v_tape) v_at_c2 rfl v_kind_c2 rfl v_stop_c2 rfl hc_100) (zrm_ok (by decide)) rfl rfl (by first | decide | simp [Value.category]) dX7_readFact_100 (cs2 := (0, 0)) rfl ?_
      refine zb_S (S2 := ((va_up (va_up I 33 (va_up (va_up (va_up (va_up (va_up (va_up (va_up (I 33) 4 v_size) 6 v_kind_c3) 7 v_at_c3) 8 v_stop_c3) 9 v_open) 10 v_fault) 11 v_faultAt)) 35 v_code), J, Rr, D)) (zS_eq ((zcgV ((zcgF ((zcgF (zn6 (by decide : (11 : Nat) ≠ 6) (by decide : (10 : Nat) ≠ 6) (by decide : (9 : Nat) ≠ 6) (by decide : (8 : Nat) ≠ 6) (by decide : (7 : Nat) ≠ 6))).trans (zn5 (by decide : (11 : Nat) ≠ 7) (by decide : (10 : Nat) ≠ 7) (by decide : (9 : Nat) ≠ 7) (by decide : (8 : Nat) ≠ 7)))).trans (zn4 (by decide : (11 : Nat) ≠ 8) (by decide : (10 : Nat) ≠ 8) (by decide : (9 : Nat) ≠ 8)))).trans (zn2 (by decide : (35 : Nat) ≠ 33))) rfl) ?_
      refine zb_if_eq E dX7_readFact_103 (tgt := 112) rfl (fun hc => ?_) (fun hc => ?_)
      · have h := if_t h hc
        refine zb_aload_n E dX7_readFact_112 1 rfl rfl ?_
        refine zb_ldcS E rfl zJ_18 dX7_readFact_113 ?_
        obtain ⟨rc4, v_at_c4, v_kind_c4, v_stop_c4, hc_115, h⟩ := bd4_s h
        refine zb_cVi E [.ref (C.X.2.2.2.2.1 18)] 33 zy_X7_takeWord zw_687 (by decide) (zF_33 _ _ _ _) rfl (c_X7_takeWord (by decide) (va_up (va_up (va_up (va_up (va_up (va_up (va_up (I 33) 4 v_size) 6 v_kind_c3) 7 v_at_c3) 8 v_stop_c3) 9 v_open) 10 v_fault) 11 v_faultAt) rfl v_length (by exact e_v_length) v_tape (by exact e_v_tape) v_at_c3 rfl v_kind_c3 rfl v_stop_c3 rfl hc_115) (zrm_ok (by decide)) rfl rfl (by first | decide | simp [Value.category]) dX7_readFact_115 (cs2 := (0, 0)) rfl ?_
        refine zb_S (S2 := ((va_up (va_up I 33 (va_up (va_up (va_up (va_up (va_up (va_up (va_up (I 33) 4 v_size) 6 v_kind_c4) 7 v_at_c4) 8 v_stop_c4) 9 v_open) 10 v_fault) 11 v_faultAt)) 35 v_code), J, Rr, D)) (zS_eq ((zcgV ((zcgF ((zcgF (zn6 (by decide : (11 : Nat) ≠ 6) (by decide : (10 : Nat) ≠ 6) (by decide : (9 : Nat) ≠ 6) (by decide : (8 : Nat) ≠ 6) (by decide : (7 : Nat) ≠ 6))).trans (zn5 (by decide : (11 : Nat) ≠ 7) (by decide : (10 : Nat) ≠ 7) (by decide : (9 : Nat) ≠ 7) (by decide : (8 : Nat) ≠ 7)))).trans (zn4 (by decide : (11 : Nat) ≠ 8) (by decide : (10 : Nat) ≠ 8) (by decide : (9 : Nat) ≠ 8)))).trans (zn2 (by decide : (35 : Nat) ≠ 33))) rfl) ?_
        refine zb_if_eq E dX7_readFact_118 (tgt := 157) rfl (fun hc => ?_) (fun hc => ?_)
        · have h := if_t h hc
          refine zb_aload_n E dX7_readFact_157 1 rfl rfl ?_
          obtain ⟨rc5, v_at_c5, v_fault_c5, v_faultAt_c5, v_kind_c5, v_open_c5, v_size_c5, v_stop_c5, v_code_c5, hc_158, h⟩ := bd9_s h
          refine zb_cVi E [] 33 zy_X7_readSum zw_739 (by decide) (zF_33 _ _ _ _) rfl (c_X7_readSum (va_up (va_up (va_up (va_up (va_up (va_up (va_up (I 33) 4 v_size) 6 v_kind_c4) 7 v_at_c4) 8 v_stop_c4) 9 v_open) 10 v_fault) 11 v_faultAt) rfl v_length (by exact e_v_length) v_tape (by exact e_v_tape) v_at_c4 rfl v_fault rfl v_faultAt rfl v_kind_c4 rfl v_open rfl v_size rfl v_stop_c4 rfl v_code rfl hc_158) (zrm_ok (by decide)) rfl rfl (by first | decide | simp [Value.category]) dX7_readFact_158 (cs2 := (0, 0)) rfl ?_
          refine zb_S (S2 := ((va_up (va_up I 33 (va_up (va_up (va_up (va_up (va_up (va_up (va_up (I 33) 4 v_size_c5) 6 v_kind_c5) 7 v_at_c5) 8 v_stop_c5) 9 v_open_c5) 10 v_fault_c5) 11 v_faultAt_c5)) 35 v_code_c5), J, Rr, D)) (zS_eq ((zcgF ((zcgV ((zcgF ((zcgF ((zcgF ((zcgF ((zcgF ((zcgF (zn7 (by decide : (11 : Nat) ≠ 4) (by decide : (10 : Nat) ≠ 4) (by decide : (9 : Nat) ≠ 4) (by decide : (8 : Nat) ≠ 4) (by decide : (7 : Nat) ≠ 4) (by decide : (6 : Nat) ≠ 4))).trans (zn6 (by decide : (11 : Nat) ≠ 6) (by decide : (10 : Nat) ≠ 6) (by decide : (9 : Nat) ≠ 6) (by decide : (8 : Nat) ≠ 6) (by decide : (7 : Nat) ≠ 6)))).trans (zn5 (by decide : (11 : Nat) ≠ 7) (by decide : (10 : Nat) ≠ 7) (by decide : (9 : Nat) ≠ 7) (by decide : (8 : Nat) ≠ 7)))).trans (zn4 (by decide : (11 : Nat) ≠ 8) (by decide : (10 : Nat) ≠ 8) (by decide : (9 : Nat) ≠ 8)))).trans (zn3 (by decide : (11 : Nat) ≠ 9) (by decide : (10 : Nat) ≠ 9)))).trans (zn2 (by decide : (11 : Nat) ≠ 10)))).trans zn1)).trans (zn2 (by decide : (35 : Nat) ≠ 33)))).trans zn1) rfl) ?_
          refine zb_if_ne E dX7_readFact_161 (tgt := 166) rfl (fun hc => ?_) (fun hc => ?_)
          · have h := if_f h hc
            refine zb_aload_n E dX7_readFact_166 1 rfl rfl ?_
            refine zb_bipush E dX7_readFact_167 (v := 60) rfl ?_
            obtain ⟨rc6, v_at_c6, v_kind_c6, v_stop_c6, hc_169, h⟩ := bd4_s h
            refine zb_cVi E [.int 60] 33 zy_X7_takeMark zw_771 (by decide) (zF_33 _ _ _ _) rfl (c_X7_takeMark (va_up (va_up (va_up (va_up (va_up (va_up (va_up (I 33) 4 v_size_c5) 6 v_kind_c5) 7 v_at_c5) 8 v_stop_c5) 9 v_open_c5) 10 v_fault_c5) 11 v_faultAt_c5) rfl v_length (by exact e_v_length) v_tape (by exact e_v_tape) v_at_c5 rfl v_kind_c5 rfl v_stop_c5 rfl hc_169) (zrm_ok (by decide)) rfl rfl (by first | decide | simp [Value.category]) dX7_readFact_169 (cs2 := (0, 0)) rfl ?_
            refine zb_S (S2 := ((va_up (va_up I 33 (va_up (va_up (va_up (va_up (va_up (va_up (va_up (I 33) 4 v_size_c5) 6 v_kind_c6) 7 v_at_c6) 8 v_stop_c6) 9 v_open_c5) 10 v_fault_c5) 11 v_faultAt_c5)) 35 v_code_c5), J, Rr, D)) (zS_eq ((zcgV ((zcgF ((zcgF (zn6 (by decide : (11 : Nat) ≠ 6) (by decide : (10 : Nat) ≠ 6) (by decide : (9 : Nat) ≠ 6) (by decide : (8 : Nat) ≠ 6) (by decide : (7 : Nat) ≠ 6))).trans (zn5 (by decide : (11 : Nat) ≠ 7) (by decide : (10 : Nat) ≠ 7) (by decide : (9 : Nat) ≠ 7) (by decide : (8 : Nat) ≠ 7)))).trans (zn4 (by decide : (11 : Nat) ≠ 8) (by decide : (10 : Nat) ≠ 8) (by decide : (9 : Nat) ≠ 8)))).trans (zn2 (by decide : (35 : Nat) ≠ 33))) rfl) ?_
            refine zb_if_eq E dX7_readFact_172 (tgt := 180) rfl (fun hc => ?_) (fun hc => ?_)
            · have h := if_t h hc
              refine zb_aload_n E dX7_readFact_180 1 rfl rfl ?_
              refine zb_bipush E dX7_readFact_181 (v := 62) rfl ?_
              obtain ⟨rc7, v_at_c7, v_kind_c7, v_stop_c7, hc_183, h⟩ := bd4_s h
              refine zb_cVi E [.int 62] 33 zy_X7_takeMark zw_771 (by decide) (zF_33 _ _ _ _) rfl (c_X7_takeMark (va_up (va_up (va_up (va_up (va_up (va_up (va_up (I 33) 4 v_size_c5) 6 v_kind_c6) 7 v_at_c6) 8 v_stop_c6) 9 v_open_c5) 10 v_fault_c5) 11 v_faultAt_c5) rfl v_length (by exact e_v_length) v_tape (by exact e_v_tape) v_at_c6 rfl v_kind_c6 rfl v_stop_c6 rfl hc_183) (zrm_ok (by decide)) rfl rfl (by first | decide | simp [Value.category]) dX7_readFact_183 (cs2 := (0, 0)) rfl ?_
              refine zb_S (S2 := ((va_up (va_up I 33 (va_up (va_up (va_up (va_up (va_up (va_up (va_up (I 33) 4 v_size_c5) 6 v_kind_c7) 7 v_at_c7) 8 v_stop_c7) 9 v_open_c5) 10 v_fault_c5) 11 v_faultAt_c5)) 35 v_code_c5), J, Rr, D)) (zS_eq ((zcgV ((zcgF ((zcgF (zn6 (by decide : (11 : Nat) ≠ 6) (by decide : (10 : Nat) ≠ 6) (by decide : (9 : Nat) ≠ 6) (by decide : (8 : Nat) ≠ 6) (by decide : (7 : Nat) ≠ 6))).trans (zn5 (by decide : (11 : Nat) ≠ 7) (by decide : (10 : Nat) ≠ 7) (by decide : (9 : Nat) ≠ 7) (by decide : (8 : Nat) ≠ 7)))).trans (zn4 (by decide : (11 : Nat) ≠ 8) (by decide : (10 : Nat) ≠ 8) (by decide : (9 : Nat) ≠ 8)))).trans (zn2 (by decide : (35 : Nat) ≠ 33))) rfl) ?_
              refine zb_if_eq E dX7_readFact_186 (tgt := 194) rfl (fun hc => ?_) (fun hc => ?_)
              · have h := if_t h hc
                refine zb_aload_n E dX7_readFact_194 1 rfl rfl ?_
                refine zb_bipush E dX7_readFact_195 (v := 61) rfl ?_
                obtain ⟨rc8, v_at_c8, v_kind_c8, v_stop_c8, hc_197, h⟩ := bd4_s h
                refine zb_cVi E [.int 61] 33 zy_X7_takeMark zw_771 (by decide) (zF_33 _ _ _ _) rfl (c_X7_takeMark (va_up (va_up (va_up (va_up (va_up (va_up (va_up (I 33) 4 v_size_c5) 6 v_kind_c7) 7 v_at_c7) 8 v_stop_c7) 9 v_open_c5) 10 v_fault_c5) 11 v_faultAt_c5) rfl v_length (by exact e_v_length) v_tape (by exact e_v_tape) v_at_c7 rfl v_kind_c7 rfl v_stop_c7 rfl hc_197) (zrm_ok (by decide)) rfl rfl (by first | decide | simp [Value.category]) dX7_readFact_197 (cs2 := (0, 0)) rfl ?_
                refine zb_S (S2 := ((va_up (va_up I 33 (va_up (va_up (va_up (va_up (va_up (va_up (va_up (I 33) 4 v_size_c5) 6 v_kind_c8) 7 v_at_c8) 8 v_stop_c8) 9 v_open_c5) 10 v_fault_c5) 11 v_faultAt_c5)) 35 v_code_c5), J, Rr, D)) (zS_eq ((zcgV ((zcgF ((zcgF (zn6 (by decide : (11 : Nat) ≠ 6) (by decide : (10 : Nat) ≠ 6) (by decide : (9 : Nat) ≠ 6) (by decide : (8 : Nat) ≠ 6) (by decide : (7 : Nat) ≠ 6))).trans (zn5 (by decide : (11 : Nat) ≠ 7) (by decide : (10 : Nat) ≠ 7) (by decide : (9 : Nat) ≠ 7) (by decide : (8 : Nat) ≠ 7)))).trans (zn4 (by decide : (11 : Nat) ≠ 8) (by decide : (10 : Nat) ≠ 8) (by decide : (9 : Nat) ≠ 8)))).trans (zn2 (by decide : (35 : Nat) ≠ 33))) rfl) ?_
                refine zb_if_eq E dX7_readFact_200 (tgt := 208) rfl (fun hc => ?_) (fun hc => ?_)
                · have h := if_t h hc
                  refine zb_iconst E dX7_readFact_208 (v := 0) rfl ?_
                  refine zb_sub [1] rfl ?_
                  exact c_X7_readFact_b209 N d9 rec v_length e_v_length v_tape e_v_tape hrec rr y_v_at y_v_fault y_v_faultAt y_v_kind y_v_open y_v_size y_v_stop y_v_code E hQ 0 v_at_c8 v_fault_c5 v_faultAt_c5 v_kind_c8 v_open_c5 v_size_c5 v_stop_c8 v_code_c5 h
                · have h := if_f h hc
                  refine zb_bipush E dX7_readFact_203 (v := (-15)) rfl ?_
                  refine zb_goto E dX7_readFact_205 (tgt := 209) rfl ?_
                  refine zb_sub [1] rfl ?_
                  exact c_X7_readFact_b209 N d9 rec v_length e_v_length v_tape e_v_tape hrec rr y_v_at y_v_fault y_v_faultAt y_v_kind y_v_open y_v_size y_v_stop y_v_code E hQ (-15) v_at_c8 v_fault_c5 v_faultAt_c5 v_kind_c8 v_open_c5 v_size_c5 v_stop_c8 v_code_c5 h
              · have h := if_f h hc
                refine zb_bipush E dX7_readFact_189 (v := (-14)) rfl ?_
                refine zb_goto E dX7_readFact_191 (tgt := 209) rfl ?_
                refine zb_sub [1] rfl ?_
                exact c_X7_readFact_b209 N d9 rec v_length e_v_length v_tape e_v_tape hrec rr y_v_at y_v_fault y_v_faultAt y_v_kind y_v_open y_v_size y_v_stop y_v_code E hQ (-14) v_at_c7 v_fault_c5 v_faultAt_c5 v_kind_c7 v_open_c5 v_size_c5 v_stop_c7 v_code_c5 h
            · have h := if_f h hc
              refine zb_bipush E dX7_readFact_175 (v := (-13)) rfl ?_
              refine zb_goto E dX7_readFact_177 (tgt := 209) rfl ?_
              refine zb_sub [1] rfl ?_
              exact c_X7_readFact_b209 N d9 rec v_length e_v_length v_tape e_v_tape hrec rr y_v_at y_v_fault y_v_faultAt y_v_kind y_v_open y_v_size y_v_stop y_v_code E hQ (-13) v_at_c6 v_fault_c5 v_faultAt_c5 v_kind_c6 v_open_c5 v_size_c5 v_stop_c6 v_code_c5 h
          · have h := if_t h hc
            refine zb_iconst E dX7_readFact_164 (v := 0) rfl ?_
            obtain ⟨rfl, rfl, rfl, rfl, rfl, rfl, rfl, rfl, rfl⟩ := zinj9 h
            exact zb_zret E hQ (ty := .boolean) rfl rfl ⟨Nat.zero_le _, Nat.zero_le _⟩ dX7_readFact_165
        · have h := if_f h hc
          refine zb_aload_n E dX7_readFact_121 1 rfl rfl ?_
          refine zb_iconst E dX7_readFact_122 (v := 0) rfl ?_
          refine zb_bipush E dX7_readFact_123 (v := 7) rfl ?_
          obtain ⟨rc9, v_at_c9, v_fault_c9, v_faultAt_c9, v_kind_c9, v_stop_c9, hc_125, h⟩ := bd6_s h
          refine zb_cVi E [.int 0, .int 7] 33 zy_X7_readNumber zw_752 (by decide) (zF_33 _ _ _ _) rfl (c_X7_readNumber (va_up (va_up (va_up (va_up (va_up (va_up (va_up (I 33) 4 v_size) 6 v_kind_c4) 7 v_at_c4) 8 v_stop_c4) 9 v_open) 10 v_fault) 11 v_faultAt) rfl v_length (by exact e_v_length) v_tape (by exact e_v_tape) v_at_c4 rfl v_fault rfl v_faultAt rfl v_kind_c4 rfl v_stop_c4 rfl hc_125) (zrm_ok (by decide)) rfl rfl (by first | decide | simp [Value.category]) dX7_readFact_125 (cs2 := (0, 0)) rfl ?_
          refine zb_S (S2 := ((va_up (va_up I 33 (va_up (va_up (va_up (va_up (va_up (va_up (va_up (I 33) 4 v_size) 6 v_kind_c9) 7 v_at_c9) 8 v_stop_c9) 9 v_open) 10 v_fault_c9) 11 v_faultAt_c9)) 35 v_code), J, Rr, D)) (zS_eq ((zcgV ((zcgF ((zcgF ((zcgF ((zcgF (zn6 (by decide : (11 : Nat) ≠ 6) (by decide : (10 : Nat) ≠ 6) (by decide : (9 : Nat) ≠ 6) (by decide : (8 : Nat) ≠ 6) (by decide : (7 : Nat) ≠ 6))).trans (zn5 (by decide : (11 : Nat) ≠ 7) (by decide : (10 : Nat) ≠ 7) (by decide : (9 : Nat) ≠ 7) (by decide : (8 : Nat) ≠ 7)))).trans (zn4 (by decide : (11 : Nat) ≠ 8) (by decide : (10 : Nat) ≠ 8) (by decide : (9 : Nat) ≠ 8)))).trans (zn2 (by decide : (11 : Nat) ≠ 10)))).trans zn1)).trans (zn2 (by decide : (35 : Nat) ≠ 33))) rfl) ?_
          refine zb_istore_n E dX7_readFact_128 rfl (by decide) (lv2 := [(2, .int rc9), (1, .int v_at), (0, .ref (C.X.1 + 33))]) rfl ?_
          refine zb_iload_n E dX7_readFact_129 0 rfl rfl ?_
          refine zb_iconst E dX7_readFact_130 (v := (-1)) rfl ?_
          refine zb_icmp_eq E dX7_readFact_131 (tgt := 155) rfl (fun hc => ?_) (fun hc => ?_)
          · have h := if_t h hc
            refine zb_iconst E dX7_readFact_155 (v := 0) rfl ?_
            obtain ⟨rfl, rfl, rfl, rfl, rfl, rfl, rfl, rfl, rfl⟩ := zinj9 h
            exact zb_zret E hQ (ty := .boolean) rfl rfl ⟨Nat.zero_le _, Nat.zero_le _⟩ dX7_readFact_156
          · have h := if_f h hc
            refine zb_aload_n E dX7_readFact_134 2 rfl rfl ?_
            refine zb_iload_n E dX7_readFact_135 0 rfl rfl ?_
            obtain ⟨rc10, v_fault_c10, v_faultAt_c10, v_size_c10, v_code_c10, hc_136, h⟩ := bd5_s h
            refine zb_cVi E [.int rc9] 33 zy_X7_emit zw_767 (by decide) (zF_33 _ _ _ _) rfl (c_X7_emit (va_up (va_up (va_up (va_up (va_up (va_up (va_up (I 33) 4 v_size) 6 v_kind_c9) 7 v_at_c9) 8 v_stop_c9) 9 v_open) 10 v_fault_c9) 11 v_faultAt_c9) rfl v_at_c9 rfl v_fault_c9 rfl v_faultAt_c9 rfl v_size rfl v_code rfl hc_136) (zrm_ok (by decide)) rfl rfl (by first | decide | simp [Value.category]) dX7_readFact_136 (cs2 := (0, 0)) rfl ?_
            refine zb_S (S2 := ((va_up (va_up I 33 (va_up (va_up (va_up (va_up (va_up (va_up (va_up (I 33) 4 v_size_c10) 6 v_kind_c9) 7 v_at_c9) 8 v_stop_c9) 9 v_open) 10 v_fault_c10) 11 v_faultAt_c10)) 35 v_code_c10), J, Rr, D)) (zS_eq ((zcgF ((zcgV ((zcgF ((zcgF (zn7 (by decide : (11 : Nat) ≠ 4) (by decide : (10 : Nat) ≠ 4) (by decide : (9 : Nat) ≠ 4) (by decide : (8 : Nat) ≠ 4) (by decide : (7 : Nat) ≠ 4) (by decide : (6 : Nat) ≠ 4))).trans (zn2 (by decide : (11 : Nat) ≠ 10)))).trans zn1)).trans (zn2 (by decide : (35 : Nat) ≠ 33)))).trans zn1) rfl) ?_
            refine zb_if_eq E dX7_readFact_139 (tgt := 155) rfl (fun hc => ?_) (fun hc => ?_)
            · have h := if_t h hc
              refine zb_iconst E dX7_readFact_155 (v := 0) rfl ?_
              obtain ⟨rfl, rfl, rfl, rfl, rfl, rfl, rfl, rfl, rfl⟩ := zinj9 h
              exact zb_zret E hQ (ty := .boolean) rfl rfl ⟨Nat.zero_le _, Nat.zero_le _⟩ dX7_readFact_156
            · have h := if_f h hc
              refine zb_aload_n E dX7_readFact_142 2 rfl rfl ?_
              refine zb_bipush E dX7_readFact_143 (v := (-6)) rfl ?_
              obtain ⟨rc11, v_fault_c11, v_faultAt_c11, v_size_c11, v_code_c11, hc_145, h⟩ := bd5_s h
              refine zb_cVi E [.int (-6)] 33 zy_X7_emit zw_767 (by decide) (zF_33 _ _ _ _) rfl (c_X7_emit (va_up (va_up (va_up (va_up (va_up (va_up (va_up (I 33) 4 v_size_c10) 6 v_kind_c9) 7 v_at_c9) 8 v_stop_c9) 9 v_open) 10 v_fault_c10) 11 v_faultAt_c10) rfl v_at_c9 rfl v_fault_c10 rfl v_faultAt_c10 rfl v_size_c10 rfl v_code_c10 rfl hc_145) (zrm_ok (by decide)) rfl rfl (by first | decide | simp [Value.category]) dX7_readFact_145 (cs2 := (0, 0)) rfl ?_
              refine zb_S (S2 := ((va_up (va_up I 33 (va_up (va_up (va_up (va_up (va_up (va_up (va_up (I 33) 4 v_size_c11) 6 v_kind_c9) 7 v_at_c9) 8 v_stop_c9) 9 v_open) 10 v_fault_c11) 11 v_faultAt_c11)) 35 v_code_c11), J, Rr, D)) (zS_eq ((zcgF ((zcgV ((zcgF ((zcgF (zn7 (by decide : (11 : Nat) ≠ 4) (by decide : (10 : Nat) ≠ 4) (by decide : (9 : Nat) ≠ 4) (by decide : (8 : Nat) ≠ 4) (by decide : (7 : Nat) ≠ 4) (by decide : (6 : Nat) ≠ 4))).trans (zn2 (by decide : (11 : Nat) ≠ 10)))).trans zn1)).trans (zn2 (by decide : (35 : Nat) ≠ 33)))).trans zn1) rfl) ?_
              refine zb_if_eq E dX7_readFact_148 (tgt := 155) rfl (fun hc => ?_) (fun hc => ?_)
              · have h := if_t h hc
                refine zb_iconst E dX7_readFact_155 (v := 0) rfl ?_
                obtain ⟨rfl, rfl, rfl, rfl, rfl, rfl, rfl, rfl, rfl⟩ := zinj9 h
                exact zb_zret E hQ (ty := .boolean) rfl rfl ⟨Nat.zero_le _, Nat.zero_le _⟩ dX7_readFact_156
              · have h := if_f h hc
                refine zb_iconst E dX7_readFact_151 (v := 1) rfl ?_
                refine zb_goto E dX7_readFact_152 (tgt := 156) rfl ?_
                obtain ⟨rfl, rfl, rfl, rfl, rfl, rfl, rfl, rfl, rfl⟩ := zinj9 h
                exact zb_zret E hQ (ty := .boolean) rfl rfl ⟨Nat.zero_le _, Nat.zero_le _⟩ dX7_readFact_156
      · have h := if_f h hc
        refine zb_aload_n E dX7_readFact_106 1 rfl rfl ?_
        refine zb_iconst E dX7_readFact_107 (v := 1) rfl ?_
        obtain ⟨rc12, v_fault_c12, v_faultAt_c12, v_size_c12, v_code_c12, hc_108, h⟩ := bd5_s h
        refine zb_cVi E [.int 1] 33 zy_X7_emit zw_767 (by decide) (zF_33 _ _ _ _) rfl (c_X7_emit (va_up (va_up (va_up (va_up (va_up (va_up (va_up (I 33) 4 v_size) 6 v_kind_c3) 7 v_at_c3) 8 v_stop_c3) 9 v_open) 10 v_fault) 11 v_faultAt) rfl v_at_c3 rfl v_fault rfl v_faultAt rfl v_size rfl v_code rfl hc_108) (zrm_ok (by decide)) rfl rfl (by first | decide | simp [Value.category]) dX7_readFact_108 (cs2 := (0, 0)) rfl ?_
        refine zb_S (S2 := ((va_up (va_up I 33 (va_up (va_up (va_up (va_up (va_up (va_up (va_up (I 33) 4 v_size_c12) 6 v_kind_c3) 7 v_at_c3) 8 v_stop_c3) 9 v_open) 10 v_fault_c12) 11 v_faultAt_c12)) 35 v_code_c12), J, Rr, D)) (zS_eq ((zcgF ((zcgV ((zcgF ((zcgF (zn7 (by decide : (11 : Nat) ≠ 4) (by decide : (10 : Nat) ≠ 4) (by decide : (9 : Nat) ≠ 4) (by decide : (8 : Nat) ≠ 4) (by decide : (7 : Nat) ≠ 4) (by decide : (6 : Nat) ≠ 4))).trans (zn2 (by decide : (11 : Nat) ≠ 10)))).trans zn1)).trans (zn2 (by decide : (35 : Nat) ≠ 33)))).trans zn1) rfl) ?_
        obtain ⟨gB, h⟩ := gd_s h
        obtain ⟨rfl, rfl, rfl, rfl, rfl, rfl, rfl, rfl, rfl⟩ := zinj9 h
        exact zb_zret E hQ (ty := .boolean) rfl (isB_n gB) ⟨Nat.zero_le _, Nat.zero_le _⟩ dX7_readFact_111
    · have h := if_f h hc
      refine zb_aload_n E dX7_readFact_60 1 rfl rfl ?_
      refine zb_iload_n E dX7_readFact_61 0 rfl rfl ?_
      obtain ⟨rc13, v_fault_c13, v_faultAt_c13, v_open_c13, hc_62, h⟩ := bd4_s h
      refine zb_cVi E [.int v_at] 33 zy_X7_opens zw_775 (by decide) (zF_33 _ _ _ _) rfl (c_X7_opens (va_up (va_up (va_up (va_up (va_up (va_up (va_up (I 33) 4 v_size) 6 v_kind_c2) 7 v_at_c2) 8 v_stop_c2) 9 v_open) 10 v_fault) 11 v_faultAt) rfl v_fault rfl v_faultAt rfl v_open rfl hc_62) (zrm_ok (by decide)) rfl rfl (by first | decide | simp [Value.category]) dX7_readFact_62 (cs2 := (0, 0)) rfl ?_
      refine zb_S (S2 := ((va_up (va_up I 33 (va_up (va_up (va_up (va_up (va_up (va_up (va_up (I 33) 4 v_size) 6 v_kind_c2) 7 v_at_c2) 8 v_stop_c2) 9 v_open_c13) 10 v_fault_c13) 11 v_faultAt_c13)) 35 v_code), J, Rr, D)) (zS_eq ((zcgV ((zcgF ((zcgF (zn3 (by decide : (11 : Nat) ≠ 9) (by decide : (10 : Nat) ≠ 9))).trans (zn2 (by decide : (11 : Nat) ≠ 10)))).trans zn1)).trans (zn2 (by decide : (35 : Nat) ≠ 33))) rfl) ?_
      refine zb_if_eq E dX7_readFact_65 (tgt := 95) rfl (fun hc => ?_) (fun hc => ?_)
      · have h := if_t h hc
        refine zb_iconst E dX7_readFact_95 (v := 0) rfl ?_
        obtain ⟨rfl, rfl, rfl, rfl, rfl, rfl, rfl, rfl, rfl⟩ := zinj9 h
        exact zb_zret E hQ (ty := .boolean) rfl rfl ⟨Nat.zero_le _, Nat.zero_le _⟩ dX7_readFact_96
      · have h := if_f h hc
        refine zb_aload_n E dX7_readFact_68 1 rfl rfl ?_
        obtain ⟨rc14, v_at_c14, v_fault_c14, v_faultAt_c14, v_kind_c14, v_open_c14, v_size_c14, v_stop_c14, v_code_c14, hc_69, h⟩ := bd9_s h
        refine zb_cVi E [] 33 zy_X7_readTest zw_807 (by decide) (zF_33 _ _ _ _) rfl (hrec.2.2 (va_up (va_up (va_up (va_up (va_up (va_up (va_up (I 33) 4 v_size) 6 v_kind_c2) 7 v_at_c2) 8 v_stop_c2) 9 v_open_c13) 10 v_fault_c13) 11 v_faultAt_c13) rfl (by exact e_v_length) (by exact e_v_tape) v_at_c2 rfl v_fault_c13 rfl v_faultAt_c13 rfl v_kind_c2 rfl v_open_c13 rfl v_size rfl v_stop_c2 rfl v_code rfl hc_69) (zrm_rec (by decide)) rfl rfl (by first | decide | simp [Value.category]) dX7_readFact_69 (cs2 := (0, 0)) rfl ?_
        refine zb_S (S2 := ((va_up (va_up I 33 (va_up (va_up (va_up (va_up (va_up (va_up (va_up (I 33) 4 v_size_c14) 6 v_kind_c14) 7 v_at_c14) 8 v_stop_c14) 9 v_open_c14) 10 v_fault_c14) 11 v_faultAt_c14)) 35 v_code_c14), J, Rr, D)) (zS_eq ((zcgF ((zcgV ((zcgF ((zcgF ((zcgF ((zcgF ((zcgF ((zcgF (zn7 (by decide : (11 : Nat) ≠ 4) (by decide : (10 : Nat) ≠ 4) (by decide : (9 : Nat) ≠ 4) (by decide : (8 : Nat) ≠ 4) (by decide : (7 : Nat) ≠ 4) (by decide : (6 : Nat) ≠ 4))).trans (zn6 (by decide : (11 : Nat) ≠ 6) (by decide : (10 : Nat) ≠ 6) (by decide : (9 : Nat) ≠ 6) (by decide : (8 : Nat) ≠ 6) (by decide : (7 : Nat) ≠ 6)))).trans (zn5 (by decide : (11 : Nat) ≠ 7) (by decide : (10 : Nat) ≠ 7) (by decide : (9 : Nat) ≠ 7) (by decide : (8 : Nat) ≠ 7)))).trans (zn4 (by decide : (11 : Nat) ≠ 8) (by decide : (10 : Nat) ≠ 8) (by decide : (9 : Nat) ≠ 8)))).trans (zn3 (by decide : (11 : Nat) ≠ 9) (by decide : (10 : Nat) ≠ 9)))).trans (zn2 (by decide : (11 : Nat) ≠ 10)))).trans zn1)).trans (zn2 (by decide : (35 : Nat) ≠ 33)))).trans zn1) rfl) ?_
        refine zb_if_eq E dX7_readFact_72 (tgt := 95) rfl (fun hc => ?_) (fun hc => ?_)
        · have h := if_t h hc
          refine zb_iconst E dX7_readFact_95 (v := 0) rfl ?_
          obtain ⟨rfl, rfl, rfl, rfl, rfl, rfl, rfl, rfl, rfl⟩ := zinj9 h
          exact zb_zret E hQ (ty := .boolean) rfl rfl ⟨Nat.zero_le _, Nat.zero_le _⟩ dX7_readFact_96
        · have h := if_f h hc
          refine zb_aload_n E dX7_readFact_75 1 rfl rfl ?_
          refine zb_bipush E dX7_readFact_76 (v := 93) rfl ?_
          obtain ⟨rc15, v_at_c15, v_fault_c15, v_faultAt_c15, v_kind_c15, v_stop_c15, hc_78, h⟩ := bd6_s h
          refine zb_cVi E [.int 93] 33 zy_X7_needMark zw_779 (by decide) (zF_33 _ _ _ _) rfl (c_X7_needMark (va_up (va_up (va_up (va_up (va_up (va_up (va_up (I 33) 4 v_size_c14) 6 v_kind_c14) 7 v_at_c14) 8 v_stop_c14) 9 v_open_c14) 10 v_fault_c14) 11 v_faultAt_c14) rfl v_length (by exact e_v_length) v_tape (by exact e_v_tape) v_at_c14 rfl v_fault_c14 rfl v_faultAt_c14 rfl v_kind_c14 rfl v_stop_c14 rfl hc_78) (zrm_ok (by decide)) rfl rfl (by first | decide | simp [Value.category]) dX7_readFact_78 (cs2 := (0, 0)) rfl ?_
          refine zb_S (S2 := ((va_up (va_up I 33 (va_up (va_up (va_up (va_up (va_up (va_up (va_up (I 33) 4 v_size_c14) 6 v_kind_c15) 7 v_at_c15) 8 v_stop_c15) 9 v_open_c14) 10 v_fault_c15) 11 v_faultAt_c15)) 35 v_code_c14), J, Rr, D)) (zS_eq ((zcgV ((zcgF ((zcgF ((zcgF ((zcgF (zn6 (by decide : (11 : Nat) ≠ 6) (by decide : (10 : Nat) ≠ 6) (by decide : (9 : Nat) ≠ 6) (by decide : (8 : Nat) ≠ 6) (by decide : (7 : Nat) ≠ 6))).trans (zn5 (by decide : (11 : Nat) ≠ 7) (by decide : (10 : Nat) ≠ 7) (by decide : (9 : Nat) ≠ 7) (by decide : (8 : Nat) ≠ 7)))).trans (zn4 (by decide : (11 : Nat) ≠ 8) (by decide : (10 : Nat) ≠ 8) (by decide : (9 : Nat) ≠ 8)))).trans (zn2 (by decide : (11 : Nat) ≠ 10)))).trans zn1)).trans (zn2 (by decide : (35 : Nat) ≠ 33))) rfl) ?_
          refine zb_if_eq E dX7_readFact_81 (tgt := 95) rfl (fun hc => ?_) (fun hc => ?_)
          · have h := if_t h hc
            refine zb_iconst E dX7_readFact_95 (v := 0) rfl ?_
            obtain ⟨rfl, rfl, rfl, rfl, rfl, rfl, rfl, rfl, rfl⟩ := zinj9 h
            exact zb_zret E hQ (ty := .boolean) rfl rfl ⟨Nat.zero_le _, Nat.zero_le _⟩ dX7_readFact_96
          · have h := if_f h hc
            refine zb_aload_n E dX7_readFact_84 1 rfl rfl ?_
            obtain ⟨rc16, v_open_c16, hc_85, h⟩ := bd2_s h
            refine zb_cVi E [] 33 zy_X7_closes zw_783 (by decide) (zF_33 _ _ _ _) rfl (c_X7_closes (va_up (va_up (va_up (va_up (va_up (va_up (va_up (I 33) 4 v_size_c14) 6 v_kind_c15) 7 v_at_c15) 8 v_stop_c15) 9 v_open_c14) 10 v_fault_c15) 11 v_faultAt_c15) rfl v_open_c14 rfl hc_85) (zrm_ok (by decide)) rfl rfl (by first | decide | simp [Value.category]) dX7_readFact_85 (cs2 := (0, 0)) rfl ?_
            refine zb_S (S2 := ((va_up (va_up I 33 (va_up (va_up (va_up (va_up (va_up (va_up (va_up (I 33) 4 v_size_c14) 6 v_kind_c15) 7 v_at_c15) 8 v_stop_c15) 9 v_open_c16) 10 v_fault_c15) 11 v_faultAt_c15)) 35 v_code_c14), J, Rr, D)) (zS_eq ((zcgV (zn3 (by decide : (11 : Nat) ≠ 9) (by decide : (10 : Nat) ≠ 9))).trans (zn2 (by decide : (35 : Nat) ≠ 33))) rfl) ?_
            refine zb_if_eq E dX7_readFact_88 (tgt := 95) rfl (fun hc => ?_) (fun hc => ?_)
            · have h := if_t h hc
              refine zb_iconst E dX7_readFact_95 (v := 0) rfl ?_
              obtain ⟨rfl, rfl, rfl, rfl, rfl, rfl, rfl, rfl, rfl⟩ := zinj9 h
              exact zb_zret E hQ (ty := .boolean) rfl rfl ⟨Nat.zero_le _, Nat.zero_le _⟩ dX7_readFact_96
            · have h := if_f h hc
              refine zb_iconst E dX7_readFact_91 (v := 1) rfl ?_
              refine zb_goto E dX7_readFact_92 (tgt := 96) rfl ?_
              obtain ⟨rfl, rfl, rfl, rfl, rfl, rfl, rfl, rfl, rfl⟩ := zinj9 h
              exact zb_zret E hQ (ty := .boolean) rfl rfl ⟨Nat.zero_le _, Nat.zero_le _⟩ dX7_readFact_96
  · have h := if_f h hc
    refine zb_aload_n E dX7_readFact_14 1 rfl rfl ?_
    refine zb_iload_n E dX7_readFact_15 0 rfl rfl ?_
    obtain ⟨rc17, v_fault_c17, v_faultAt_c17, v_open_c17, hc_16, h⟩ := bd4_s h
    refine zb_cVi E [.int v_at] 33 zy_X7_opens zw_775 (by decide) (zF_33 _ _ _ _) rfl (c_X7_opens (va_up (va_up (va_up (va_up (va_up (va_up (va_up (I 33) 4 v_size) 6 v_kind_c1) 7 v_at_c1) 8 v_stop_c1) 9 v_open) 10 v_fault) 11 v_faultAt) rfl v_fault rfl v_faultAt rfl v_open rfl hc_16) (zrm_ok (by decide)) rfl rfl (by first | decide | simp [Value.category]) dX7_readFact_16 (cs2 := (0, 0)) rfl ?_
    refine zb_S (S2 := ((va_up (va_up I 33 (va_up (va_up (va_up (va_up (va_up (va_up (va_up (I 33) 4 v_size) 6 v_kind_c1) 7 v_at_c1) 8 v_stop_c1) 9 v_open_c17) 10 v_fault_c17) 11 v_faultAt_c17)) 35 v_code), J, Rr, D)) (zS_eq ((zcgV ((zcgF ((zcgF (zn3 (by decide : (11 : Nat) ≠ 9) (by decide : (10 : Nat) ≠ 9))).trans (zn2 (by decide : (11 : Nat) ≠ 10)))).trans zn1)).trans (zn2 (by decide : (35 : Nat) ≠ 33))) rfl) ?_
    refine zb_if_eq E dX7_readFact_19 (tgt := 49) rfl (fun hc => ?_) (fun hc => ?_)
    · have h := if_t h hc
      refine zb_iconst E dX7_readFact_49 (v := 0) rfl ?_
      obtain ⟨rfl, rfl, rfl, rfl, rfl, rfl, rfl, rfl, rfl⟩ := zinj9 h
      exact zb_zret E hQ (ty := .boolean) rfl rfl ⟨Nat.zero_le _, Nat.zero_le _⟩ dX7_readFact_50
    · have h := if_f h hc
      refine zb_aload_n E dX7_readFact_22 1 rfl rfl ?_
      obtain ⟨rc18, v_at_c18, v_fault_c18, v_faultAt_c18, v_kind_c18, v_open_c18, v_size_c18, v_stop_c18, v_code_c18, hc_23, h⟩ := bd9_s h
      refine zb_cVi E [] 33 zy_X7_readFact zw_815 (by decide) (zF_33 _ _ _ _) rfl (hrec.2.1 (va_up (va_up (va_up (va_up (va_up (va_up (va_up (I 33) 4 v_size) 6 v_kind_c1) 7 v_at_c1) 8 v_stop_c1) 9 v_open_c17) 10 v_fault_c17) 11 v_faultAt_c17) rfl (by exact e_v_length) (by exact e_v_tape) v_at_c1 rfl v_fault_c17 rfl v_faultAt_c17 rfl v_kind_c1 rfl v_open_c17 rfl v_size rfl v_stop_c1 rfl v_code rfl hc_23) (zrm_rec (by decide)) rfl rfl (by first | decide | simp [Value.category]) dX7_readFact_23 (cs2 := (0, 0)) rfl ?_
      refine zb_S (S2 := ((va_up (va_up I 33 (va_up (va_up (va_up (va_up (va_up (va_up (va_up (I 33) 4 v_size_c18) 6 v_kind_c18) 7 v_at_c18) 8 v_stop_c18) 9 v_open_c18) 10 v_fault_c18) 11 v_faultAt_c18)) 35 v_code_c18), J, Rr, D)) (zS_eq ((zcgF ((zcgV ((zcgF ((zcgF ((zcgF ((zcgF ((zcgF ((zcgF (zn7 (by decide : (11 : Nat) ≠ 4) (by decide : (10 : Nat) ≠ 4) (by decide : (9 : Nat) ≠ 4) (by decide : (8 : Nat) ≠ 4) (by decide : (7 : Nat) ≠ 4) (by decide : (6 : Nat) ≠ 4))).trans (zn6 (by decide : (11 : Nat) ≠ 6) (by decide : (10 : Nat) ≠ 6) (by decide : (9 : Nat) ≠ 6) (by decide : (8 : Nat) ≠ 6) (by decide : (7 : Nat) ≠ 6)))).trans (zn5 (by decide : (11 : Nat) ≠ 7) (by decide : (10 : Nat) ≠ 7) (by decide : (9 : Nat) ≠ 7) (by decide : (8 : Nat) ≠ 7)))).trans (zn4 (by decide : (11 : Nat) ≠ 8) (by decide : (10 : Nat) ≠ 8) (by decide : (9 : Nat) ≠ 8)))).trans (zn3 (by decide : (11 : Nat) ≠ 9) (by decide : (10 : Nat) ≠ 9)))).trans (zn2 (by decide : (11 : Nat) ≠ 10)))).trans zn1)).trans (zn2 (by decide : (35 : Nat) ≠ 33)))).trans zn1) rfl) ?_
      refine zb_if_eq E dX7_readFact_26 (tgt := 49) rfl (fun hc => ?_) (fun hc => ?_)
      · have h := if_t h hc
        refine zb_iconst E dX7_readFact_49 (v := 0) rfl ?_
        obtain ⟨rfl, rfl, rfl, rfl, rfl, rfl, rfl, rfl, rfl⟩ := zinj9 h
        exact zb_zret E hQ (ty := .boolean) rfl rfl ⟨Nat.zero_le _, Nat.zero_le _⟩ dX7_readFact_50
      · have h := if_f h hc
        refine zb_aload_n E dX7_readFact_29 1 rfl rfl ?_
        refine zb_bipush E dX7_readFact_30 (v := (-5)) rfl ?_
        obtain ⟨rc19, v_fault_c19, v_faultAt_c19, v_size_c19, v_code_c19, hc_32, h⟩ := bd5_s h
        refine zb_cVi E [.int (-5)] 33 zy_X7_emit zw_767 (by decide) (zF_33 _ _ _ _) rfl (c_X7_emit (va_up (va_up (va_up (va_up (va_up (va_up (va_up (I 33) 4 v_size_c18) 6 v_kind_c18) 7 v_at_c18) 8 v_stop_c18) 9 v_open_c18) 10 v_fault_c18) 11 v_faultAt_c18) rfl v_at_c18 rfl v_fault_c18 rfl v_faultAt_c18 rfl v_size_c18 rfl v_code_c18 rfl hc_32) (zrm_ok (by decide)) rfl rfl (by first | decide | simp [Value.category]) dX7_readFact_32 (cs2 := (0, 0)) rfl ?_
        refine zb_S (S2 := ((va_up (va_up I 33 (va_up (va_up (va_up (va_up (va_up (va_up (va_up (I 33) 4 v_size_c19) 6 v_kind_c18) 7 v_at_c18) 8 v_stop_c18) 9 v_open_c18) 10 v_fault_c19) 11 v_faultAt_c19)) 35 v_code_c19), J, Rr, D)) (zS_eq ((zcgF ((zcgV ((zcgF ((zcgF (zn7 (by decide : (11 : Nat) ≠ 4) (by decide : (10 : Nat) ≠ 4) (by decide : (9 : Nat) ≠ 4) (by decide : (8 : Nat) ≠ 4) (by decide : (7 : Nat) ≠ 4) (by decide : (6 : Nat) ≠ 4))).trans (zn2 (by decide : (11 : Nat) ≠ 10)))).trans zn1)).trans (zn2 (by decide : (35 : Nat) ≠ 33)))).trans zn1) rfl) ?_
        refine zb_if_eq E dX7_readFact_35 (tgt := 49) rfl (fun hc => ?_) (fun hc => ?_)
        · have h := if_t h hc
          refine zb_iconst E dX7_readFact_49 (v := 0) rfl ?_
          obtain ⟨rfl, rfl, rfl, rfl, rfl, rfl, rfl, rfl, rfl⟩ := zinj9 h
          exact zb_zret E hQ (ty := .boolean) rfl rfl ⟨Nat.zero_le _, Nat.zero_le _⟩ dX7_readFact_50
        · have h := if_f h hc
          refine zb_aload_n E dX7_readFact_38 1 rfl rfl ?_
          obtain ⟨rc20, v_open_c20, hc_39, h⟩ := bd2_s h
          refine zb_cVi E [] 33 zy_X7_closes zw_783 (by decide) (zF_33 _ _ _ _) rfl (c_X7_closes (va_up (va_up (va_up (va_up (va_up (va_up (va_up (I 33) 4 v_size_c19) 6 v_kind_c18) 7 v_at_c18) 8 v_stop_c18) 9 v_open_c18) 10 v_fault_c19) 11 v_faultAt_c19) rfl v_open_c18 rfl hc_39) (zrm_ok (by decide)) rfl rfl (by first | decide | simp [Value.category]) dX7_readFact_39 (cs2 := (0, 0)) rfl ?_
          refine zb_S (S2 := ((va_up (va_up I 33 (va_up (va_up (va_up (va_up (va_up (va_up (va_up (I 33) 4 v_size_c19) 6 v_kind_c18) 7 v_at_c18) 8 v_stop_c18) 9 v_open_c20) 10 v_fault_c19) 11 v_faultAt_c19)) 35 v_code_c19), J, Rr, D)) (zS_eq ((zcgV (zn3 (by decide : (11 : Nat) ≠ 9) (by decide : (10 : Nat) ≠ 9))).trans (zn2 (by decide : (35 : Nat) ≠ 33))) rfl) ?_
          refine zb_if_eq E dX7_readFact_42 (tgt := 49) rfl (fun hc => ?_) (fun hc => ?_)
          · have h := if_t h hc
            refine zb_iconst E dX7_readFact_49 (v := 0) rfl ?_
            obtain ⟨rfl, rfl, rfl, rfl, rfl, rfl, rfl, rfl, rfl⟩ := zinj9 h
            exact zb_zret E hQ (ty := .boolean) rfl rfl ⟨Nat.zero_le _, Nat.zero_le _⟩ dX7_readFact_50
          · have h := if_f h hc
            refine zb_iconst E dX7_readFact_45 (v := 1) rfl ?_
            refine zb_goto E dX7_readFact_46 (tgt := 50) rfl ?_
            obtain ⟨rfl, rfl, rfl, rfl, rfl, rfl, rfl, rfl, rfl⟩ := zinj9 h
            exact zb_zret E hQ (ty := .boolean) rfl rfl ⟨Nat.zero_le _, Nat.zero_le _⟩ dX7_readFact_50
theorem c_X7_readFact_G (N d9 : Nat) (rec : Nat → Int32 → Int32 → Int32 → Int32 → Int32 → Int32 → Int32 → (Nat → Int32) → Option R_pReader_readFact) {l : Launch} {X : zX} {I : Nat → Nat → Int32} {J : Nat → Nat → Int64} {Rr : Nat → Nat → Option Nat} {D : zD} (oI33 : Nat → Int32) (eoI33 : I 33 = oI33) (v_length : Int32) (e_v_length : I 33 3 = v_length) (v_tape : (Nat → Int32)) (e_v_tape : I 34 = v_tape) (v_at : Int32) (e_v_at : I 33 7 = v_at) (v_fault : Int32) (e_v_fault : I 33 10 = v_fault) (v_faultAt : Int32) (e_v_faultAt : I 33 11 = v_faultAt) (v_kind : Int32) (e_v_kind : I 33 6 = v_kind) (v_open : Int32) (e_v_open : I 33 9 = v_open) (v_size : Int32) (e_v_size : I 33 4 = v_size) (v_stop : Int32) (e_v_stop : I 33 8 = v_stop) (v_code : (Nat → Int32)) (e_v_code : I 35 = v_code) {rr : Int32} {y_v_at : Int32} {y_v_fault : Int32} {y_v_faultAt : Int32} {y_v_kind : Int32} {y_v_open : Int32} {y_v_size : Int32} {y_v_stop : Int32} {y_v_code : (Nat → Int32)} (hrec : pG_readBoth_readFact_readTest_H v_length v_tape rec (zrm 343 8550 d9)) (h : pReader_readFact_G N rec v_length v_tape v_at v_fault v_faultAt v_kind v_open v_size v_stop v_code = some (rr, y_v_at, y_v_fault, y_v_faultAt, y_v_kind, y_v_open, y_v_size, y_v_stop, y_v_code)) : zMi l yX7_readFact cX7_readFact 3 (some .boolean) (zrm 343 8550 (d9 + 1)) X [.ref (X.1 + 33)] (I, J, Rr, D) rr ((va_up (va_up I 33 (va_up (va_up (va_up (va_up (va_up (va_up (va_up oI33 4 y_v_size) 6 y_v_kind) 7 y_v_at) 8 y_v_stop) 9 y_v_open) 10 y_v_fault) 11 y_v_faultAt)) 35 y_v_code), J, Rr, D) := by
  subst eoI33
  refine zMi.of (by decide) (Nat.le_of_ble_eq_true rfl) (fun C E hl hX hQ => ?_)
  subst hl
  subst hX
  have eI0 : (va_up (va_up I 33 (va_up (va_up (va_up (va_up (va_up (va_up (va_up (I 33) 4 v_size) 6 v_kind) 7 v_at) 8 v_stop) 9 v_open) 10 v_fault) 11 v_faultAt)) 35 v_code) = I := by rw [zup_idE e_v_size, zup_idE e_v_kind, zup_idE e_v_at, zup_idE e_v_stop, zup_idE e_v_open, zup_idE e_v_fault, zup_idE e_v_faultAt, zup_id, zup_idE e_v_code]
  have eJ0 : J = J := rfl
  refine zb_S (S2 := ((va_up (va_up I 33 (va_up (va_up (va_up (va_up (va_up (va_up (va_up (I 33) 4 v_size) 6 v_kind) 7 v_at) 8 v_stop) 9 v_open) 10 v_fault) 11 v_faultAt)) 35 v_code), J, Rr, D)) (zS_eq eI0.symm eJ0.symm) ?_
  exact c_X7_readFact_0 N d9 rec v_length e_v_length v_tape e_v_tape hrec rr y_v_at y_v_fault y_v_faultAt y_v_kind y_v_open y_v_size y_v_stop y_v_code E hQ v_at v_fault v_faultAt v_kind v_open v_size v_stop v_code h
theorem c_X7_readTest_b7 {C : zC} {I : Nat → Nat → Int32} {J : Nat → Nat → Int64} {Rr : Nat → Nat → Option Nat} {D : zD} (N : Nat) (d9 : Nat) (rec : Nat → Int32 → Int32 → Int32 → Int32 → Int32 → Int32 → Int32 → (Nat → Int32) → Option R_pReader_readTest) (v_length : Int32) (e_v_length : I 33 3 = v_length) (v_tape : (Nat → Int32)) (e_v_tape : I 34 = v_tape) (hrec : pG_readBoth_readFact_readTest_H v_length v_tape rec (zrm 343 8550 d9)) (rr : Int32) (y_v_at : Int32) (y_v_fault : Int32) (y_v_faultAt : Int32) (y_v_kind : Int32) (y_v_open : Int32) (y_v_size : Int32) (y_v_stop : Int32) (y_v_code : (Nat → Int32)) (E : zE C RX7 cX7_readTest 3 (some .boolean) (zrm 343 8550 (d9 + 1))) (hQ : C.Q = zQi C (zrm 343 8550 (d9 + 1)) rr ((va_up (va_up I 33 (va_up (va_up (va_up (va_up (va_up (va_up (va_up (I 33) 4 y_v_size) 6 y_v_kind) 7 y_v_at) 8 y_v_stop) 9 y_v_open) 10 y_v_fault) 11 y_v_faultAt)) 35 y_v_code), J, Rr, D))  : ∀ (n9 : Nat) (x1 : Int32) (x2 : Int32) (v_at : Int32) (v_fault : Int32) (v_faultAt : Int32) (v_kind : Int32) (v_open : Int32) (v_size : Int32) (v_stop : Int32) (v_code : (Nat → Int32)), pReader_readTest_b7 N rec v_length v_tape n9 x1 x2 v_at v_fault v_faultAt v_kind v_open v_size v_stop v_code = some (rr, y_v_at, y_v_fault, y_v_faultAt, y_v_kind, y_v_open, y_v_size, y_v_stop, y_v_code) → zB C (0, 0) 7 [(0, .ref (C.X.1 + 33)), (1, .int x1), (2, .int x2)] [] ((va_up (va_up I 33 (va_up (va_up (va_up (va_up (va_up (va_up (va_up (I 33) 4 v_size) 6 v_kind) 7 v_at) 8 v_stop) 9 v_open) 10 v_fault) 11 v_faultAt)) 35 v_code), J, Rr, D) := by
  refine zlp10_ind (P := fun (x1 : Int32) (x2 : Int32) (v_at : Int32) (v_fault : Int32) (v_faultAt : Int32) (v_kind : Int32) (v_open : Int32) (v_size : Int32) (v_stop : Int32) (v_code : (Nat → Int32)) => zB C (0, 0) 7 [(0, .ref (C.X.1 + 33)), (1, .int x1), (2, .int x2)] [] ((va_up (va_up I 33 (va_up (va_up (va_up (va_up (va_up (va_up (va_up (I 33) 4 v_size) 6 v_kind) 7 v_at) 8 v_stop) 9 v_open) 10 v_fault) 11 v_faultAt)) 35 v_code), J, Rr, D)) (fun self ih => ?_)
  intro x1 x2 v_at v_fault v_faultAt v_kind v_open v_size v_stop v_code h
  refine zb_iload_n E dX7_readTest_7 2 rfl rfl ?_
  refine zb_sipush E dX7_readTest_8 (v := 600) rfl ?_
  refine zb_icmp_ge E dX7_readTest_11 (tgt := 55) rfl (fun hc => ?_) (fun hc => ?_)
  · have h := if_t h hc
    refine zb_iload_n E dX7_readTest_55 1 rfl rfl ?_
    obtain ⟨gB, h⟩ := gd_s h
    obtain ⟨rfl, rfl, rfl, rfl, rfl, rfl, rfl, rfl, rfl⟩ := zinj9 h
    exact zb_zret E hQ (ty := .boolean) rfl (isB_n gB) ⟨Nat.zero_le _, Nat.zero_le _⟩ dX7_readTest_56
  · have h := if_f h hc
    refine zb_iload_n E dX7_readTest_14 1 rfl rfl ?_
    refine zb_if_eq E dX7_readTest_15 (tgt := 55) rfl (fun hc => ?_) (fun hc => ?_)
    · have h := if_t h hc
      refine zb_iload_n E dX7_readTest_55 1 rfl rfl ?_
      obtain ⟨gB, h⟩ := gd_s h
      obtain ⟨rfl, rfl, rfl, rfl, rfl, rfl, rfl, rfl, rfl⟩ := zinj9 h
      exact zb_zret E hQ (ty := .boolean) rfl (isB_n gB) ⟨Nat.zero_le _, Nat.zero_le _⟩ dX7_readTest_56
    · have h := if_f h hc
      refine zb_aload_n E dX7_readTest_18 0 rfl rfl ?_
      refine zb_ldcS E rfl zJ_20 dX7_readTest_19 ?_
      obtain ⟨rc2, v_at_c2, v_kind_c2, v_stop_c2, hc_21, h⟩ := bd4_s h
      refine zb_cVi E [.ref (C.X.2.2.2.2.1 20)] 33 zy_X7_takeWord zw_687 (by decide) (zF_33 _ _ _ _) rfl (c_X7_takeWord (by decide) (va_up (va_up (va_up (va_up (va_up (va_up (va_up (I 33) 4 v_size) 6 v_kind) 7 v_at) 8 v_stop) 9 v_open) 10 v_fault) 11 v_faultAt) rfl v_length (by exact e_v_length) v_tape (by exact e_v_tape) v_at rfl v_kind rfl v_stop rfl hc_21) (zrm_ok (by decide)) rfl rfl (by first | decide | simp [Value.category]) dX7_readTest_21 (cs2 := (0, 0)) rfl ?_
      refine zb_S (S2 := ((va_up (va_up I 33 (va_up (va_up (va_up (va_up (va_up (va_up (va_up (I 33) 4 v_size) 6 v_kind_c2) 7 v_at_c2) 8 v_stop_c2) 9 v_open) 10 v_fault) 11 v_faultAt)) 35 v_code), J, Rr, D)) (zS_eq ((zcgV ((zcgF ((zcgF (zn6 (by decide : (11 : Nat) ≠ 6) (by decide : (10 : Nat) ≠ 6) (by decide : (9 : Nat) ≠ 6) (by decide : (8 : Nat) ≠ 6) (by decide : (7 : Nat) ≠ 6))).trans (zn5 (by decide : (11 : Nat) ≠ 7) (by decide : (10 : Nat) ≠ 7) (by decide : (9 : Nat) ≠ 7) (by decide : (8 : Nat) ≠ 7)))).trans (zn4 (by decide : (11 : Nat) ≠ 8) (by decide : (10 : Nat) ≠ 8) (by decide : (9 : Nat) ≠ 8)))).trans (zn2 (by decide : (35 : Nat) ≠ 33))) rfl) ?_
      refine zb_if_eq E dX7_readTest_24 (tgt := 55) rfl (fun hc => ?_) (fun hc => ?_)
      · have h := if_t h hc
        refine zb_iload_n E dX7_readTest_55 1 rfl rfl ?_
        obtain ⟨gB, h⟩ := gd_s h
        obtain ⟨rfl, rfl, rfl, rfl, rfl, rfl, rfl, rfl, rfl⟩ := zinj9 h
        exact zb_zret E hQ (ty := .boolean) rfl (isB_n gB) ⟨Nat.zero_le _, Nat.zero_le _⟩ dX7_readTest_56
      · have h := if_f h hc
        refine zb_aload_n E dX7_readTest_27 0 rfl rfl ?_
        obtain ⟨rc3, v_at_c3, v_fault_c3, v_faultAt_c3, v_kind_c3, v_open_c3, v_size_c3, v_stop_c3, v_code_c3, hc_28, h⟩ := bd9_s h
        refine zb_cVi E [] 33 zy_X7_readBoth zw_811 (by decide) (zF_33 _ _ _ _) rfl (hrec.1 (va_up (va_up (va_up (va_up (va_up (va_up (va_up (I 33) 4 v_size) 6 v_kind_c2) 7 v_at_c2) 8 v_stop_c2) 9 v_open) 10 v_fault) 11 v_faultAt) rfl (by exact e_v_length) (by exact e_v_tape) v_at_c2 rfl v_fault rfl v_faultAt rfl v_kind_c2 rfl v_open rfl v_size rfl v_stop_c2 rfl v_code rfl hc_28) (zrm_rec (by decide)) rfl rfl (by first | decide | simp [Value.category]) dX7_readTest_28 (cs2 := (0, 0)) rfl ?_
        refine zb_S (S2 := ((va_up (va_up I 33 (va_up (va_up (va_up (va_up (va_up (va_up (va_up (I 33) 4 v_size_c3) 6 v_kind_c3) 7 v_at_c3) 8 v_stop_c3) 9 v_open_c3) 10 v_fault_c3) 11 v_faultAt_c3)) 35 v_code_c3), J, Rr, D)) (zS_eq ((zcgF ((zcgV ((zcgF ((zcgF ((zcgF ((zcgF ((zcgF ((zcgF (zn7 (by decide : (11 : Nat) ≠ 4) (by decide : (10 : Nat) ≠ 4) (by decide : (9 : Nat) ≠ 4) (by decide : (8 : Nat) ≠ 4) (by decide : (7 : Nat) ≠ 4) (by decide : (6 : Nat) ≠ 4))).trans (zn6 (by decide : (11 : Nat) ≠ 6) (by decide : (10 : Nat) ≠ 6) (by decide : (9 : Nat) ≠ 6) (by decide : (8 : Nat) ≠ 6) (by decide : (7 : Nat) ≠ 6)))).trans (zn5 (by decide : (11 : Nat) ≠ 7) (by decide : (10 : Nat) ≠ 7) (by decide : (9 : Nat) ≠ 7) (by decide : (8 : Nat) ≠ 7)))).trans (zn4 (by decide : (11 : Nat) ≠ 8) (by decide : (10 : Nat) ≠ 8) (by decide : (9 : Nat) ≠ 8)))).trans (zn3 (by decide : (11 : Nat) ≠ 9) (by decide : (10 : Nat) ≠ 9)))).trans (zn2 (by decide : (11 : Nat) ≠ 10)))).trans zn1)).trans (zn2 (by decide : (35 : Nat) ≠ 33)))).trans zn1) rfl) ?_
        refine zb_if_eq E dX7_readTest_31 (tgt := 47) rfl (fun hc => ?_) (fun hc => ?_)
        · have h := if_t h hc
          refine zb_iconst E dX7_readTest_47 (v := 0) rfl ?_
          refine zb_istore_n E dX7_readTest_48 rfl (by decide) (lv2 := [(1, .int 0), (0, .ref (C.X.1 + 33)), (2, .int x2)]) rfl ?_
          refine zb_iinc E dX7_readTest_49 2 rfl (v := (x2 + 1)) rfl (by decide) (lv2 := [(2, .int (x2 + 1)), (1, .int 0), (0, .ref (C.X.1 + 33))]) rfl ?_
          refine zb_goto E dX7_readTest_52 (tgt := 7) rfl ?_
          refine zb_sub [2, 1, 0] rfl ?_
          exact ih 0 (x2 + 1) v_at_c3 v_fault_c3 v_faultAt_c3 v_kind_c3 v_open_c3 v_size_c3 v_stop_c3 v_code_c3 h
        · have h := if_f h hc
          refine zb_aload_n E dX7_readTest_34 0 rfl rfl ?_
          refine zb_bipush E dX7_readTest_35 (v := (-17)) rfl ?_
          obtain ⟨rc4, v_fault_c4, v_faultAt_c4, v_size_c4, v_code_c4, hc_37, h⟩ := bd5_s h
          refine zb_cVi E [.int (-17)] 33 zy_X7_emit zw_767 (by decide) (zF_33 _ _ _ _) rfl (c_X7_emit (va_up (va_up (va_up (va_up (va_up (va_up (va_up (I 33) 4 v_size_c3) 6 v_kind_c3) 7 v_at_c3) 8 v_stop_c3) 9 v_open_c3) 10 v_fault_c3) 11 v_faultAt_c3) rfl v_at_c3 rfl v_fault_c3 rfl v_faultAt_c3 rfl v_size_c3 rfl v_code_c3 rfl hc_37) (zrm_ok (by decide)) rfl rfl (by first | decide | simp [Value.category]) dX7_readTest_37 (cs2 := (0, 0)) rfl ?_
          refine zb_S (S2 := ((va_up (va_up I 33 (va_up (va_up (va_up (va_up (va_up (va_up (va_up (I 33) 4 v_size_c4) 6 v_kind_c3) 7 v_at_c3) 8 v_stop_c3) 9 v_open_c3) 10 v_fault_c4) 11 v_faultAt_c4)) 35 v_code_c4), J, Rr, D)) (zS_eq ((zcgF ((zcgV ((zcgF ((zcgF (zn7 (by decide : (11 : Nat) ≠ 4) (by decide : (10 : Nat) ≠ 4) (by decide : (9 : Nat) ≠ 4) (by decide : (8 : Nat) ≠ 4) (by decide : (7 : Nat) ≠ 4) (by decide : (6 : Nat) ≠ 4))).trans (zn2 (by decide : (11 : Nat) ≠ 10)))).trans zn1)).trans (zn2 (by decide : (35 : Nat) ≠ 33)))).trans zn1) rfl) ?_
          refine zb_if_eq E dX7_readTest_40 (tgt := 47) rfl (fun hc => ?_) (fun hc => ?_)
          · have h := if_t h hc
            refine zb_iconst E dX7_readTest_47 (v := 0) rfl ?_
            refine zb_istore_n E dX7_readTest_48 rfl (by decide) (lv2 := [(1, .int 0), (0, .ref (C.X.1 + 33)), (2, .int x2)]) rfl ?_
            refine zb_iinc E dX7_readTest_49 2 rfl (v := (x2 + 1)) rfl (by decide) (lv2 := [(2, .int (x2 + 1)), (1, .int 0), (0, .ref (C.X.1 + 33))]) rfl ?_
            refine zb_goto E dX7_readTest_52 (tgt := 7) rfl ?_
            refine zb_sub [2, 1, 0] rfl ?_
            exact ih 0 (x2 + 1) v_at_c3 v_fault_c4 v_faultAt_c4 v_kind_c3 v_open_c3 v_size_c4 v_stop_c3 v_code_c4 h
          · have h := if_f h hc
            refine zb_iconst E dX7_readTest_43 (v := 1) rfl ?_
            refine zb_goto E dX7_readTest_44 (tgt := 48) rfl ?_
            refine zb_istore_n E dX7_readTest_48 rfl (by decide) (lv2 := [(1, .int 1), (0, .ref (C.X.1 + 33)), (2, .int x2)]) rfl ?_
            refine zb_iinc E dX7_readTest_49 2 rfl (v := (x2 + 1)) rfl (by decide) (lv2 := [(2, .int (x2 + 1)), (1, .int 1), (0, .ref (C.X.1 + 33))]) rfl ?_
            refine zb_goto E dX7_readTest_52 (tgt := 7) rfl ?_
            refine zb_sub [2, 1, 0] rfl ?_
            exact ih 1 (x2 + 1) v_at_c3 v_fault_c4 v_faultAt_c4 v_kind_c3 v_open_c3 v_size_c4 v_stop_c3 v_code_c4 h
theorem c_X7_readTest_0 {C : zC} {I : Nat → Nat → Int32} {J : Nat → Nat → Int64} {Rr : Nat → Nat → Option Nat} {D : zD} (N : Nat) (d9 : Nat) (rec : Nat → Int32 → Int32 → Int32 → Int32 → Int32 → Int32 → Int32 → (Nat → Int32) → Option R_pReader_readTest) (v_length : Int32) (e_v_length : I 33 3 = v_length) (v_tape : (Nat → Int32)) (e_v_tape : I 34 = v_tape) (hrec : pG_readBoth_readFact_readTest_H v_length v_tape rec (zrm 343 8550 d9)) (rr : Int32) (y_v_at : Int32) (y_v_fault : Int32) (y_v_faultAt : Int32) (y_v_kind : Int32) (y_v_open : Int32) (y_v_size : Int32) (y_v_stop : Int32) (y_v_code : (Nat → Int32)) (E : zE C RX7 cX7_readTest 3 (some .boolean) (zrm 343 8550 (d9 + 1))) (hQ : C.Q = zQi C (zrm 343 8550 (d9 + 1)) rr ((va_up (va_up I 33 (va_up (va_up (va_up (va_up (va_up (va_up (va_up (I 33) 4 y_v_size) 6 y_v_kind) 7 y_v_at) 8 y_v_stop) 9 y_v_open) 10 y_v_fault) 11 y_v_faultAt)) 35 y_v_code), J, Rr, D)) (v_at : Int32) (v_fault : Int32) (v_faultAt : Int32) (v_kind : Int32) (v_open : Int32) (v_size : Int32) (v_stop : Int32) (v_code : (Nat → Int32)) (h : pReader_readTest_G N rec v_length v_tape v_at v_fault v_faultAt v_kind v_open v_size v_stop v_code = some (rr, y_v_at, y_v_fault, y_v_faultAt, y_v_kind, y_v_open, y_v_size, y_v_stop, y_v_code)) : zB C (0, 0) 0 [(0, .ref (C.X.1 + 33))] [] ((va_up (va_up I 33 (va_up (va_up (va_up (va_up (va_up (va_up (va_up (I 33) 4 v_size) 6 v_kind) 7 v_at) 8 v_stop) 9 v_open) 10 v_fault) 11 v_faultAt)) 35 v_code), J, Rr, D) := by
  refine zb_aload_n E dX7_readTest_0 0 rfl rfl ?_
  obtain ⟨rc1, v_at_c1, v_fault_c1, v_faultAt_c1, v_kind_c1, v_open_c1, v_size_c1, v_stop_c1, v_code_c1, hc_1, h⟩ := bd9_s h
  refine zb_cVi E [] 33 zy_X7_readBoth zw_811 (by decide) (zF_33 _ _ _ _) rfl (hrec.1 (va_up (va_up (va_up (va_up (va_up (va_up (va_up (I 33) 4 v_size) 6 v_kind) 7 v_at) 8 v_stop) 9 v_open) 10 v_fault) 11 v_faultAt) rfl (by exact e_v_length) (by exact e_v_tape) v_at rfl v_fault rfl v_faultAt rfl v_kind rfl v_open rfl v_size rfl v_stop rfl v_code rfl hc_1) (zrm_rec (by decide)) rfl rfl (by first | decide | simp [Value.category]) dX7_readTest_1 (cs2 := (0, 0)) rfl ?_
  refine zb_S (S2 := ((va_up (va_up I 33 (va_up (va_up (va_up (va_up (va_up (va_up (va_up (I 33) 4 v_size_c1) 6 v_kind_c1) 7 v_at_c1) 8 v_stop_c1) 9 v_open_c1) 10 v_fault_c1) 11 v_faultAt_c1)) 35 v_code_c1), J, Rr, D)) (zS_eq ((zcgF ((zcgV ((zcgF ((zcgF ((zcgF ((zcgF ((zcgF ((zcgF (zn7 (by decide : (11 : Nat) ≠ 4) (by decide : (10 : Nat) ≠ 4) (by decide : (9 : Nat) ≠ 4) (by decide : (8 : Nat) ≠ 4) (by decide : (7 : Nat) ≠ 4) (by decide : (6 : Nat) ≠ 4))).trans (zn6 (by decide : (11 : Nat) ≠ 6) (by decide : (10 : Nat) ≠ 6) (by decide : (9 : Nat) ≠ 6) (by decide : (8 : Nat) ≠ 6) (by decide : (7 : Nat) ≠ 6)))).trans (zn5 (by decide : (11 : Nat) ≠ 7) (by decide : (10 : Nat) ≠ 7) (by decide : (9 : Nat) ≠ 7) (by decide : (8 : Nat) ≠ 7)))).trans (zn4 (by decide : (11 : Nat) ≠ 8) (by decide : (10 : Nat) ≠ 8) (by decide : (9 : Nat) ≠ 8)))).trans (zn3 (by decide : (11 : Nat) ≠ 9) (by decide : (10 : Nat) ≠ 9)))).trans (zn2 (by decide : (11 : Nat) ≠ 10)))).trans zn1)).trans (zn2 (by decide : (35 : Nat) ≠ 33)))).trans zn1) rfl) ?_
  refine zb_istore_n E dX7_readTest_4 rfl (by decide) (lv2 := [(1, .int rc1), (0, .ref (C.X.1 + 33))]) rfl ?_
  refine zb_iconst E dX7_readTest_5 (v := 0) rfl ?_
  refine zb_istore_n E dX7_readTest_6 rfl (by decide) (lv2 := [(2, .int 0), (1, .int rc1), (0, .ref (C.X.1 + 33))]) rfl ?_
  refine zb_sub [2, 1, 0] rfl ?_
  exact c_X7_readTest_b7 N d9 rec v_length e_v_length v_tape e_v_tape hrec rr y_v_at y_v_fault y_v_faultAt y_v_kind y_v_open y_v_size y_v_stop y_v_code E hQ _ rc1 0 v_at_c1 v_fault_c1 v_faultAt_c1 v_kind_c1 v_open_c1 v_size_c1 v_stop_c1 v_code_c1 h
theorem c_X7_readTest_G (N d9 : Nat) (rec : Nat → Int32 → Int32 → Int32 → Int32 → Int32 → Int32 → Int32 → (Nat → Int32) → Option R_pReader_readTest) {l : Launch} {X : zX} {I : Nat → Nat → Int32} {J : Nat → Nat → Int64} {Rr : Nat → Nat → Option Nat} {D : zD} (oI33 : Nat → Int32) (eoI33 : I 33 = oI33) (v_length : Int32) (e_v_length : I 33 3 = v_length) (v_tape : (Nat → Int32)) (e_v_tape : I 34 = v_tape) (v_at : Int32) (e_v_at : I 33 7 = v_at) (v_fault : Int32) (e_v_fault : I 33 10 = v_fault) (v_faultAt : Int32) (e_v_faultAt : I 33 11 = v_faultAt) (v_kind : Int32) (e_v_kind : I 33 6 = v_kind) (v_open : Int32) (e_v_open : I 33 9 = v_open) (v_size : Int32) (e_v_size : I 33 4 = v_size) (v_stop : Int32) (e_v_stop : I 33 8 = v_stop) (v_code : (Nat → Int32)) (e_v_code : I 35 = v_code) {rr : Int32} {y_v_at : Int32} {y_v_fault : Int32} {y_v_faultAt : Int32} {y_v_kind : Int32} {y_v_open : Int32} {y_v_size : Int32} {y_v_stop : Int32} {y_v_code : (Nat → Int32)} (hrec : pG_readBoth_readFact_readTest_H v_length v_tape rec (zrm 343 8550 d9)) (h : pReader_readTest_G N rec v_length v_tape v_at v_fault v_faultAt v_kind v_open v_size v_stop v_code = some (rr, y_v_at, y_v_fault, y_v_faultAt, y_v_kind, y_v_open, y_v_size, y_v_stop, y_v_code)) : zMi l yX7_readTest cX7_readTest 3 (some .boolean) (zrm 343 8550 (d9 + 1)) X [.ref (X.1 + 33)] (I, J, Rr, D) rr ((va_up (va_up I 33 (va_up (va_up (va_up (va_up (va_up (va_up (va_up oI33 4 y_v_size) 6 y_v_kind) 7 y_v_at) 8 y_v_stop) 9 y_v_open) 10 y_v_fault) 11 y_v_faultAt)) 35 y_v_code), J, Rr, D) := by
  subst eoI33
  refine zMi.of (by decide) (Nat.le_of_ble_eq_true rfl) (fun C E hl hX hQ => ?_)
  subst hl
  subst hX
  have eI0 : (va_up (va_up I 33 (va_up (va_up (va_up (va_up (va_up (va_up (va_up (I 33) 4 v_size) 6 v_kind) 7 v_at) 8 v_stop) 9 v_open) 10 v_fault) 11 v_faultAt)) 35 v_code) = I := by rw [zup_idE e_v_size, zup_idE e_v_kind, zup_idE e_v_at, zup_idE e_v_stop, zup_idE e_v_open, zup_idE e_v_fault, zup_idE e_v_faultAt, zup_id, zup_idE e_v_code]
  have eJ0 : J = J := rfl
  refine zb_S (S2 := ((va_up (va_up I 33 (va_up (va_up (va_up (va_up (va_up (va_up (va_up (I 33) 4 v_size) 6 v_kind) 7 v_at) 8 v_stop) 9 v_open) 10 v_fault) 11 v_faultAt)) 35 v_code), J, Rr, D)) (zS_eq eI0.symm eJ0.symm) ?_
  exact c_X7_readTest_0 N d9 rec v_length e_v_length v_tape e_v_tape hrec rr y_v_at y_v_fault y_v_faultAt y_v_kind y_v_open y_v_size y_v_stop y_v_code E hQ v_at v_fault v_faultAt v_kind v_open v_size v_stop v_code h
theorem pG_readBoth_readFact_readTest_all (N : Nat) (v_length : Int32) (v_tape : (Nat → Int32)) : ∀ d9 : Nat, pG_readBoth_readFact_readTest_H v_length v_tape (pG_readBoth_readFact_readTest N v_length v_tape d9) (zrm 343 8550 d9) := by
  intro d9
  induction d9 with
  | zero =>
    refine ⟨?_, ?_, ?_⟩
    · intro l X I J Rr D oI33 eoI33 e_v_length e_v_tape v_at e_v_at v_fault e_v_fault v_faultAt e_v_faultAt v_kind e_v_kind v_open e_v_open v_size e_v_size v_stop e_v_stop v_code e_v_code rr y_v_at y_v_fault y_v_faultAt y_v_kind y_v_open y_v_size y_v_stop y_v_code h
      exact nomatch (show (none : Option R_pReader_readBoth) = some _ from h)
    · intro l X I J Rr D oI33 eoI33 e_v_length e_v_tape v_at e_v_at v_fault e_v_fault v_faultAt e_v_faultAt v_kind e_v_kind v_open e_v_open v_size e_v_size v_stop e_v_stop v_code e_v_code rr y_v_at y_v_fault y_v_faultAt y_v_kind y_v_open y_v_size y_v_stop y_v_code h
      exact nomatch (show (none : Option R_pReader_readFact) = some _ from h)
    · intro l X I J Rr D oI33 eoI33 e_v_length e_v_tape v_at e_v_at v_fault e_v_fault v_faultAt e_v_faultAt v_kind e_v_kind v_open e_v_open v_size e_v_size v_stop e_v_stop v_code e_v_code rr y_v_at y_v_fault y_v_faultAt y_v_kind y_v_open y_v_size y_v_stop y_v_code h
      exact nomatch (show (none : Option R_pReader_readTest) = some _ from h)
  | succ d9 ih =>
    refine ⟨?_, ?_, ?_⟩
    · intro l X I J Rr D oI33 eoI33 e_v_length e_v_tape v_at e_v_at v_fault e_v_fault v_faultAt e_v_faultAt v_kind e_v_kind v_open e_v_open v_size e_v_size v_stop e_v_stop v_code e_v_code rr y_v_at y_v_fault y_v_faultAt y_v_kind y_v_open y_v_size y_v_stop y_v_code h
      exact c_X7_readBoth_G N d9 (pG_readBoth_readFact_readTest N v_length v_tape d9) oI33 eoI33 v_length e_v_length v_tape e_v_tape v_at e_v_at v_fault e_v_fault v_faultAt e_v_faultAt v_kind e_v_kind v_open e_v_open v_size e_v_size v_stop e_v_stop v_code e_v_code ih h
    · intro l X I J Rr D oI33 eoI33 e_v_length e_v_tape v_at e_v_at v_fault e_v_fault v_faultAt e_v_faultAt v_kind e_v_kind v_open e_v_open v_size e_v_size v_stop e_v_stop v_code e_v_code rr y_v_at y_v_fault y_v_faultAt y_v_kind y_v_open y_v_size y_v_stop y_v_code h
      exact c_X7_readFact_G N d9 (pG_readBoth_readFact_readTest N v_length v_tape d9) oI33 eoI33 v_length e_v_length v_tape e_v_tape v_at e_v_at v_fault e_v_fault v_faultAt e_v_faultAt v_kind e_v_kind v_open e_v_open v_size e_v_size v_stop e_v_stop v_code e_v_code ih h
    · intro l X I J Rr D oI33 eoI33 e_v_length e_v_tape v_at e_v_at v_fault e_v_fault v_faultAt e_v_faultAt v_kind e_v_kind v_open e_v_open v_size e_v_size v_stop e_v_stop v_code e_v_code rr y_v_at y_v_fault y_v_faultAt y_v_kind y_v_open y_v_size y_v_stop y_v_code h
      exact c_X7_readTest_G N d9 (pG_readBoth_readFact_readTest N v_length v_tape d9) oI33 eoI33 v_length e_v_length v_tape e_v_tape v_at e_v_at v_fault e_v_fault v_faultAt e_v_faultAt v_kind e_v_kind v_open e_v_open v_size e_v_size v_stop e_v_stop v_code e_v_code ih h
theorem c_X7_readBoth {N : Nat} {l : Launch} {X : zX} {I : Nat → Nat → Int32} {J : Nat → Nat → Int64} {Rr : Nat → Nat → Option Nat} {D : zD} (oI33 : Nat → Int32) (eoI33 : I 33 = oI33) (v_length : Int32) (e_v_length : I 33 3 = v_length) (v_tape : (Nat → Int32)) (e_v_tape : I 34 = v_tape) (v_at : Int32) (e_v_at : I 33 7 = v_at) (v_fault : Int32) (e_v_fault : I 33 10 = v_fault) (v_faultAt : Int32) (e_v_faultAt : I 33 11 = v_faultAt) (v_kind : Int32) (e_v_kind : I 33 6 = v_kind) (v_open : Int32) (e_v_open : I 33 9 = v_open) (v_size : Int32) (e_v_size : I 33 4 = v_size) (v_stop : Int32) (e_v_stop : I 33 8 = v_stop) (v_code : (Nat → Int32)) (e_v_code : I 35 = v_code) {rr : Int32} {y_v_at : Int32} {y_v_fault : Int32} {y_v_faultAt : Int32} {y_v_kind : Int32} {y_v_open : Int32} {y_v_size : Int32} {y_v_stop : Int32} {y_v_code : (Nat → Int32)} (h : pReader_readBoth N v_at v_fault v_faultAt v_kind v_length v_open v_size v_stop v_code v_tape = some (rr, y_v_at, y_v_fault, y_v_faultAt, y_v_kind, y_v_open, y_v_size, y_v_stop, y_v_code)) : zMi l yX7_readBoth cX7_readBoth 3 (some .boolean) ({ frames := 663, cells := 0, slots := 0, locals := 16550 } : Room) X [.ref (X.1 + 33)] (I, J, Rr, D) rr ((va_up (va_up I 33 (va_up (va_up (va_up (va_up (va_up (va_up (va_up oI33 4 y_v_size) 6 y_v_kind) 7 y_v_at) 8 y_v_stop) 9 y_v_open) 10 y_v_fault) 11 y_v_faultAt)) 35 y_v_code), J, Rr, D) := (pG_readBoth_readFact_readTest_all N v_length v_tape 40).1 oI33 eoI33 e_v_length e_v_tape v_at e_v_at v_fault e_v_fault v_faultAt e_v_faultAt v_kind e_v_kind v_open e_v_open v_size e_v_size v_stop e_v_stop v_code e_v_code h
theorem c_X7_readFact {N : Nat} {l : Launch} {X : zX} {I : Nat → Nat → Int32} {J : Nat → Nat → Int64} {Rr : Nat → Nat → Option Nat} {D : zD} (oI33 : Nat → Int32) (eoI33 : I 33 = oI33) (v_length : Int32) (e_v_length : I 33 3 = v_length) (v_tape : (Nat → Int32)) (e_v_tape : I 34 = v_tape) (v_at : Int32) (e_v_at : I 33 7 = v_at) (v_fault : Int32) (e_v_fault : I 33 10 = v_fault) (v_faultAt : Int32) (e_v_faultAt : I 33 11 = v_faultAt) (v_kind : Int32) (e_v_kind : I 33 6 = v_kind) (v_open : Int32) (e_v_open : I 33 9 = v_open) (v_size : Int32) (e_v_size : I 33 4 = v_size) (v_stop : Int32) (e_v_stop : I 33 8 = v_stop) (v_code : (Nat → Int32)) (e_v_code : I 35 = v_code) {rr : Int32} {y_v_at : Int32} {y_v_fault : Int32} {y_v_faultAt : Int32} {y_v_kind : Int32} {y_v_open : Int32} {y_v_size : Int32} {y_v_stop : Int32} {y_v_code : (Nat → Int32)} (h : pReader_readFact N v_at v_fault v_faultAt v_kind v_length v_open v_size v_stop v_code v_tape = some (rr, y_v_at, y_v_fault, y_v_faultAt, y_v_kind, y_v_open, y_v_size, y_v_stop, y_v_code)) : zMi l yX7_readFact cX7_readFact 3 (some .boolean) ({ frames := 663, cells := 0, slots := 0, locals := 16550 } : Room) X [.ref (X.1 + 33)] (I, J, Rr, D) rr ((va_up (va_up I 33 (va_up (va_up (va_up (va_up (va_up (va_up (va_up oI33 4 y_v_size) 6 y_v_kind) 7 y_v_at) 8 y_v_stop) 9 y_v_open) 10 y_v_fault) 11 y_v_faultAt)) 35 y_v_code), J, Rr, D) := (pG_readBoth_readFact_readTest_all N v_length v_tape 40).2.1 oI33 eoI33 e_v_length e_v_tape v_at e_v_at v_fault e_v_fault v_faultAt e_v_faultAt v_kind e_v_kind v_open e_v_open v_size e_v_size v_stop e_v_stop v_code e_v_code h
theorem c_X7_readTest {N : Nat} {l : Launch} {X : zX} {I : Nat → Nat → Int32} {J : Nat → Nat → Int64} {Rr : Nat → Nat → Option Nat} {D : zD} (oI33 : Nat → Int32) (eoI33 : I 33 = oI33) (v_length : Int32) (e_v_length : I 33 3 = v_length) (v_tape : (Nat → Int32)) (e_v_tape : I 34 = v_tape) (v_at : Int32) (e_v_at : I 33 7 = v_at) (v_fault : Int32) (e_v_fault : I 33 10 = v_fault) (v_faultAt : Int32) (e_v_faultAt : I 33 11 = v_faultAt) (v_kind : Int32) (e_v_kind : I 33 6 = v_kind) (v_open : Int32) (e_v_open : I 33 9 = v_open) (v_size : Int32) (e_v_size : I 33 4 = v_size) (v_stop : Int32) (e_v_stop : I 33 8 = v_stop) (v_code : (Nat → Int32)) (e_v_code : I 35 = v_code) {rr : Int32} {y_v_at : Int32} {y_v_fault : Int32} {y_v_faultAt : Int32} {y_v_kind : Int32} {y_v_open : Int32} {y_v_size : Int32} {y_v_stop : Int32} {y_v_code : (Nat → Int32)} (h : pReader_readTest N v_at v_fault v_faultAt v_kind v_length v_open v_size v_stop v_code v_tape = some (rr, y_v_at, y_v_fault, y_v_faultAt, y_v_kind, y_v_open, y_v_size, y_v_stop, y_v_code)) : zMi l yX7_readTest cX7_readTest 3 (some .boolean) ({ frames := 663, cells := 0, slots := 0, locals := 16550 } : Room) X [.ref (X.1 + 33)] (I, J, Rr, D) rr ((va_up (va_up I 33 (va_up (va_up (va_up (va_up (va_up (va_up (va_up oI33 4 y_v_size) 6 y_v_kind) 7 y_v_at) 8 y_v_stop) 9 y_v_open) 10 y_v_fault) 11 y_v_faultAt)) 35 y_v_code), J, Rr, D) := (pG_readBoth_readFact_readTest_all N v_length v_tape 40).2.2 oI33 eoI33 e_v_length e_v_tape v_at e_v_at v_fault e_v_fault v_faultAt e_v_faultAt v_kind e_v_kind v_open e_v_open v_size e_v_size v_stop e_v_stop v_code e_v_code h
-- ChequeredCloth$Reader.readStatement
theorem dX7_readStatement_0 : decode cX7_readStatement 0 = .ok (.new 19, 3) := by decide +kernel
theorem dX7_readStatement_3 : decode cX7_readStatement 3 = .ok (.dup, 1) := by decide +kernel
theorem dX7_readStatement_4 : decode cX7_readStatement 4 = .ok (.invokespecial 72, 3) := by decide +kernel
theorem dX7_readStatement_7 : decode cX7_readStatement 7 = .ok (.astore_n 1, 1) := by decide +kernel
theorem dX7_readStatement_8 : decode cX7_readStatement 8 = .ok (.aload_n 0, 1) := by decide +kernel
theorem dX7_readStatement_9 : decode cX7_readStatement 9 = .ok (.getfield 21, 3) := by decide +kernel
theorem dX7_readStatement_12 : decode cX7_readStatement 12 = .ok (.aload_n 0, 1) := by decide +kernel
theorem dX7_readStatement_13 : decode cX7_readStatement 13 = .ok (.getfield 38, 3) := by decide +kernel
theorem dX7_readStatement_16 : decode cX7_readStatement 16 = .ok (.aload_n 1, 1) := by decide +kernel
theorem dX7_readStatement_17 : decode cX7_readStatement 17 = .ok (.aastore, 1) := by decide +kernel
theorem dX7_readStatement_18 : decode cX7_readStatement 18 = .ok (.aload_n 1, 1) := by decide +kernel
theorem dX7_readStatement_19 : decode cX7_readStatement 19 = .ok (.aload_n 0, 1) := by decide +kernel
theorem dX7_readStatement_20 : decode cX7_readStatement 20 = .ok (.getfield 35, 3) := by decide +kernel
theorem dX7_readStatement_23 : decode cX7_readStatement 23 = .ok (.putfield 73, 3) := by decide +kernel
theorem dX7_readStatement_26 : decode cX7_readStatement 26 = .ok (.aload_n 0, 1) := by decide +kernel
theorem dX7_readStatement_27 : decode cX7_readStatement 27 = .ok (.aload_n 1, 1) := by decide +kernel
theorem dX7_readStatement_28 : decode cX7_readStatement 28 = .ok (.invokevirtual 76, 3) := by decide +kernel
theorem dX7_readStatement_31 : decode cX7_readStatement 31 = .ok (.istore_n 2, 1) := by decide +kernel
theorem dX7_readStatement_32 : decode cX7_readStatement 32 = .ok (.aload_n 1, 1) := by decide +kernel
theorem dX7_readStatement_33 : decode cX7_readStatement 33 = .ok (.aload_n 0, 1) := by decide +kernel
theorem dX7_readStatement_34 : decode cX7_readStatement 34 = .ok (.getfield 35, 3) := by decide +kernel
theorem dX7_readStatement_37 : decode cX7_readStatement 37 = .ok (.putfield 80, 3) := by decide +kernel
theorem dX7_readStatement_40 : decode cX7_readStatement 40 = .ok (.iload_n 2, 1) := by decide +kernel
theorem dX7_readStatement_41 : decode cX7_readStatement 41 = .ok (.ifCond .eq 23, 3) := by decide +kernel
theorem dX7_readStatement_44 : decode cX7_readStatement 44 = .ok (.aload_n 0, 1) := by decide +kernel
theorem dX7_readStatement_45 : decode cX7_readStatement 45 = .ok (.ldc 83, 2) := by decide +kernel
theorem dX7_readStatement_47 : decode cX7_readStatement 47 = .ok (.invokevirtual 85, 3) := by decide +kernel
theorem dX7_readStatement_50 : decode cX7_readStatement 50 = .ok (.ifCond .eq 14, 3) := by decide +kernel
theorem dX7_readStatement_53 : decode cX7_readStatement 53 = .ok (.aload_n 0, 1) := by decide +kernel
theorem dX7_readStatement_54 : decode cX7_readStatement 54 = .ok (.invokevirtual 89, 3) := by decide +kernel
theorem dX7_readStatement_57 : decode cX7_readStatement 57 = .ok (.ifCond .eq 7, 3) := by decide +kernel
theorem dX7_readStatement_60 : decode cX7_readStatement 60 = .ok (.iconst 1, 1) := by decide +kernel
theorem dX7_readStatement_61 : decode cX7_readStatement 61 = .ok (.goto 4, 3) := by decide +kernel
theorem dX7_readStatement_64 : decode cX7_readStatement 64 = .ok (.iconst 0, 1) := by decide +kernel
theorem dX7_readStatement_65 : decode cX7_readStatement 65 = .ok (.istore_n 2, 1) := by decide +kernel
theorem dX7_readStatement_66 : decode cX7_readStatement 66 = .ok (.aload_n 1, 1) := by decide +kernel
theorem dX7_readStatement_67 : decode cX7_readStatement 67 = .ok (.aload_n 0, 1) := by decide +kernel
theorem dX7_readStatement_68 : decode cX7_readStatement 68 = .ok (.getfield 35, 3) := by decide +kernel
theorem dX7_readStatement_71 : decode cX7_readStatement 71 = .ok (.putfield 92, 3) := by decide +kernel
theorem dX7_readStatement_74 : decode cX7_readStatement 74 = .ok (.iload_n 2, 1) := by decide +kernel
theorem dX7_readStatement_75 : decode cX7_readStatement 75 = .ok (.ifCond .eq 16, 3) := by decide +kernel
theorem dX7_readStatement_78 : decode cX7_readStatement 78 = .ok (.aload_n 0, 1) := by decide +kernel
theorem dX7_readStatement_79 : decode cX7_readStatement 79 = .ok (.bipush 59, 2) := by decide +kernel
theorem dX7_readStatement_81 : decode cX7_readStatement 81 = .ok (.invokevirtual 95, 3) := by decide +kernel
theorem dX7_readStatement_84 : decode cX7_readStatement 84 = .ok (.ifCond .eq 7, 3) := by decide +kernel
theorem dX7_readStatement_87 : decode cX7_readStatement 87 = .ok (.iconst 1, 1) := by decide +kernel
theorem dX7_readStatement_88 : decode cX7_readStatement 88 = .ok (.goto 4, 3) := by decide +kernel
theorem dX7_readStatement_91 : decode cX7_readStatement 91 = .ok (.iconst 0, 1) := by decide +kernel
theorem dX7_readStatement_92 : decode cX7_readStatement 92 = .ok (.ireturn, 1) := by decide +kernel
theorem zy_X7_readStatement : zYv yX7_readStatement cX7_readStatement 3 (some .boolean) 0 := ⟨zw_646, zws_12, zw_6, zw_647, by decide, by decide, by decide⟩
theorem c_X7_readStatement_b65 {C : zC} {I : Nat → Nat → Int32} {J : Nat → Nat → Int64} {Rr : Nat → Nat → Option Nat}  (N : Nat) (v_count : Int32) (e_v_count : I 33 5 = v_count) (v_length : Int32) (e_v_length : I 33 3 = v_length) (v_tape : (Nat → Int32)) (e_v_tape : I 34 = v_tape) (rr : Int32) (y_v_D : Dyn) (y_v_at : Int32) (y_v_fault : Int32) (y_v_faultAt : Int32) (y_v_kind : Int32) (y_v_open : Int32) (y_v_size : Int32) (y_v_stop : Int32) (y_v_code : (Nat → Int32)) (y_v_statements : (Nat → Option Nat)) (E : zE C RX7 cX7_readStatement 3 (some .boolean) ({ frames := 664, cells := 1, slots := 7, locals := 16572 } : Room)) (hQ : C.Q = zQi C ({ frames := 664, cells := 1, slots := 7, locals := 16572 } : Room) rr ((va_up (va_up I 33 (va_up (va_up (va_up (va_up (va_up (va_up (va_up (I 33) 4 y_v_size) 6 y_v_kind) 7 y_v_at) 8 y_v_stop) 9 y_v_open) 10 y_v_fault) 11 y_v_faultAt)) 35 y_v_code), J, (va_up Rr 36 y_v_statements), y_v_D)) (x1 : Nat) (s0 : Int32) (v_D : Dyn) (v_at : Int32) (v_fault : Int32) (v_faultAt : Int32) (v_kind : Int32) (v_open : Int32) (v_size : Int32) (v_stop : Int32) (v_code : (Nat → Int32)) (v_statements : (Nat → Option Nat)) (h : pReader_readStatement_b65 N v_count v_length v_tape x1 s0 v_D v_at v_fault v_faultAt v_kind v_open v_size v_stop v_code v_statements = some (rr, y_v_D, y_v_at, y_v_fault, y_v_faultAt, y_v_kind, y_v_open, y_v_size, y_v_stop, y_v_code, y_v_statements)) : zB C (1, 7) 65 [(0, .ref (C.X.1 + 33)), (1, .ref (C.X.1 + 182 + x1))] [.int s0] ((va_up (va_up I 33 (va_up (va_up (va_up (va_up (va_up (va_up (va_up (I 33) 4 v_size) 6 v_kind) 7 v_at) 8 v_stop) 9 v_open) 10 v_fault) 11 v_faultAt)) 35 v_code), J, (va_up Rr 36 v_statements), v_D) := by
  refine zb_istore_n E dX7_readStatement_65 rfl (by decide) (lv2 := [(2, .int s0), (0, .ref (C.X.1 + 33)), (1, .ref (C.X.1 + 182 + x1))]) rfl ?_
  refine zb_aload_n E dX7_readStatement_66 2 rfl rfl ?_
  refine zb_aload_n E dX7_readStatement_67 1 rfl rfl ?_
  refine zb_getX E 33 (by decide) (zF_33 C.X) rfl zin7 4 (by decide) zw_142 ((zup_n (by decide : (33 : Nat) ≠ 35)).trans zup_s) rfl (v := .int v_size) rfl dX7_readStatement_68 ?_
  obtain ⟨v_D10, hb_v_D10, h⟩ := bd1_s h
  obtain ⟨hy_v_D10, hz_v_D10, hf_v_D10, ho_v_D10, hn_v_D10⟩ := dPI_f (X := C.X) hb_v_D10 (by decide)
  refine zb_dputN E x1 hy_v_D10 hz_v_D10 rfl zin9 6 (by decide) znw_30 tyX9 tyX9_ok nmX9 rfl rfl rfl (D2 := v_D10) hf_v_D10 (zSt_lt (by decide)) ho_v_D10 hn_v_D10 dX7_readStatement_71 ?_
  refine zb_iload_n E dX7_readStatement_74 0 rfl rfl ?_
  refine zb_if_eq E dX7_readStatement_75 (tgt := 91) rfl (fun hc => ?_) (fun hc => ?_)
  · have h := if_t h hc
    refine zb_iconst E dX7_readStatement_91 (v := 0) rfl ?_
    obtain ⟨rfl, rfl, rfl, rfl, rfl, rfl, rfl, rfl, rfl, rfl, rfl⟩ := zinj11 h
    exact zb_zret E hQ (ty := .boolean) rfl rfl ⟨by decide, by decide⟩ dX7_readStatement_92
  · have h := if_f h hc
    refine zb_aload_n E dX7_readStatement_78 1 rfl rfl ?_
    refine zb_bipush E dX7_readStatement_79 (v := 59) rfl ?_
    obtain ⟨rc11, v_at_c11, v_fault_c11, v_faultAt_c11, v_kind_c11, v_stop_c11, hc_81, h⟩ := bd6_s h
    refine zb_cVi E [.int 59] 33 zy_X7_needMark zw_779 (by decide) (zF_33 _ _ _ _) rfl (c_X7_needMark (va_up (va_up (va_up (va_up (va_up (va_up (va_up (I 33) 4 v_size) 6 v_kind) 7 v_at) 8 v_stop) 9 v_open) 10 v_fault) 11 v_faultAt) ((zup_n (by decide : (33 : Nat) ≠ 35)).trans zup_s) v_length (zcf (f := ((va_up (va_up I 33 (va_up (va_up (va_up (va_up (va_up (va_up (va_up (I 33) 4 v_size) 6 v_kind) 7 v_at) 8 v_stop) 9 v_open) 10 v_fault) 11 v_faultAt)) 35 v_code) 33)) ((zup_n (by decide : (33 : Nat) ≠ 35)).trans zup_s) (by exact e_v_length)) v_tape (((zup_n (by decide : (34 : Nat) ≠ 35)).trans (zup_n (by decide : (34 : Nat) ≠ 33))).trans e_v_tape) v_at (zcf (f := ((va_up (va_up I 33 (va_up (va_up (va_up (va_up (va_up (va_up (va_up (I 33) 4 v_size) 6 v_kind) 7 v_at) 8 v_stop) 9 v_open) 10 v_fault) 11 v_faultAt)) 35 v_code) 33)) ((zup_n (by decide : (33 : Nat) ≠ 35)).trans zup_s) rfl) v_fault (zcf (f := ((va_up (va_up I 33 (va_up (va_up (va_up (va_up (va_up (va_up (va_up (I 33) 4 v_size) 6 v_kind) 7 v_at) 8 v_stop) 9 v_open) 10 v_fault) 11 v_faultAt)) 35 v_code) 33)) ((zup_n (by decide : (33 : Nat) ≠ 35)).trans zup_s) rfl) v_faultAt (zcf (f := ((va_up (va_up I 33 (va_up (va_up (va_up (va_up (va_up (va_up (va_up (I 33) 4 v_size) 6 v_kind) 7 v_at) 8 v_stop) 9 v_open) 10 v_fault) 11 v_faultAt)) 35 v_code) 33)) ((zup_n (by decide : (33 : Nat) ≠ 35)).trans zup_s) rfl) v_kind (zcf (f := ((va_up (va_up I 33 (va_up (va_up (va_up (va_up (va_up (va_up (va_up (I 33) 4 v_size) 6 v_kind) 7 v_at) 8 v_stop) 9 v_open) 10 v_fault) 11 v_faultAt)) 35 v_code) 33)) ((zup_n (by decide : (33 : Nat) ≠ 35)).trans zup_s) rfl) v_stop (zcf (f := ((va_up (va_up I 33 (va_up (va_up (va_up (va_up (va_up (va_up (va_up (I 33) 4 v_size) 6 v_kind) 7 v_at) 8 v_stop) 9 v_open) 10 v_fault) 11 v_faultAt)) 35 v_code) 33)) ((zup_n (by decide : (33 : Nat) ≠ 35)).trans zup_s) rfl) hc_81) (by decide) rfl rfl (by first | decide | simp [Value.category, zva_cat]) dX7_readStatement_81 (cs2 := (1, 7)) rfl ?_
    refine zb_S (S2 := ((va_up (va_up I 33 (va_up (va_up (va_up (va_up (va_up (va_up (va_up (I 33) 4 v_size) 6 v_kind_c11) 7 v_at_c11) 8 v_stop_c11) 9 v_open) 10 v_fault_c11) 11 v_faultAt_c11)) 35 v_code), J, (va_up Rr 36 v_statements), v_D10)) (zS_eq3 ((zcgV ((zcgF ((zcgF ((zcgF ((zcgF (zn6 (by decide : (11 : Nat) ≠ 6) (by decide : (10 : Nat) ≠ 6) (by decide : (9 : Nat) ≠ 6) (by decide : (8 : Nat) ≠ 6) (by decide : (7 : Nat) ≠ 6))).trans (zn5 (by decide : (11 : Nat) ≠ 7) (by decide : (10 : Nat) ≠ 7) (by decide : (9 : Nat) ≠ 7) (by decide : (8 : Nat) ≠ 7)))).trans (zn4 (by decide : (11 : Nat) ≠ 8) (by decide : (10 : Nat) ≠ 8) (by decide : (9 : Nat) ≠ 8)))).trans (zn2 (by decide : (11 : Nat) ≠ 10)))).trans zn1)).trans (zn2 (by decide : (35 : Nat) ≠ 33))) rfl rfl) ?_
    refine zb_if_eq E dX7_readStatement_84 (tgt := 91) rfl (fun hc => ?_) (fun hc => ?_)
    · have h := if_t h hc
      refine zb_iconst E dX7_readStatement_91 (v := 0) rfl ?_
      obtain ⟨rfl, rfl, rfl, rfl, rfl, rfl, rfl, rfl, rfl, rfl, rfl⟩ := zinj11 h
      exact zb_zret E hQ (ty := .boolean) rfl rfl ⟨by decide, by decide⟩ dX7_readStatement_92
    · have h := if_f h hc
      refine zb_iconst E dX7_readStatement_87 (v := 1) rfl ?_
      refine zb_goto E dX7_readStatement_88 (tgt := 92) rfl ?_
      obtain ⟨rfl, rfl, rfl, rfl, rfl, rfl, rfl, rfl, rfl, rfl, rfl⟩ := zinj11 h
      exact zb_zret E hQ (ty := .boolean) rfl rfl ⟨by decide, by decide⟩ dX7_readStatement_92
theorem c_X7_readStatement_0 {C : zC} {I : Nat → Nat → Int32} {J : Nat → Nat → Int64} {Rr : Nat → Nat → Option Nat}  (N : Nat) (v_count : Int32) (e_v_count : I 33 5 = v_count) (v_length : Int32) (e_v_length : I 33 3 = v_length) (v_tape : (Nat → Int32)) (e_v_tape : I 34 = v_tape) (rr : Int32) (y_v_D : Dyn) (y_v_at : Int32) (y_v_fault : Int32) (y_v_faultAt : Int32) (y_v_kind : Int32) (y_v_open : Int32) (y_v_size : Int32) (y_v_stop : Int32) (y_v_code : (Nat → Int32)) (y_v_statements : (Nat → Option Nat)) (E : zE C RX7 cX7_readStatement 3 (some .boolean) ({ frames := 664, cells := 1, slots := 7, locals := 16572 } : Room)) (hQ : C.Q = zQi C ({ frames := 664, cells := 1, slots := 7, locals := 16572 } : Room) rr ((va_up (va_up I 33 (va_up (va_up (va_up (va_up (va_up (va_up (va_up (I 33) 4 y_v_size) 6 y_v_kind) 7 y_v_at) 8 y_v_stop) 9 y_v_open) 10 y_v_fault) 11 y_v_faultAt)) 35 y_v_code), J, (va_up Rr 36 y_v_statements), y_v_D)) (v_D : Dyn) (v_at : Int32) (v_fault : Int32) (v_faultAt : Int32) (v_kind : Int32) (v_open : Int32) (v_size : Int32) (v_stop : Int32) (v_code : (Nat → Int32)) (v_statements : (Nat → Option Nat)) (h : pReader_readStatement N v_D v_at v_count v_fault v_faultAt v_kind v_length v_open v_size v_stop v_code v_statements v_tape = some (rr, y_v_D, y_v_at, y_v_fault, y_v_faultAt, y_v_kind, y_v_open, y_v_size, y_v_stop, y_v_code, y_v_statements)) : zB C (0, 0) 0 [(0, .ref (C.X.1 + 33))] [] ((va_up (va_up I 33 (va_up (va_up (va_up (va_up (va_up (va_up (va_up (I 33) 4 v_size) 6 v_kind) 7 v_at) 8 v_stop) 9 v_open) 10 v_fault) 11 v_faultAt)) 35 v_code), J, (va_up Rr 36 v_statements), v_D) := by
  obtain ⟨y1, hb_y1, h⟩ := bd1_s h
  refine zb_dnewS E zw_136 hb_y1 (by decide) dX7_readStatement_0 ?_
  refine zb_dup E dX7_readStatement_3 rfl ?_
  obtain ⟨hc_4, h⟩ := bd0_s h
  refine zb_cINv E [] _ zy_X9_init znw_17 (c_X9_init hc_4) (by decide) rfl rfl (by first | decide | simp [Value.category, zva_cat]) dX7_readStatement_4 (cs2 := (1, 7)) rfl ?_
  refine zb_astore_n E dX7_readStatement_7 rfl (by decide) (lv2 := [(1, .ref (C.X.1 + 182 + y1)), (0, .ref (C.X.1 + 33))]) rfl ?_
  refine zb_aload_n E dX7_readStatement_8 1 rfl rfl ?_
  refine zb_getX E 33 (by decide) (zF_33 C.X) rfl zin7 2 (by decide) zw_140 ((zup_n (by decide : (33 : Nat) ≠ 35)).trans zup_s) rfl (v := .ref (C.X.1 + 36)) rfl dX7_readStatement_9 ?_
  refine zb_aload_n E dX7_readStatement_12 1 rfl rfl ?_
  refine zb_getX E 33 (by decide) (zF_33 C.X) rfl zin7 5 (by decide) zw_143 ((zup_n (by decide : (33 : Nat) ≠ 35)).trans zup_s) rfl (v := .int v_count) (by exact congrArg (fun z => some (Value.int z)) e_v_count) dX7_readStatement_13 ?_
  refine zb_aload_n E dX7_readStatement_16 0 rfl rfl ?_
  obtain ⟨g3, h⟩ := gd_s h
  obtain ⟨g4, h⟩ := gd_s h
  refine zb_rastS E 36 (by decide) zF_36 (f := v_statements) (zup_s) (x := (some y1)) g3 (ib_in g4) dX7_readStatement_17 (R2 := (va_up Rr 36 (va_up v_statements (ix v_count) (some y1)))) zn1 ?_
  refine zb_aload_n E dX7_readStatement_18 0 rfl rfl ?_
  refine zb_aload_n E dX7_readStatement_19 1 rfl rfl ?_
  refine zb_getX E 33 (by decide) (zF_33 C.X) rfl zin7 4 (by decide) zw_142 ((zup_n (by decide : (33 : Nat) ≠ 35)).trans zup_s) rfl (v := .int v_size) rfl dX7_readStatement_20 ?_
  obtain ⟨v_D5, hb_v_D5, h⟩ := bd1_s h
  obtain ⟨hy_v_D5, hz_v_D5, hf_v_D5, ho_v_D5, hn_v_D5⟩ := dPI_f (X := C.X) hb_v_D5 (by decide)
  refine zb_dputN E y1 hy_v_D5 hz_v_D5 rfl zin9 4 (by decide) znw_26 tyX9 tyX9_ok nmX9 rfl rfl rfl (D2 := v_D5) hf_v_D5 (zSt_lt (by decide)) ho_v_D5 hn_v_D5 dX7_readStatement_23 ?_
  refine zb_aload_n E dX7_readStatement_26 1 rfl rfl ?_
  refine zb_aload_n E dX7_readStatement_27 0 rfl rfl ?_
  obtain ⟨rc6, v_D_c6, v_at_c6, v_fault_c6, v_faultAt_c6, v_kind_c6, v_open_c6, v_size_c6, v_stop_c6, v_code_c6, hc_28, h⟩ := bd10_s h
  refine zb_cVi E [.ref (C.X.1 + 182 + y1)] 33 zy_X7_readDuty zw_682 (by decide) (zF_33 _ _ _ _) rfl (c_X7_readDuty (va_up (va_up (va_up (va_up (va_up (va_up (va_up (I 33) 4 v_size) 6 v_kind) 7 v_at) 8 v_stop) 9 v_open) 10 v_fault) 11 v_faultAt) ((zup_n (by decide : (33 : Nat) ≠ 35)).trans zup_s) v_length (zcf (f := ((va_up (va_up I 33 (va_up (va_up (va_up (va_up (va_up (va_up (va_up (I 33) 4 v_size) 6 v_kind) 7 v_at) 8 v_stop) 9 v_open) 10 v_fault) 11 v_faultAt)) 35 v_code) 33)) ((zup_n (by decide : (33 : Nat) ≠ 35)).trans zup_s) (by exact e_v_length)) v_tape (((zup_n (by decide : (34 : Nat) ≠ 35)).trans (zup_n (by decide : (34 : Nat) ≠ 33))).trans e_v_tape) v_at (zcf (f := ((va_up (va_up I 33 (va_up (va_up (va_up (va_up (va_up (va_up (va_up (I 33) 4 v_size) 6 v_kind) 7 v_at) 8 v_stop) 9 v_open) 10 v_fault) 11 v_faultAt)) 35 v_code) 33)) ((zup_n (by decide : (33 : Nat) ≠ 35)).trans zup_s) rfl) v_fault (zcf (f := ((va_up (va_up I 33 (va_up (va_up (va_up (va_up (va_up (va_up (va_up (I 33) 4 v_size) 6 v_kind) 7 v_at) 8 v_stop) 9 v_open) 10 v_fault) 11 v_faultAt)) 35 v_code) 33)) ((zup_n (by decide : (33 : Nat) ≠ 35)).trans zup_s) rfl) v_faultAt (zcf (f := ((va_up (va_up I 33 (va_up (va_up (va_up (va_up (va_up (va_up (va_up (I 33) 4 v_size) 6 v_kind) 7 v_at) 8 v_stop) 9 v_open) 10 v_fault) 11 v_faultAt)) 35 v_code) 33)) ((zup_n (by decide : (33 : Nat) ≠ 35)).trans zup_s) rfl) v_kind (zcf (f := ((va_up (va_up I 33 (va_up (va_up (va_up (va_up (va_up (va_up (va_up (I 33) 4 v_size) 6 v_kind) 7 v_at) 8 v_stop) 9 v_open) 10 v_fault) 11 v_faultAt)) 35 v_code) 33)) ((zup_n (by decide : (33 : Nat) ≠ 35)).trans zup_s) rfl) v_open (zcf (f := ((va_up (va_up I 33 (va_up (va_up (va_up (va_up (va_up (va_up (va_up (I 33) 4 v_size) 6 v_kind) 7 v_at) 8 v_stop) 9 v_open) 10 v_fault) 11 v_faultAt)) 35 v_code) 33)) ((zup_n (by decide : (33 : Nat) ≠ 35)).trans zup_s) rfl) v_size (zcf (f := ((va_up (va_up I 33 (va_up (va_up (va_up (va_up (va_up (va_up (va_up (I 33) 4 v_size) 6 v_kind) 7 v_at) 8 v_stop) 9 v_open) 10 v_fault) 11 v_faultAt)) 35 v_code) 33)) ((zup_n (by decide : (33 : Nat) ≠ 35)).trans zup_s) rfl) v_stop (zcf (f := ((va_up (va_up I 33 (va_up (va_up (va_up (va_up (va_up (va_up (va_up (I 33) 4 v_size) 6 v_kind) 7 v_at) 8 v_stop) 9 v_open) 10 v_fault) 11 v_faultAt)) 35 v_code) 33)) ((zup_n (by decide : (33 : Nat) ≠ 35)).trans zup_s) rfl) v_code zup_s hc_28) (by decide) rfl rfl (by first | decide | simp [Value.category, zva_cat]) dX7_readStatement_28 (cs2 := (1, 7)) rfl ?_
  refine zb_S (S2 := ((va_up (va_up I 33 (va_up (va_up (va_up (va_up (va_up (va_up (va_up (I 33) 4 v_size_c6) 6 v_kind_c6) 7 v_at_c6) 8 v_stop_c6) 9 v_open_c6) 10 v_fault_c6) 11 v_faultAt_c6)) 35 v_code_c6), J, (va_up Rr 36 (va_up v_statements (ix v_count) (some y1))), v_D_c6)) (zS_eq3 ((zcgF ((zcgV ((zcgF ((zcgF ((zcgF ((zcgF ((zcgF ((zcgF (zn7 (by decide : (11 : Nat) ≠ 4) (by decide : (10 : Nat) ≠ 4) (by decide : (9 : Nat) ≠ 4) (by decide : (8 : Nat) ≠ 4) (by decide : (7 : Nat) ≠ 4) (by decide : (6 : Nat) ≠ 4))).trans (zn6 (by decide : (11 : Nat) ≠ 6) (by decide : (10 : Nat) ≠ 6) (by decide : (9 : Nat) ≠ 6) (by decide : (8 : Nat) ≠ 6) (by decide : (7 : Nat) ≠ 6)))).trans (zn5 (by decide : (11 : Nat) ≠ 7) (by decide : (10 : Nat) ≠ 7) (by decide : (9 : Nat) ≠ 7) (by decide : (8 : Nat) ≠ 7)))).trans (zn4 (by decide : (11 : Nat) ≠ 8) (by decide : (10 : Nat) ≠ 8) (by decide : (9 : Nat) ≠ 8)))).trans (zn3 (by decide : (11 : Nat) ≠ 9) (by decide : (10 : Nat) ≠ 9)))).trans (zn2 (by decide : (11 : Nat) ≠ 10)))).trans zn1)).trans (zn2 (by decide : (35 : Nat) ≠ 33)))).trans zn1) rfl rfl) ?_
  refine zb_istore_n E dX7_readStatement_31 rfl (by decide) (lv2 := [(2, .int rc6), (1, .ref (C.X.1 + 182 + y1)), (0, .ref (C.X.1 + 33))]) rfl ?_
  refine zb_aload_n E dX7_readStatement_32 1 rfl rfl ?_
  refine zb_aload_n E dX7_readStatement_33 2 rfl rfl ?_
  refine zb_getX E 33 (by decide) (zF_33 C.X) rfl zin7 4 (by decide) zw_142 ((zup_n (by decide : (33 : Nat) ≠ 35)).trans zup_s) rfl (v := .int v_size_c6) rfl dX7_readStatement_34 ?_
  obtain ⟨v_D7, hb_v_D7, h⟩ := bd1_s h
  obtain ⟨hy_v_D7, hz_v_D7, hf_v_D7, ho_v_D7, hn_v_D7⟩ := dPI_f (X := C.X) hb_v_D7 (by decide)
  refine zb_dputN E y1 hy_v_D7 hz_v_D7 rfl zin9 5 (by decide) znw_28 tyX9 tyX9_ok nmX9 rfl rfl rfl (D2 := v_D7) hf_v_D7 (zSt_lt (by decide)) ho_v_D7 hn_v_D7 dX7_readStatement_37 ?_
  refine zb_iload_n E dX7_readStatement_40 0 rfl rfl ?_
  refine zb_if_eq E dX7_readStatement_41 (tgt := 64) rfl (fun hc => ?_) (fun hc => ?_)
  · have h := if_t h hc
    refine zb_iconst E dX7_readStatement_64 (v := 0) rfl ?_
    refine zb_sub [2, 1] rfl ?_
    exact c_X7_readStatement_b65 N v_count e_v_count v_length e_v_length v_tape e_v_tape rr y_v_D y_v_at y_v_fault y_v_faultAt y_v_kind y_v_open y_v_size y_v_stop y_v_code y_v_statements E hQ y1 0 v_D7 v_at_c6 v_fault_c6 v_faultAt_c6 v_kind_c6 v_open_c6 v_size_c6 v_stop_c6 v_code_c6 (va_up v_statements (ix v_count) (some y1)) h
  · have h := if_f h hc
    refine zb_aload_n E dX7_readStatement_44 2 rfl rfl ?_
    refine zb_ldcS E rfl zJ_15 dX7_readStatement_45 ?_
    obtain ⟨rc8, v_at_c8, v_fault_c8, v_faultAt_c8, v_kind_c8, v_stop_c8, hc_47, h⟩ := bd6_s h
    refine zb_cVi E [.ref (C.X.2.2.2.2.1 15)] 33 zy_X7_needWord zw_801 (by decide) (zF_33 _ _ _ _) rfl (c_X7_needWord (by decide) (va_up (va_up (va_up (va_up (va_up (va_up (va_up (I 33) 4 v_size_c6) 6 v_kind_c6) 7 v_at_c6) 8 v_stop_c6) 9 v_open_c6) 10 v_fault_c6) 11 v_faultAt_c6) ((zup_n (by decide : (33 : Nat) ≠ 35)).trans zup_s) v_length (zcf (f := ((va_up (va_up I 33 (va_up (va_up (va_up (va_up (va_up (va_up (va_up (I 33) 4 v_size_c6) 6 v_kind_c6) 7 v_at_c6) 8 v_stop_c6) 9 v_open_c6) 10 v_fault_c6) 11 v_faultAt_c6)) 35 v_code_c6) 33)) ((zup_n (by decide : (33 : Nat) ≠ 35)).trans zup_s) (by exact e_v_length)) v_tape (((zup_n (by decide : (34 : Nat) ≠ 35)).trans (zup_n (by decide : (34 : Nat) ≠ 33))).trans e_v_tape) v_at_c6 (zcf (f := ((va_up (va_up I 33 (va_up (va_up (va_up (va_up (va_up (va_up (va_up (I 33) 4 v_size_c6) 6 v_kind_c6) 7 v_at_c6) 8 v_stop_c6) 9 v_open_c6) 10 v_fault_c6) 11 v_faultAt_c6)) 35 v_code_c6) 33)) ((zup_n (by decide : (33 : Nat) ≠ 35)).trans zup_s) rfl) v_fault_c6 (zcf (f := ((va_up (va_up I 33 (va_up (va_up (va_up (va_up (va_up (va_up (va_up (I 33) 4 v_size_c6) 6 v_kind_c6) 7 v_at_c6) 8 v_stop_c6) 9 v_open_c6) 10 v_fault_c6) 11 v_faultAt_c6)) 35 v_code_c6) 33)) ((zup_n (by decide : (33 : Nat) ≠ 35)).trans zup_s) rfl) v_faultAt_c6 (zcf (f := ((va_up (va_up I 33 (va_up (va_up (va_up (va_up (va_up (va_up (va_up (I 33) 4 v_size_c6) 6 v_kind_c6) 7 v_at_c6) 8 v_stop_c6) 9 v_open_c6) 10 v_fault_c6) 11 v_faultAt_c6)) 35 v_code_c6) 33)) ((zup_n (by decide : (33 : Nat) ≠ 35)).trans zup_s) rfl) v_kind_c6 (zcf (f := ((va_up (va_up I 33 (va_up (va_up (va_up (va_up (va_up (va_up (va_up (I 33) 4 v_size_c6) 6 v_kind_c6) 7 v_at_c6) 8 v_stop_c6) 9 v_open_c6) 10 v_fault_c6) 11 v_faultAt_c6)) 35 v_code_c6) 33)) ((zup_n (by decide : (33 : Nat) ≠ 35)).trans zup_s) rfl) v_stop_c6 (zcf (f := ((va_up (va_up I 33 (va_up (va_up (va_up (va_up (va_up (va_up (va_up (I 33) 4 v_size_c6) 6 v_kind_c6) 7 v_at_c6) 8 v_stop_c6) 9 v_open_c6) 10 v_fault_c6) 11 v_faultAt_c6)) 35 v_code_c6) 33)) ((zup_n (by decide : (33 : Nat) ≠ 35)).trans zup_s) rfl) hc_47) (by decide) rfl rfl (by first | decide | simp [Value.category, zva_cat]) dX7_readStatement_47 (cs2 := (1, 7)) rfl ?_
    refine zb_S (S2 := ((va_up (va_up I 33 (va_up (va_up (va_up (va_up (va_up (va_up (va_up (I 33) 4 v_size_c6) 6 v_kind_c8) 7 v_at_c8) 8 v_stop_c8) 9 v_open_c6) 10 v_fault_c8) 11 v_faultAt_c8)) 35 v_code_c6), J, (va_up Rr 36 (va_up v_statements (ix v_count) (some y1))), v_D7)) (zS_eq3 ((zcgV ((zcgF ((zcgF ((zcgF ((zcgF (zn6 (by decide : (11 : Nat) ≠ 6) (by decide : (10 : Nat) ≠ 6) (by decide : (9 : Nat) ≠ 6) (by decide : (8 : Nat) ≠ 6) (by decide : (7 : Nat) ≠ 6))).trans (zn5 (by decide : (11 : Nat) ≠ 7) (by decide : (10 : Nat) ≠ 7) (by decide : (9 : Nat) ≠ 7) (by decide : (8 : Nat) ≠ 7)))).trans (zn4 (by decide : (11 : Nat) ≠ 8) (by decide : (10 : Nat) ≠ 8) (by decide : (9 : Nat) ≠ 8)))).trans (zn2 (by decide : (11 : Nat) ≠ 10)))).trans zn1)).trans (zn2 (by decide : (35 : Nat) ≠ 33))) rfl rfl) ?_
    refine zb_if_eq E dX7_readStatement_50 (tgt := 64) rfl (fun hc => ?_) (fun hc => ?_)
    · have h := if_t h hc
      refine zb_iconst E dX7_readStatement_64 (v := 0) rfl ?_
      refine zb_sub [2, 1] rfl ?_
      exact c_X7_readStatement_b65 N v_count e_v_count v_length e_v_length v_tape e_v_tape rr y_v_D y_v_at y_v_fault y_v_faultAt y_v_kind y_v_open y_v_size y_v_stop y_v_code y_v_statements E hQ y1 0 v_D7 v_at_c8 v_fault_c8 v_faultAt_c8 v_kind_c8 v_open_c6 v_size_c6 v_stop_c8 v_code_c6 (va_up v_statements (ix v_count) (some y1)) h
    · have h := if_f h hc
      refine zb_aload_n E dX7_readStatement_53 2 rfl rfl ?_
      obtain ⟨rc9, v_at_c9, v_fault_c9, v_faultAt_c9, v_kind_c9, v_open_c9, v_size_c9, v_stop_c9, v_code_c9, hc_54, h⟩ := bd9_s h
      refine zb_cVi E [] 33 zy_X7_readTest zw_807 (by decide) (zF_33 _ _ _ _) rfl (c_X7_readTest (va_up (va_up (va_up (va_up (va_up (va_up (va_up (I 33) 4 v_size_c6) 6 v_kind_c8) 7 v_at_c8) 8 v_stop_c8) 9 v_open_c6) 10 v_fault_c8) 11 v_faultAt_c8) ((zup_n (by decide : (33 : Nat) ≠ 35)).trans zup_s) v_length (zcf (f := ((va_up (va_up I 33 (va_up (va_up (va_up (va_up (va_up (va_up (va_up (I 33) 4 v_size_c6) 6 v_kind_c8) 7 v_at_c8) 8 v_stop_c8) 9 v_open_c6) 10 v_fault_c8) 11 v_faultAt_c8)) 35 v_code_c6) 33)) ((zup_n (by decide : (33 : Nat) ≠ 35)).trans zup_s) (by exact e_v_length)) v_tape (((zup_n (by decide : (34 : Nat) ≠ 35)).trans (zup_n (by decide : (34 : Nat) ≠ 33))).trans e_v_tape) v_at_c8 (zcf (f := ((va_up (va_up I 33 (va_up (va_up (va_up (va_up (va_up (va_up (va_up (I 33) 4 v_size_c6) 6 v_kind_c8) 7 v_at_c8) 8 v_stop_c8) 9 v_open_c6) 10 v_fault_c8) 11 v_faultAt_c8)) 35 v_code_c6) 33)) ((zup_n (by decide : (33 : Nat) ≠ 35)).trans zup_s) rfl) v_fault_c8 (zcf (f := ((va_up (va_up I 33 (va_up (va_up (va_up (va_up (va_up (va_up (va_up (I 33) 4 v_size_c6) 6 v_kind_c8) 7 v_at_c8) 8 v_stop_c8) 9 v_open_c6) 10 v_fault_c8) 11 v_faultAt_c8)) 35 v_code_c6) 33)) ((zup_n (by decide : (33 : Nat) ≠ 35)).trans zup_s) rfl) v_faultAt_c8 (zcf (f := ((va_up (va_up I 33 (va_up (va_up (va_up (va_up (va_up (va_up (va_up (I 33) 4 v_size_c6) 6 v_kind_c8) 7 v_at_c8) 8 v_stop_c8) 9 v_open_c6) 10 v_fault_c8) 11 v_faultAt_c8)) 35 v_code_c6) 33)) ((zup_n (by decide : (33 : Nat) ≠ 35)).trans zup_s) rfl) v_kind_c8 (zcf (f := ((va_up (va_up I 33 (va_up (va_up (va_up (va_up (va_up (va_up (va_up (I 33) 4 v_size_c6) 6 v_kind_c8) 7 v_at_c8) 8 v_stop_c8) 9 v_open_c6) 10 v_fault_c8) 11 v_faultAt_c8)) 35 v_code_c6) 33)) ((zup_n (by decide : (33 : Nat) ≠ 35)).trans zup_s) rfl) v_open_c6 (zcf (f := ((va_up (va_up I 33 (va_up (va_up (va_up (va_up (va_up (va_up (va_up (I 33) 4 v_size_c6) 6 v_kind_c8) 7 v_at_c8) 8 v_stop_c8) 9 v_open_c6) 10 v_fault_c8) 11 v_faultAt_c8)) 35 v_code_c6) 33)) ((zup_n (by decide : (33 : Nat) ≠ 35)).trans zup_s) rfl) v_size_c6 (zcf (f := ((va_up (va_up I 33 (va_up (va_up (va_up (va_up (va_up (va_up (va_up (I 33) 4 v_size_c6) 6 v_kind_c8) 7 v_at_c8) 8 v_stop_c8) 9 v_open_c6) 10 v_fault_c8) 11 v_faultAt_c8)) 35 v_code_c6) 33)) ((zup_n (by decide : (33 : Nat) ≠ 35)).trans zup_s) rfl) v_stop_c8 (zcf (f := ((va_up (va_up I 33 (va_up (va_up (va_up (va_up (va_up (va_up (va_up (I 33) 4 v_size_c6) 6 v_kind_c8) 7 v_at_c8) 8 v_stop_c8) 9 v_open_c6) 10 v_fault_c8) 11 v_faultAt_c8)) 35 v_code_c6) 33)) ((zup_n (by decide : (33 : Nat) ≠ 35)).trans zup_s) rfl) v_code_c6 zup_s hc_54) (by decide) rfl rfl (by first | decide | simp [Value.category, zva_cat]) dX7_readStatement_54 (cs2 := (1, 7)) rfl ?_
      refine zb_S (S2 := ((va_up (va_up I 33 (va_up (va_up (va_up (va_up (va_up (va_up (va_up (I 33) 4 v_size_c9) 6 v_kind_c9) 7 v_at_c9) 8 v_stop_c9) 9 v_open_c9) 10 v_fault_c9) 11 v_faultAt_c9)) 35 v_code_c9), J, (va_up Rr 36 (va_up v_statements (ix v_count) (some y1))), v_D7)) (zS_eq3 ((zcgF ((zcgV ((zcgF ((zcgF ((zcgF ((zcgF ((zcgF ((zcgF (zn7 (by decide : (11 : Nat) ≠ 4) (by decide : (10 : Nat) ≠ 4) (by decide : (9 : Nat) ≠ 4) (by decide : (8 : Nat) ≠ 4) (by decide : (7 : Nat) ≠ 4) (by decide : (6 : Nat) ≠ 4))).trans (zn6 (by decide : (11 : Nat) ≠ 6) (by decide : (10 : Nat) ≠ 6) (by decide : (9 : Nat) ≠ 6) (by decide : (8 : Nat) ≠ 6) (by decide : (7 : Nat) ≠ 6)))).trans (zn5 (by decide : (11 : Nat) ≠ 7) (by decide : (10 : Nat) ≠ 7) (by decide : (9 : Nat) ≠ 7) (by decide : (8 : Nat) ≠ 7)))).trans (zn4 (by decide : (11 : Nat) ≠ 8) (by decide : (10 : Nat) ≠ 8) (by decide : (9 : Nat) ≠ 8)))).trans (zn3 (by decide : (11 : Nat) ≠ 9) (by decide : (10 : Nat) ≠ 9)))).trans (zn2 (by decide : (11 : Nat) ≠ 10)))).trans zn1)).trans (zn2 (by decide : (35 : Nat) ≠ 33)))).trans zn1) rfl rfl) ?_
      refine zb_if_eq E dX7_readStatement_57 (tgt := 64) rfl (fun hc => ?_) (fun hc => ?_)
      · have h := if_t h hc
        refine zb_iconst E dX7_readStatement_64 (v := 0) rfl ?_
        refine zb_sub [2, 1] rfl ?_
        exact c_X7_readStatement_b65 N v_count e_v_count v_length e_v_length v_tape e_v_tape rr y_v_D y_v_at y_v_fault y_v_faultAt y_v_kind y_v_open y_v_size y_v_stop y_v_code y_v_statements E hQ y1 0 v_D7 v_at_c9 v_fault_c9 v_faultAt_c9 v_kind_c9 v_open_c9 v_size_c9 v_stop_c9 v_code_c9 (va_up v_statements (ix v_count) (some y1)) h
      · have h := if_f h hc
        refine zb_iconst E dX7_readStatement_60 (v := 1) rfl ?_
        refine zb_goto E dX7_readStatement_61 (tgt := 65) rfl ?_
        refine zb_sub [2, 1] rfl ?_
        exact c_X7_readStatement_b65 N v_count e_v_count v_length e_v_length v_tape e_v_tape rr y_v_D y_v_at y_v_fault y_v_faultAt y_v_kind y_v_open y_v_size y_v_stop y_v_code y_v_statements E hQ y1 1 v_D7 v_at_c9 v_fault_c9 v_faultAt_c9 v_kind_c9 v_open_c9 v_size_c9 v_stop_c9 v_code_c9 (va_up v_statements (ix v_count) (some y1)) h
theorem c_X7_readStatement {l : Launch} {X : zX} {I : Nat → Nat → Int32} {J : Nat → Nat → Int64} {Rr : Nat → Nat → Option Nat} {v_D : zD} {N : Nat} (oI33 : Nat → Int32) (eoI33 : I 33 = oI33) (v_count : Int32) (e_v_count : I 33 5 = v_count) (v_length : Int32) (e_v_length : I 33 3 = v_length) (v_tape : (Nat → Int32)) (e_v_tape : I 34 = v_tape) (v_at : Int32) (e_v_at : I 33 7 = v_at) (v_fault : Int32) (e_v_fault : I 33 10 = v_fault) (v_faultAt : Int32) (e_v_faultAt : I 33 11 = v_faultAt) (v_kind : Int32) (e_v_kind : I 33 6 = v_kind) (v_open : Int32) (e_v_open : I 33 9 = v_open) (v_size : Int32) (e_v_size : I 33 4 = v_size) (v_stop : Int32) (e_v_stop : I 33 8 = v_stop) (v_code : (Nat → Int32)) (e_v_code : I 35 = v_code) (v_statements : (Nat → Option Nat)) (e_v_statements : Rr 36 = v_statements) {rr : Int32} {y_v_D : Dyn} {y_v_at : Int32} {y_v_fault : Int32} {y_v_faultAt : Int32} {y_v_kind : Int32} {y_v_open : Int32} {y_v_size : Int32} {y_v_stop : Int32} {y_v_code : (Nat → Int32)} {y_v_statements : (Nat → Option Nat)} (h : pReader_readStatement N v_D v_at v_count v_fault v_faultAt v_kind v_length v_open v_size v_stop v_code v_statements v_tape = some (rr, y_v_D, y_v_at, y_v_fault, y_v_faultAt, y_v_kind, y_v_open, y_v_size, y_v_stop, y_v_code, y_v_statements)) : zMi l yX7_readStatement cX7_readStatement 3 (some .boolean) ({ frames := 664, cells := 1, slots := 7, locals := 16572 } : Room) X [.ref (X.1 + 33)] (I, J, Rr, v_D) rr ((va_up (va_up I 33 (va_up (va_up (va_up (va_up (va_up (va_up (va_up oI33 4 y_v_size) 6 y_v_kind) 7 y_v_at) 8 y_v_stop) 9 y_v_open) 10 y_v_fault) 11 y_v_faultAt)) 35 y_v_code), J, (va_up Rr 36 y_v_statements), y_v_D) := by
  subst eoI33
  refine zMi.of (by decide) (Nat.le_of_ble_eq_true rfl) (fun C E hl hX hQ => ?_)
  subst hl
  subst hX
  have eI0 : (va_up (va_up I 33 (va_up (va_up (va_up (va_up (va_up (va_up (va_up (I 33) 4 v_size) 6 v_kind) 7 v_at) 8 v_stop) 9 v_open) 10 v_fault) 11 v_faultAt)) 35 v_code) = I := by rw [zup_idE e_v_size, zup_idE e_v_kind, zup_idE e_v_at, zup_idE e_v_stop, zup_idE e_v_open, zup_idE e_v_fault, zup_idE e_v_faultAt, zup_id, zup_idE e_v_code]
  have eJ0 : J = J := rfl
  have eR0 : (va_up Rr 36 v_statements) = Rr := by rw [zup_idE e_v_statements]
  refine zb_S (S2 := ((va_up (va_up I 33 (va_up (va_up (va_up (va_up (va_up (va_up (va_up (I 33) 4 v_size) 6 v_kind) 7 v_at) 8 v_stop) 9 v_open) 10 v_fault) 11 v_faultAt)) 35 v_code), J, (va_up Rr 36 v_statements), v_D)) (zS_eq3 eI0.symm eJ0.symm eR0.symm) ?_
  exact c_X7_readStatement_0 N v_count e_v_count v_length e_v_length v_tape e_v_tape rr y_v_D y_v_at y_v_fault y_v_faultAt y_v_kind y_v_open y_v_size y_v_stop y_v_code y_v_statements E hQ v_D v_at v_fault v_faultAt v_kind v_open v_size v_stop v_code v_statements h
-- ChequeredCloth$Reader.read
theorem dX7_read_0 : decode cX7_read 0 = .ok (.aload_n 0, 1) := by decide +kernel
theorem dX7_read_1 : decode cX7_read 1 = .ok (.iconst 0, 1) := by decide +kernel
theorem dX7_read_2 : decode cX7_read 2 = .ok (.putfield 32, 3) := by decide +kernel
theorem dX7_read_5 : decode cX7_read 5 = .ok (.aload_n 0, 1) := by decide +kernel
theorem dX7_read_6 : decode cX7_read 6 = .ok (.iconst (-1), 1) := by decide +kernel
theorem dX7_read_7 : decode cX7_read 7 = .ok (.putfield 25, 3) := by decide +kernel
theorem dX7_read_10 : decode cX7_read 10 = .ok (.aload_n 0, 1) := by decide +kernel
theorem dX7_read_11 : decode cX7_read 11 = .ok (.iconst 0, 1) := by decide +kernel
theorem dX7_read_12 : decode cX7_read 12 = .ok (.putfield 35, 3) := by decide +kernel
theorem dX7_read_15 : decode cX7_read 15 = .ok (.aload_n 0, 1) := by decide +kernel
theorem dX7_read_16 : decode cX7_read 16 = .ok (.iconst 0, 1) := by decide +kernel
theorem dX7_read_17 : decode cX7_read 17 = .ok (.putfield 38, 3) := by decide +kernel
theorem dX7_read_20 : decode cX7_read 20 = .ok (.aload_n 0, 1) := by decide +kernel
theorem dX7_read_21 : decode cX7_read 21 = .ok (.iconst 0, 1) := by decide +kernel
theorem dX7_read_22 : decode cX7_read 22 = .ok (.putfield 41, 3) := by decide +kernel
theorem dX7_read_25 : decode cX7_read 25 = .ok (.aload_n 0, 1) := by decide +kernel
theorem dX7_read_26 : decode cX7_read 26 = .ok (.iconst 3, 1) := by decide +kernel
theorem dX7_read_27 : decode cX7_read 27 = .ok (.putfield 44, 3) := by decide +kernel
theorem dX7_read_30 : decode cX7_read 30 = .ok (.aload_n 0, 1) := by decide +kernel
theorem dX7_read_31 : decode cX7_read 31 = .ok (.iconst 0, 1) := by decide +kernel
theorem dX7_read_32 : decode cX7_read 32 = .ok (.putfield 47, 3) := by decide +kernel
theorem dX7_read_35 : decode cX7_read 35 = .ok (.aload_n 0, 1) := by decide +kernel
theorem dX7_read_36 : decode cX7_read 36 = .ok (.invokevirtual 50, 3) := by decide +kernel
theorem dX7_read_39 : decode cX7_read 39 = .ok (.iconst 1, 1) := by decide +kernel
theorem dX7_read_40 : decode cX7_read 40 = .ok (.istore_n 1, 1) := by decide +kernel
theorem dX7_read_41 : decode cX7_read 41 = .ok (.iload_n 1, 1) := by decide +kernel
theorem dX7_read_42 : decode cX7_read 42 = .ok (.ifCond .eq 37, 3) := by decide +kernel
theorem dX7_read_45 : decode cX7_read 45 = .ok (.aload_n 0, 1) := by decide +kernel
theorem dX7_read_46 : decode cX7_read 46 = .ok (.getfield 44, 3) := by decide +kernel
theorem dX7_read_49 : decode cX7_read 49 = .ok (.ifCond .eq 30, 3) := by decide +kernel
theorem dX7_read_52 : decode cX7_read 52 = .ok (.aload_n 0, 1) := by decide +kernel
theorem dX7_read_53 : decode cX7_read 53 = .ok (.getfield 38, 3) := by decide +kernel
theorem dX7_read_56 : decode cX7_read 56 = .ok (.bipush 24, 2) := by decide +kernel
theorem dX7_read_58 : decode cX7_read 58 = .ok (.if_icmp .ge 21, 3) := by decide +kernel
theorem dX7_read_61 : decode cX7_read 61 = .ok (.aload_n 0, 1) := by decide +kernel
theorem dX7_read_62 : decode cX7_read 62 = .ok (.invokevirtual 53, 3) := by decide +kernel
theorem dX7_read_65 : decode cX7_read 65 = .ok (.istore_n 1, 1) := by decide +kernel
theorem dX7_read_66 : decode cX7_read 66 = .ok (.aload_n 0, 1) := by decide +kernel
theorem dX7_read_67 : decode cX7_read 67 = .ok (.dup, 1) := by decide +kernel
theorem dX7_read_68 : decode cX7_read 68 = .ok (.getfield 38, 3) := by decide +kernel
theorem dX7_read_71 : decode cX7_read 71 = .ok (.iconst 1, 1) := by decide +kernel
theorem dX7_read_72 : decode cX7_read 72 = .ok (.iadd, 1) := by decide +kernel
theorem dX7_read_73 : decode cX7_read 73 = .ok (.putfield 38, 3) := by decide +kernel
theorem dX7_read_76 : decode cX7_read 76 = .ok (.goto (-35), 3) := by decide +kernel
theorem dX7_read_79 : decode cX7_read 79 = .ok (.iload_n 1, 1) := by decide +kernel
theorem dX7_read_80 : decode cX7_read 80 = .ok (.ifCond .eq 20, 3) := by decide +kernel
theorem dX7_read_83 : decode cX7_read 83 = .ok (.aload_n 0, 1) := by decide +kernel
theorem dX7_read_84 : decode cX7_read 84 = .ok (.getfield 44, 3) := by decide +kernel
theorem dX7_read_87 : decode cX7_read 87 = .ok (.ifCond .eq 13, 3) := by decide +kernel
theorem dX7_read_90 : decode cX7_read 90 = .ok (.aload_n 0, 1) := by decide +kernel
theorem dX7_read_91 : decode cX7_read 91 = .ok (.iconst 4, 1) := by decide +kernel
theorem dX7_read_92 : decode cX7_read 92 = .ok (.aload_n 0, 1) := by decide +kernel
theorem dX7_read_93 : decode cX7_read 93 = .ok (.getfield 57, 3) := by decide +kernel
theorem dX7_read_96 : decode cX7_read 96 = .ok (.invokevirtual 60, 3) := by decide +kernel
theorem dX7_read_99 : decode cX7_read 99 = .ok (.istore_n 1, 1) := by decide +kernel
theorem dX7_read_100 : decode cX7_read 100 = .ok (.aload_n 0, 1) := by decide +kernel
theorem dX7_read_101 : decode cX7_read 101 = .ok (.invokevirtual 64, 3) := by decide +kernel
theorem dX7_read_104 : decode cX7_read 104 = .ok (.iload_n 1, 1) := by decide +kernel
theorem dX7_read_105 : decode cX7_read 105 = .ok (.ifCond .eq 29, 3) := by decide +kernel
theorem dX7_read_108 : decode cX7_read 108 = .ok (.new 67, 3) := by decide +kernel
theorem dX7_read_111 : decode cX7_read 111 = .ok (.dup, 1) := by decide +kernel
theorem dX7_read_112 : decode cX7_read 112 = .ok (.aload_n 0, 1) := by decide +kernel
theorem dX7_read_113 : decode cX7_read 113 = .ok (.getfield 21, 3) := by decide +kernel
theorem dX7_read_116 : decode cX7_read 116 = .ok (.aload_n 0, 1) := by decide +kernel
theorem dX7_read_117 : decode cX7_read 117 = .ok (.getfield 38, 3) := by decide +kernel
theorem dX7_read_120 : decode cX7_read 120 = .ok (.aload_n 0, 1) := by decide +kernel
theorem dX7_read_121 : decode cX7_read 121 = .ok (.getfield 15, 3) := by decide +kernel
theorem dX7_read_124 : decode cX7_read 124 = .ok (.aload_n 0, 1) := by decide +kernel
theorem dX7_read_125 : decode cX7_read 125 = .ok (.getfield 35, 3) := by decide +kernel
theorem dX7_read_128 : decode cX7_read 128 = .ok (.invokespecial 69, 3) := by decide +kernel
theorem dX7_read_131 : decode cX7_read 131 = .ok (.goto 4, 3) := by decide +kernel
theorem dX7_read_134 : decode cX7_read 134 = .ok (.aconst_null, 1) := by decide +kernel
theorem dX7_read_135 : decode cX7_read 135 = .ok (.areturn, 1) := by decide +kernel
theorem zy_X7_read : zYv yX7_read cX7_read 2 (Option.some (FieldType.object "ChequeredCloth$Writ")) 0 := ⟨zw_637, zw_638, zw_6, zw_639, by decide, by decide, by decide⟩
theorem c_X7_read_b41 {C : zC} {I : Nat → Nat → Int32} {J : Nat → Nat → Int64} {Rr : Nat → Nat → Option Nat}  (N : Nat) (v_tape : (Nat → Int32)) (e_v_tape : I 34 = v_tape) (rr : (Option Nat)) (y_v_D : Dyn) (y_v_at : Int32) (y_v_count : Int32) (y_v_fault : Int32) (y_v_faultAt : Int32) (y_v_kind : Int32) (y_v_length : Int32) (y_v_open : Int32) (y_v_size : Int32) (y_v_stop : Int32) (y_v_code : (Nat → Int32)) (y_v_statements : (Nat → Option Nat)) (E : zE C RX7 cX7_read 2 (Option.some (FieldType.object "ChequeredCloth$Writ")) ({ frames := 665, cells := 27, slots := 794, locals := 16594 } : Room)) (hQ : C.Q = zQq C ({ frames := 665, cells := 27, slots := 794, locals := 16594 } : Room) (zq C.X rr) ((va_up (va_up I 33 (va_up (va_up (va_up (va_up (va_up (va_up (va_up (va_up (va_up (I 33) 3 y_v_length) 4 y_v_size) 5 y_v_count) 6 y_v_kind) 7 y_v_at) 8 y_v_stop) 9 y_v_open) 10 y_v_fault) 11 y_v_faultAt)) 35 y_v_code), J, (va_up Rr 36 y_v_statements), y_v_D)) (v_length : Int32) (k79 : Int32 → Dyn → Int32 → Int32 → Int32 → Int32 → Int32 → Int32 → Int32 → Int32 → (Nat → Int32) → (Nat → Option Nat) → Option R_pReader_read) (hk79 : ∀ (x1 : Int32) (v_D : Dyn) (v_at : Int32) (v_count : Int32) (v_fault : Int32) (v_faultAt : Int32) (v_kind : Int32) (v_open : Int32) (v_size : Int32) (v_stop : Int32) (v_code : (Nat → Int32)) (v_statements : (Nat → Option Nat)), k79 x1 v_D v_at v_count v_fault v_faultAt v_kind v_open v_size v_stop v_code v_statements = some (rr, y_v_D, y_v_at, y_v_count, y_v_fault, y_v_faultAt, y_v_kind, y_v_length, y_v_open, y_v_size, y_v_stop, y_v_code, y_v_statements) → zB C (24, 168) 79 [(0, .ref (C.X.1 + 33)), (1, .int x1)] [] ((va_up (va_up I 33 (va_up (va_up (va_up (va_up (va_up (va_up (va_up (va_up (va_up (I 33) 3 v_length) 4 v_size) 5 v_count) 6 v_kind) 7 v_at) 8 v_stop) 9 v_open) 10 v_fault) 11 v_faultAt)) 35 v_code), J, (va_up Rr 36 v_statements), v_D)) : ∀ (n9 : Nat) (x1 : Int32) (v_D : Dyn) (v_at : Int32) (v_count : Int32) (v_fault : Int32) (v_faultAt : Int32) (v_kind : Int32) (v_open : Int32) (v_size : Int32) (v_stop : Int32) (v_code : (Nat → Int32)) (v_statements : (Nat → Option Nat)), pReader_read_b41 N v_tape v_length k79 n9 x1 v_D v_at v_count v_fault v_faultAt v_kind v_open v_size v_stop v_code v_statements = some (rr, y_v_D, y_v_at, y_v_count, y_v_fault, y_v_faultAt, y_v_kind, y_v_length, y_v_open, y_v_size, y_v_stop, y_v_code, y_v_statements) → zB C (ix v_count, 7 * ix v_count) 41 [(0, .ref (C.X.1 + 33)), (1, .int x1)] [] ((va_up (va_up I 33 (va_up (va_up (va_up (va_up (va_up (va_up (va_up (va_up (va_up (I 33) 3 v_length) 4 v_size) 5 v_count) 6 v_kind) 7 v_at) 8 v_stop) 9 v_open) 10 v_fault) 11 v_faultAt)) 35 v_code), J, (va_up Rr 36 v_statements), v_D) := by
  refine zlp12_ind (P := fun (x1 : Int32) (v_D : Dyn) (v_at : Int32) (v_count : Int32) (v_fault : Int32) (v_faultAt : Int32) (v_kind : Int32) (v_open : Int32) (v_size : Int32) (v_stop : Int32) (v_code : (Nat → Int32)) (v_statements : (Nat → Option Nat)) => zB C (ix v_count, 7 * ix v_count) 41 [(0, .ref (C.X.1 + 33)), (1, .int x1)] [] ((va_up (va_up I 33 (va_up (va_up (va_up (va_up (va_up (va_up (va_up (va_up (va_up (I 33) 3 v_length) 4 v_size) 5 v_count) 6 v_kind) 7 v_at) 8 v_stop) 9 v_open) 10 v_fault) 11 v_faultAt)) 35 v_code), J, (va_up Rr 36 v_statements), v_D)) (fun self ih => ?_)
  intro x1 v_D v_at v_count v_fault v_faultAt v_kind v_open v_size v_stop v_code v_statements h
  obtain ⟨g2, h⟩ := gd_s h
  refine zb_iload_n E dX7_read_41 1 rfl rfl ?_
  refine zb_if_eq E dX7_read_42 (tgt := 79) rfl (fun hc => ?_) (fun hc => ?_)
  · have h := if_t h hc
    refine zb_W (cs2 := (24, 168)) (by have h9 := zix1 g2 (by decide); have h8 := ib_lt g2; exact ⟨by show ix v_count ≤ 24; omega, by show 7 * ix v_count ≤ 168; omega⟩) ?_
    exact hk79 x1 v_D v_at v_count v_fault v_faultAt v_kind v_open v_size v_stop v_code v_statements h
  · have h := if_f h hc
    refine zb_aload_n E dX7_read_45 0 rfl rfl ?_
    refine zb_getX E 33 (by decide) (zF_33 C.X) rfl zin7 6 (by decide) zw_144 ((zup_n (by decide : (33 : Nat) ≠ 35)).trans zup_s) rfl (v := .int v_kind) rfl dX7_read_46 ?_
    refine zb_if_eq E dX7_read_49 (tgt := 79) rfl (fun hc => ?_) (fun hc => ?_)
    · have h := if_t h hc
      refine zb_W (cs2 := (24, 168)) (by have h9 := zix1 g2 (by decide); have h8 := ib_lt g2; exact ⟨by show ix v_count ≤ 24; omega, by show 7 * ix v_count ≤ 168; omega⟩) ?_
      exact hk79 x1 v_D v_at v_count v_fault v_faultAt v_kind v_open v_size v_stop v_code v_statements h
    · have h := if_f h hc
      refine zb_aload_n E dX7_read_52 0 rfl rfl ?_
      refine zb_getX E 33 (by decide) (zF_33 C.X) rfl zin7 5 (by decide) zw_143 ((zup_n (by decide : (33 : Nat) ≠ 35)).trans zup_s) rfl (v := .int v_count) rfl dX7_read_53 ?_
      refine zb_bipush E dX7_read_56 (v := 24) rfl ?_
      refine zb_icmp_ge E dX7_read_58 (tgt := 79) rfl (fun hc => ?_) (fun hc => ?_)
      · have h := if_t h hc
        refine zb_W (cs2 := (24, 168)) (by have h9 := zix1 g2 (by decide); have h8 := ib_lt g2; exact ⟨by show ix v_count ≤ 24; omega, by show 7 * ix v_count ≤ 168; omega⟩) ?_
        exact hk79 x1 v_D v_at v_count v_fault v_faultAt v_kind v_open v_size v_stop v_code v_statements h
      · have h := if_f h hc
        refine zb_aload_n E dX7_read_61 0 rfl rfl ?_
        obtain ⟨rc3, v_D_c3, v_at_c3, v_fault_c3, v_faultAt_c3, v_kind_c3, v_open_c3, v_size_c3, v_stop_c3, v_code_c3, v_statements_c3, hc_62, h⟩ := bd11_s h
        refine zb_cVi E [] 33 zy_X7_readStatement zw_644 (by decide) (zF_33 _ _ _ _) rfl (c_X7_readStatement (va_up (va_up (va_up (va_up (va_up (va_up (va_up (va_up (va_up (I 33) 3 v_length) 4 v_size) 5 v_count) 6 v_kind) 7 v_at) 8 v_stop) 9 v_open) 10 v_fault) 11 v_faultAt) ((zup_n (by decide : (33 : Nat) ≠ 35)).trans zup_s) v_count (zcf (f := ((va_up (va_up I 33 (va_up (va_up (va_up (va_up (va_up (va_up (va_up (va_up (va_up (I 33) 3 v_length) 4 v_size) 5 v_count) 6 v_kind) 7 v_at) 8 v_stop) 9 v_open) 10 v_fault) 11 v_faultAt)) 35 v_code) 33)) ((zup_n (by decide : (33 : Nat) ≠ 35)).trans zup_s) rfl) v_length (zcf (f := ((va_up (va_up I 33 (va_up (va_up (va_up (va_up (va_up (va_up (va_up (va_up (va_up (I 33) 3 v_length) 4 v_size) 5 v_count) 6 v_kind) 7 v_at) 8 v_stop) 9 v_open) 10 v_fault) 11 v_faultAt)) 35 v_code) 33)) ((zup_n (by decide : (33 : Nat) ≠ 35)).trans zup_s) rfl) v_tape (((zup_n (by decide : (34 : Nat) ≠ 35)).trans (zup_n (by decide : (34 : Nat) ≠ 33))).trans e_v_tape) v_at (zcf (f := ((va_up (va_up I 33 (va_up (va_up (va_up (va_up (va_up (va_up (va_up (va_up (va_up (I 33) 3 v_length) 4 v_size) 5 v_count) 6 v_kind) 7 v_at) 8 v_stop) 9 v_open) 10 v_fault) 11 v_faultAt)) 35 v_code) 33)) ((zup_n (by decide : (33 : Nat) ≠ 35)).trans zup_s) rfl) v_fault (zcf (f := ((va_up (va_up I 33 (va_up (va_up (va_up (va_up (va_up (va_up (va_up (va_up (va_up (I 33) 3 v_length) 4 v_size) 5 v_count) 6 v_kind) 7 v_at) 8 v_stop) 9 v_open) 10 v_fault) 11 v_faultAt)) 35 v_code) 33)) ((zup_n (by decide : (33 : Nat) ≠ 35)).trans zup_s) rfl) v_faultAt (zcf (f := ((va_up (va_up I 33 (va_up (va_up (va_up (va_up (va_up (va_up (va_up (va_up (va_up (I 33) 3 v_length) 4 v_size) 5 v_count) 6 v_kind) 7 v_at) 8 v_stop) 9 v_open) 10 v_fault) 11 v_faultAt)) 35 v_code) 33)) ((zup_n (by decide : (33 : Nat) ≠ 35)).trans zup_s) rfl) v_kind (zcf (f := ((va_up (va_up I 33 (va_up (va_up (va_up (va_up (va_up (va_up (va_up (va_up (va_up (I 33) 3 v_length) 4 v_size) 5 v_count) 6 v_kind) 7 v_at) 8 v_stop) 9 v_open) 10 v_fault) 11 v_faultAt)) 35 v_code) 33)) ((zup_n (by decide : (33 : Nat) ≠ 35)).trans zup_s) rfl) v_open (zcf (f := ((va_up (va_up I 33 (va_up (va_up (va_up (va_up (va_up (va_up (va_up (va_up (va_up (I 33) 3 v_length) 4 v_size) 5 v_count) 6 v_kind) 7 v_at) 8 v_stop) 9 v_open) 10 v_fault) 11 v_faultAt)) 35 v_code) 33)) ((zup_n (by decide : (33 : Nat) ≠ 35)).trans zup_s) rfl) v_size (zcf (f := ((va_up (va_up I 33 (va_up (va_up (va_up (va_up (va_up (va_up (va_up (va_up (va_up (I 33) 3 v_length) 4 v_size) 5 v_count) 6 v_kind) 7 v_at) 8 v_stop) 9 v_open) 10 v_fault) 11 v_faultAt)) 35 v_code) 33)) ((zup_n (by decide : (33 : Nat) ≠ 35)).trans zup_s) rfl) v_stop (zcf (f := ((va_up (va_up I 33 (va_up (va_up (va_up (va_up (va_up (va_up (va_up (va_up (va_up (I 33) 3 v_length) 4 v_size) 5 v_count) 6 v_kind) 7 v_at) 8 v_stop) 9 v_open) 10 v_fault) 11 v_faultAt)) 35 v_code) 33)) ((zup_n (by decide : (33 : Nat) ≠ 35)).trans zup_s) rfl) v_code zup_s v_statements zup_s hc_62) (by have h8 := ib_lt g2; exact ⟨by decide, by decide, by show ix v_count + 1 ≤ 27; omega, by show 7 * ix v_count + 7 ≤ 794; omega⟩) rfl rfl (by first | decide | simp [Value.category, zva_cat]) dX7_read_62 (cs2 := (ix v_count + 1, 7 * ix v_count + 7)) rfl ?_
        refine zb_S (S2 := ((va_up (va_up I 33 (va_up (va_up (va_up (va_up (va_up (va_up (va_up (va_up (va_up (I 33) 3 v_length) 4 v_size_c3) 5 v_count) 6 v_kind_c3) 7 v_at_c3) 8 v_stop_c3) 9 v_open_c3) 10 v_fault_c3) 11 v_faultAt_c3)) 35 v_code_c3), J, (va_up Rr 36 v_statements_c3), v_D_c3)) (zS_eq3 ((zcgF ((zcgV ((zcgF ((zcgF ((zcgF ((zcgF ((zcgF ((zcgF (zn8 (by decide : (11 : Nat) ≠ 4) (by decide : (10 : Nat) ≠ 4) (by decide : (9 : Nat) ≠ 4) (by decide : (8 : Nat) ≠ 4) (by decide : (7 : Nat) ≠ 4) (by decide : (6 : Nat) ≠ 4) (by decide : (5 : Nat) ≠ 4))).trans (zn6 (by decide : (11 : Nat) ≠ 6) (by decide : (10 : Nat) ≠ 6) (by decide : (9 : Nat) ≠ 6) (by decide : (8 : Nat) ≠ 6) (by decide : (7 : Nat) ≠ 6)))).trans (zn5 (by decide : (11 : Nat) ≠ 7) (by decide : (10 : Nat) ≠ 7) (by decide : (9 : Nat) ≠ 7) (by decide : (8 : Nat) ≠ 7)))).trans (zn4 (by decide : (11 : Nat) ≠ 8) (by decide : (10 : Nat) ≠ 8) (by decide : (9 : Nat) ≠ 8)))).trans (zn3 (by decide : (11 : Nat) ≠ 9) (by decide : (10 : Nat) ≠ 9)))).trans (zn2 (by decide : (11 : Nat) ≠ 10)))).trans zn1)).trans (zn2 (by decide : (35 : Nat) ≠ 33)))).trans zn1) rfl zn1) ?_
        refine zb_istore_n E dX7_read_65 rfl (by decide) (lv2 := [(1, .int rc3), (0, .ref (C.X.1 + 33))]) rfl ?_
        refine zb_aload_n E dX7_read_66 1 rfl rfl ?_
        refine zb_dup E dX7_read_67 rfl ?_
        refine zb_getX E 33 (by decide) (zF_33 C.X) rfl zin7 5 (by decide) zw_143 ((zup_n (by decide : (33 : Nat) ≠ 35)).trans zup_s) rfl (v := .int v_count) rfl dX7_read_68 ?_
        refine zb_iconst E dX7_read_71 (v := 1) rfl ?_
        refine zb_iadd E dX7_read_72 ?_
        refine zb_putXI E 33 (by decide) (zF_33 C.X) rfl zin7 5 (by decide) zw_143 tyX7 tyX7_ok nmX7 rfl rfl rfl ((zup_n (by decide : (33 : Nat) ≠ 35)).trans zup_s) rfl (zset7_5 C.X _ _ (v_count + 1)) (by rw [zflen7]; decide) (I2 := (va_up (va_up I 33 (va_up (va_up (va_up (va_up (va_up (va_up (va_up (va_up (va_up (I 33) 3 v_length) 4 v_size_c3) 5 (v_count + 1)) 6 v_kind_c3) 7 v_at_c3) 8 v_stop_c3) 9 v_open_c3) 10 v_fault_c3) 11 v_faultAt_c3)) 35 v_code_c3)) ((zcgV (zn7 (by decide : (11 : Nat) ≠ 5) (by decide : (10 : Nat) ≠ 5) (by decide : (9 : Nat) ≠ 5) (by decide : (8 : Nat) ≠ 5) (by decide : (7 : Nat) ≠ 5) (by decide : (6 : Nat) ≠ 5))).trans (zn2 (by decide : (35 : Nat) ≠ 33))) dX7_read_73 ?_
        refine zb_goto E dX7_read_76 (tgt := 41) rfl ?_
        refine zb_sub [1, 0] rfl ?_
        refine zb_W (cs2 := (ix (v_count + 1), 7 * ix (v_count + 1))) (by have h9 := zix1 g2 (by decide); have h8 := ib_lt g2; exact ⟨by show ix v_count + 1 ≤ ix (v_count + 1); omega, by show 7 * ix v_count + 7 ≤ 7 * ix (v_count + 1); omega⟩) ?_
        exact ih rc3 v_D_c3 v_at_c3 (v_count + 1) v_fault_c3 v_faultAt_c3 v_kind_c3 v_open_c3 v_size_c3 v_stop_c3 v_code_c3 v_statements_c3 h
theorem c_X7_read_b100 {C : zC} {I : Nat → Nat → Int32} {J : Nat → Nat → Int64} {Rr : Nat → Nat → Option Nat}  (N : Nat) (v_tape : (Nat → Int32)) (e_v_tape : I 34 = v_tape) (rr : (Option Nat)) (y_v_D : Dyn) (y_v_at : Int32) (y_v_count : Int32) (y_v_fault : Int32) (y_v_faultAt : Int32) (y_v_kind : Int32) (y_v_length : Int32) (y_v_open : Int32) (y_v_size : Int32) (y_v_stop : Int32) (y_v_code : (Nat → Int32)) (y_v_statements : (Nat → Option Nat)) (E : zE C RX7 cX7_read 2 (Option.some (FieldType.object "ChequeredCloth$Writ")) ({ frames := 665, cells := 27, slots := 794, locals := 16594 } : Room)) (hQ : C.Q = zQq C ({ frames := 665, cells := 27, slots := 794, locals := 16594 } : Room) (zq C.X rr) ((va_up (va_up I 33 (va_up (va_up (va_up (va_up (va_up (va_up (va_up (va_up (va_up (I 33) 3 y_v_length) 4 y_v_size) 5 y_v_count) 6 y_v_kind) 7 y_v_at) 8 y_v_stop) 9 y_v_open) 10 y_v_fault) 11 y_v_faultAt)) 35 y_v_code), J, (va_up Rr 36 y_v_statements), y_v_D)) (x1 : Int32) (v_D : Dyn) (v_at : Int32) (v_count : Int32) (v_fault : Int32) (v_faultAt : Int32) (v_kind : Int32) (v_length : Int32) (v_open : Int32) (v_size : Int32) (v_stop : Int32) (v_code : (Nat → Int32)) (v_statements : (Nat → Option Nat)) (h : pReader_read_b100 N v_tape x1 v_D v_at v_count v_fault v_faultAt v_kind v_length v_open v_size v_stop v_code v_statements = some (rr, y_v_D, y_v_at, y_v_count, y_v_fault, y_v_faultAt, y_v_kind, y_v_length, y_v_open, y_v_size, y_v_stop, y_v_code, y_v_statements)) : zB C (24, 168) 100 [(0, .ref (C.X.1 + 33)), (1, .int x1)] [] ((va_up (va_up I 33 (va_up (va_up (va_up (va_up (va_up (va_up (va_up (va_up (va_up (I 33) 3 v_length) 4 v_size) 5 v_count) 6 v_kind) 7 v_at) 8 v_stop) 9 v_open) 10 v_fault) 11 v_faultAt)) 35 v_code), J, (va_up Rr 36 v_statements), v_D) := by
  refine zb_aload_n E dX7_read_100 0 rfl rfl ?_
  obtain ⟨v_length_c5, hc_101, h⟩ := bd1_s h
  refine zb_cVv E [] 33 zy_X7_wipe zw_824 (by decide) (zF_33 _ _ _ _) rfl (c_X7_wipe (va_up (va_up (va_up (va_up (va_up (va_up (va_up (va_up (va_up (I 33) 3 v_length) 4 v_size) 5 v_count) 6 v_kind) 7 v_at) 8 v_stop) 9 v_open) 10 v_fault) 11 v_faultAt) ((zup_n (by decide : (33 : Nat) ≠ 35)).trans zup_s) v_length (zcf (f := ((va_up (va_up I 33 (va_up (va_up (va_up (va_up (va_up (va_up (va_up (va_up (va_up (I 33) 3 v_length) 4 v_size) 5 v_count) 6 v_kind) 7 v_at) 8 v_stop) 9 v_open) 10 v_fault) 11 v_faultAt)) 35 v_code) 33)) ((zup_n (by decide : (33 : Nat) ≠ 35)).trans zup_s) rfl) hc_101) (by decide) rfl rfl (by first | decide | simp [Value.category, zva_cat]) dX7_read_101 (cs2 := (24, 168)) rfl ?_
  refine zb_S (S2 := ((va_up (va_up I 33 (va_up (va_up (va_up (va_up (va_up (va_up (va_up (va_up (va_up (I 33) 3 v_length_c5) 4 v_size) 5 v_count) 6 v_kind) 7 v_at) 8 v_stop) 9 v_open) 10 v_fault) 11 v_faultAt)) 35 v_code), J, (va_up Rr 36 v_statements), v_D)) (zS_eq3 ((zcgV (zn9 (by decide : (11 : Nat) ≠ 3) (by decide : (10 : Nat) ≠ 3) (by decide : (9 : Nat) ≠ 3) (by decide : (8 : Nat) ≠ 3) (by decide : (7 : Nat) ≠ 3) (by decide : (6 : Nat) ≠ 3) (by decide : (5 : Nat) ≠ 3) (by decide : (4 : Nat) ≠ 3))).trans (zn2 (by decide : (35 : Nat) ≠ 33))) rfl rfl) ?_
  refine zb_iload_n E dX7_read_104 1 rfl rfl ?_
  refine zb_if_eq E dX7_read_105 (tgt := 134) rfl (fun hc => ?_) (fun hc => ?_)
  · have h := if_t h hc
    refine zb_null E dX7_read_134 ?_
    obtain ⟨rfl, rfl, rfl, rfl, rfl, rfl, rfl, rfl, rfl, rfl, rfl, rfl, rfl⟩ := zinj13 h
    exact zb_qret E hQ rfl (Or.inl ⟨_, rfl⟩) ⟨by decide, by decide⟩ dX7_read_135
  · have h := if_f h hc
    obtain ⟨y6, hb_y6, h⟩ := bd1_s h
    refine zb_dnewW E zw_825 hb_y6 (by decide) dX7_read_108 ?_
    refine zb_dup E dX7_read_111 rfl ?_
    refine zb_aload_n E dX7_read_112 0 rfl rfl ?_
    refine zb_getX E 33 (by decide) (zF_33 C.X) rfl zin7 2 (by decide) zw_140 ((zup_n (by decide : (33 : Nat) ≠ 35)).trans zup_s) rfl (v := .ref (C.X.1 + 36)) rfl dX7_read_113 ?_
    refine zb_aload_n E dX7_read_116 0 rfl rfl ?_
    refine zb_getX E 33 (by decide) (zF_33 C.X) rfl zin7 5 (by decide) zw_143 ((zup_n (by decide : (33 : Nat) ≠ 35)).trans zup_s) rfl (v := .int v_count) rfl dX7_read_117 ?_
    refine zb_aload_n E dX7_read_120 0 rfl rfl ?_
    refine zb_getX E 33 (by decide) (zF_33 C.X) rfl zin7 1 (by decide) zw_139 ((zup_n (by decide : (33 : Nat) ≠ 35)).trans zup_s) rfl (v := .ref (C.X.1 + 35)) rfl dX7_read_121 ?_
    refine zb_aload_n E dX7_read_124 0 rfl rfl ?_
    refine zb_getX E 33 (by decide) (zF_33 C.X) rfl zin7 4 (by decide) zw_142 ((zup_n (by decide : (33 : Nat) ≠ 35)).trans zup_s) rfl (v := .int v_size) rfl dX7_read_125 ?_
    obtain ⟨v_D_c7, hc_128, h⟩ := bd1_s h
    refine zb_cIv E [.ref (C.X.1 + 36), .int v_count, .ref (C.X.1 + 35), .int v_size] _ zy_X10_init zw_827 (c_X10_init v_statements zup_s v_code zup_s hc_128) (by decide) rfl rfl (by first | decide | simp [Value.category, zva_cat]) dX7_read_128 (cs2 := (27, 794)) rfl ?_
    refine zb_S (S2 := ((va_up (va_up I 33 (va_up (va_up (va_up (va_up (va_up (va_up (va_up (va_up (va_up (I 33) 3 v_length_c5) 4 v_size) 5 v_count) 6 v_kind) 7 v_at) 8 v_stop) 9 v_open) 10 v_fault) 11 v_faultAt)) 35 v_code), J, (va_up Rr 36 v_statements), v_D_c7)) (zS_eq3 rfl rfl rfl) ?_
    refine zb_goto E dX7_read_131 (tgt := 135) rfl ?_
    obtain ⟨rfl, rfl, rfl, rfl, rfl, rfl, rfl, rfl, rfl, rfl, rfl, rfl, rfl⟩ := zinj13 h
    exact zb_qret E hQ rfl (Or.inl ⟨_, rfl⟩) ⟨by decide, by decide⟩ dX7_read_135
theorem c_X7_read_b79 {C : zC} {I : Nat → Nat → Int32} {J : Nat → Nat → Int64} {Rr : Nat → Nat → Option Nat}  (N : Nat) (v_tape : (Nat → Int32)) (e_v_tape : I 34 = v_tape) (rr : (Option Nat)) (y_v_D : Dyn) (y_v_at : Int32) (y_v_count : Int32) (y_v_fault : Int32) (y_v_faultAt : Int32) (y_v_kind : Int32) (y_v_length : Int32) (y_v_open : Int32) (y_v_size : Int32) (y_v_stop : Int32) (y_v_code : (Nat → Int32)) (y_v_statements : (Nat → Option Nat)) (E : zE C RX7 cX7_read 2 (Option.some (FieldType.object "ChequeredCloth$Writ")) ({ frames := 665, cells := 27, slots := 794, locals := 16594 } : Room)) (hQ : C.Q = zQq C ({ frames := 665, cells := 27, slots := 794, locals := 16594 } : Room) (zq C.X rr) ((va_up (va_up I 33 (va_up (va_up (va_up (va_up (va_up (va_up (va_up (va_up (va_up (I 33) 3 y_v_length) 4 y_v_size) 5 y_v_count) 6 y_v_kind) 7 y_v_at) 8 y_v_stop) 9 y_v_open) 10 y_v_fault) 11 y_v_faultAt)) 35 y_v_code), J, (va_up Rr 36 y_v_statements), y_v_D)) (x1 : Int32) (v_D : Dyn) (v_at : Int32) (v_count : Int32) (v_fault : Int32) (v_faultAt : Int32) (v_kind : Int32) (v_length : Int32) (v_open : Int32) (v_size : Int32) (v_stop : Int32) (v_code : (Nat → Int32)) (v_statements : (Nat → Option Nat)) (h : pReader_read_b79 N v_tape x1 v_D v_at v_count v_fault v_faultAt v_kind v_length v_open v_size v_stop v_code v_statements = some (rr, y_v_D, y_v_at, y_v_count, y_v_fault, y_v_faultAt, y_v_kind, y_v_length, y_v_open, y_v_size, y_v_stop, y_v_code, y_v_statements)) : zB C (24, 168) 79 [(0, .ref (C.X.1 + 33)), (1, .int x1)] [] ((va_up (va_up I 33 (va_up (va_up (va_up (va_up (va_up (va_up (va_up (va_up (va_up (I 33) 3 v_length) 4 v_size) 5 v_count) 6 v_kind) 7 v_at) 8 v_stop) 9 v_open) 10 v_fault) 11 v_faultAt)) 35 v_code), J, (va_up Rr 36 v_statements), v_D) := by
  refine zb_iload_n E dX7_read_79 1 rfl rfl ?_
  refine zb_if_eq E dX7_read_80 (tgt := 100) rfl (fun hc => ?_) (fun hc => ?_)
  · have h := if_t h hc
    exact c_X7_read_b100 N v_tape e_v_tape rr y_v_D y_v_at y_v_count y_v_fault y_v_faultAt y_v_kind y_v_length y_v_open y_v_size y_v_stop y_v_code y_v_statements E hQ x1 v_D v_at v_count v_fault v_faultAt v_kind v_length v_open v_size v_stop v_code v_statements h
  · have h := if_f h hc
    refine zb_aload_n E dX7_read_83 0 rfl rfl ?_
    refine zb_getX E 33 (by decide) (zF_33 C.X) rfl zin7 6 (by decide) zw_144 ((zup_n (by decide : (33 : Nat) ≠ 35)).trans zup_s) rfl (v := .int v_kind) rfl dX7_read_84 ?_
    refine zb_if_eq E dX7_read_87 (tgt := 100) rfl (fun hc => ?_) (fun hc => ?_)
    · have h := if_t h hc
      exact c_X7_read_b100 N v_tape e_v_tape rr y_v_D y_v_at y_v_count y_v_fault y_v_faultAt y_v_kind y_v_length y_v_open y_v_size y_v_stop y_v_code y_v_statements E hQ x1 v_D v_at v_count v_fault v_faultAt v_kind v_length v_open v_size v_stop v_code v_statements h
    · have h := if_f h hc
      refine zb_aload_n E dX7_read_90 0 rfl rfl ?_
      refine zb_iconst E dX7_read_91 (v := 4) rfl ?_
      refine zb_aload_n E dX7_read_92 0 rfl rfl ?_
      refine zb_getX E 33 (by decide) (zF_33 C.X) rfl zin7 7 (by decide) zw_145 ((zup_n (by decide : (33 : Nat) ≠ 35)).trans zup_s) rfl (v := .int v_at) rfl dX7_read_93 ?_
      obtain ⟨rc4, v_fault_c4, v_faultAt_c4, hc_96, h⟩ := bd3_s h
      refine zb_cVi E [.int 4, .int v_at] 33 zy_X7_fail zw_756 (by decide) (zF_33 _ _ _ _) rfl (c_X7_fail (va_up (va_up (va_up (va_up (va_up (va_up (va_up (va_up (va_up (I 33) 3 v_length) 4 v_size) 5 v_count) 6 v_kind) 7 v_at) 8 v_stop) 9 v_open) 10 v_fault) 11 v_faultAt) ((zup_n (by decide : (33 : Nat) ≠ 35)).trans zup_s) v_fault (zcf (f := ((va_up (va_up I 33 (va_up (va_up (va_up (va_up (va_up (va_up (va_up (va_up (va_up (I 33) 3 v_length) 4 v_size) 5 v_count) 6 v_kind) 7 v_at) 8 v_stop) 9 v_open) 10 v_fault) 11 v_faultAt)) 35 v_code) 33)) ((zup_n (by decide : (33 : Nat) ≠ 35)).trans zup_s) rfl) v_faultAt (zcf (f := ((va_up (va_up I 33 (va_up (va_up (va_up (va_up (va_up (va_up (va_up (va_up (va_up (I 33) 3 v_length) 4 v_size) 5 v_count) 6 v_kind) 7 v_at) 8 v_stop) 9 v_open) 10 v_fault) 11 v_faultAt)) 35 v_code) 33)) ((zup_n (by decide : (33 : Nat) ≠ 35)).trans zup_s) rfl) hc_96) (by decide) rfl rfl (by first | decide | simp [Value.category, zva_cat]) dX7_read_96 (cs2 := (24, 168)) rfl ?_
      refine zb_S (S2 := ((va_up (va_up I 33 (va_up (va_up (va_up (va_up (va_up (va_up (va_up (va_up (va_up (I 33) 3 v_length) 4 v_size) 5 v_count) 6 v_kind) 7 v_at) 8 v_stop) 9 v_open) 10 v_fault_c4) 11 v_faultAt_c4)) 35 v_code), J, (va_up Rr 36 v_statements), v_D)) (zS_eq3 ((zcgV ((zcgF (zn2 (by decide : (11 : Nat) ≠ 10))).trans zn1)).trans (zn2 (by decide : (35 : Nat) ≠ 33))) rfl rfl) ?_
      refine zb_istore_n E dX7_read_99 rfl (by decide) (lv2 := [(1, .int rc4), (0, .ref (C.X.1 + 33))]) rfl ?_
      refine zb_sub [1, 0] rfl ?_
      exact c_X7_read_b100 N v_tape e_v_tape rr y_v_D y_v_at y_v_count y_v_fault y_v_faultAt y_v_kind y_v_length y_v_open y_v_size y_v_stop y_v_code y_v_statements E hQ rc4 v_D v_at v_count v_fault_c4 v_faultAt_c4 v_kind v_length v_open v_size v_stop v_code v_statements h
theorem c_X7_read_0 {C : zC} {I : Nat → Nat → Int32} {J : Nat → Nat → Int64} {Rr : Nat → Nat → Option Nat}  (N : Nat) (v_tape : (Nat → Int32)) (e_v_tape : I 34 = v_tape) (rr : (Option Nat)) (y_v_D : Dyn) (y_v_at : Int32) (y_v_count : Int32) (y_v_fault : Int32) (y_v_faultAt : Int32) (y_v_kind : Int32) (y_v_length : Int32) (y_v_open : Int32) (y_v_size : Int32) (y_v_stop : Int32) (y_v_code : (Nat → Int32)) (y_v_statements : (Nat → Option Nat)) (E : zE C RX7 cX7_read 2 (Option.some (FieldType.object "ChequeredCloth$Writ")) ({ frames := 665, cells := 27, slots := 794, locals := 16594 } : Room)) (hQ : C.Q = zQq C ({ frames := 665, cells := 27, slots := 794, locals := 16594 } : Room) (zq C.X rr) ((va_up (va_up I 33 (va_up (va_up (va_up (va_up (va_up (va_up (va_up (va_up (va_up (I 33) 3 y_v_length) 4 y_v_size) 5 y_v_count) 6 y_v_kind) 7 y_v_at) 8 y_v_stop) 9 y_v_open) 10 y_v_fault) 11 y_v_faultAt)) 35 y_v_code), J, (va_up Rr 36 y_v_statements), y_v_D)) (v_D : Dyn) (v_at : Int32) (v_count : Int32) (v_fault : Int32) (v_faultAt : Int32) (v_kind : Int32) (v_length : Int32) (v_open : Int32) (v_size : Int32) (v_stop : Int32) (v_code : (Nat → Int32)) (v_statements : (Nat → Option Nat)) (h : pReader_read N v_D v_at v_count v_fault v_faultAt v_kind v_length v_open v_size v_stop v_code v_statements v_tape = some (rr, y_v_D, y_v_at, y_v_count, y_v_fault, y_v_faultAt, y_v_kind, y_v_length, y_v_open, y_v_size, y_v_stop, y_v_code, y_v_statements)) : zB C (0, 0) 0 [(0, .ref (C.X.1 + 33))] [] ((va_up (va_up I 33 (va_up (va_up (va_up (va_up (va_up (va_up (va_up (va_up (va_up (I 33) 3 v_length) 4 v_size) 5 v_count) 6 v_kind) 7 v_at) 8 v_stop) 9 v_open) 10 v_fault) 11 v_faultAt)) 35 v_code), J, (va_up Rr 36 v_statements), v_D) := by
  refine zb_aload_n E dX7_read_0 0 rfl rfl ?_
  refine zb_iconst E dX7_read_1 (v := 0) rfl ?_
  refine zb_putXI E 33 (by decide) (zF_33 C.X) rfl zin7 10 (by decide) zw_148 tyX7 tyX7_ok nmX7 rfl rfl rfl ((zup_n (by decide : (33 : Nat) ≠ 35)).trans zup_s) rfl (zset7_10 C.X _ _ 0) (by rw [zflen7]; decide) (I2 := (va_up (va_up I 33 (va_up (va_up (va_up (va_up (va_up (va_up (va_up (va_up (va_up (I 33) 3 v_length) 4 v_size) 5 v_count) 6 v_kind) 7 v_at) 8 v_stop) 9 v_open) 10 0) 11 v_faultAt)) 35 v_code)) ((zcgV (zn2 (by decide : (11 : Nat) ≠ 10))).trans (zn2 (by decide : (35 : Nat) ≠ 33))) dX7_read_2 ?_
  refine zb_aload_n E dX7_read_5 0 rfl rfl ?_
  refine zb_iconst E dX7_read_6 (v := (-1)) rfl ?_
  refine zb_putXI E 33 (by decide) (zF_33 C.X) rfl zin7 11 (by decide) zw_149 tyX7 tyX7_ok nmX7 rfl rfl rfl ((zup_n (by decide : (33 : Nat) ≠ 35)).trans zup_s) rfl (zset7_11 C.X _ _ (-1)) (by rw [zflen7]; decide) (I2 := (va_up (va_up I 33 (va_up (va_up (va_up (va_up (va_up (va_up (va_up (va_up (va_up (I 33) 3 v_length) 4 v_size) 5 v_count) 6 v_kind) 7 v_at) 8 v_stop) 9 v_open) 10 0) 11 (-1))) 35 v_code)) ((zcgV zn1).trans (zn2 (by decide : (35 : Nat) ≠ 33))) dX7_read_7 ?_
  refine zb_aload_n E dX7_read_10 0 rfl rfl ?_
  refine zb_iconst E dX7_read_11 (v := 0) rfl ?_
  refine zb_putXI E 33 (by decide) (zF_33 C.X) rfl zin7 4 (by decide) zw_142 tyX7 tyX7_ok nmX7 rfl rfl rfl ((zup_n (by decide : (33 : Nat) ≠ 35)).trans zup_s) rfl (zset7_4 C.X _ _ 0) (by rw [zflen7]; decide) (I2 := (va_up (va_up I 33 (va_up (va_up (va_up (va_up (va_up (va_up (va_up (va_up (va_up (I 33) 3 v_length) 4 0) 5 v_count) 6 v_kind) 7 v_at) 8 v_stop) 9 v_open) 10 0) 11 (-1))) 35 v_code)) ((zcgV (zn8 (by decide : (11 : Nat) ≠ 4) (by decide : (10 : Nat) ≠ 4) (by decide : (9 : Nat) ≠ 4) (by decide : (8 : Nat) ≠ 4) (by decide : (7 : Nat) ≠ 4) (by decide : (6 : Nat) ≠ 4) (by decide : (5 : Nat) ≠ 4))).trans (zn2 (by decide : (35 : Nat) ≠ 33))) dX7_read_12 ?_
  refine zb_aload_n E dX7_read_15 0 rfl rfl ?_
  refine zb_iconst E dX7_read_16 (v := 0) rfl ?_
  refine zb_putXI E 33 (by decide) (zF_33 C.X) rfl zin7 5 (by decide) zw_143 tyX7 tyX7_ok nmX7 rfl rfl rfl ((zup_n (by decide : (33 : Nat) ≠ 35)).trans zup_s) rfl (zset7_5 C.X _ _ 0) (by rw [zflen7]; decide) (I2 := (va_up (va_up I 33 (va_up (va_up (va_up (va_up (va_up (va_up (va_up (va_up (va_up (I 33) 3 v_length) 4 0) 5 0) 6 v_kind) 7 v_at) 8 v_stop) 9 v_open) 10 0) 11 (-1))) 35 v_code)) ((zcgV (zn7 (by decide : (11 : Nat) ≠ 5) (by decide : (10 : Nat) ≠ 5) (by decide : (9 : Nat) ≠ 5) (by decide : (8 : Nat) ≠ 5) (by decide : (7 : Nat) ≠ 5) (by decide : (6 : Nat) ≠ 5))).trans (zn2 (by decide : (35 : Nat) ≠ 33))) dX7_read_17 ?_
  refine zb_aload_n E dX7_read_20 0 rfl rfl ?_
  refine zb_iconst E dX7_read_21 (v := 0) rfl ?_
  refine zb_putXI E 33 (by decide) (zF_33 C.X) rfl zin7 9 (by decide) zw_147 tyX7 tyX7_ok nmX7 rfl rfl rfl ((zup_n (by decide : (33 : Nat) ≠ 35)).trans zup_s) rfl (zset7_9 C.X _ _ 0) (by rw [zflen7]; decide) (I2 := (va_up (va_up I 33 (va_up (va_up (va_up (va_up (va_up (va_up (va_up (va_up (va_up (I 33) 3 v_length) 4 0) 5 0) 6 v_kind) 7 v_at) 8 v_stop) 9 0) 10 0) 11 (-1))) 35 v_code)) ((zcgV (zn3 (by decide : (11 : Nat) ≠ 9) (by decide : (10 : Nat) ≠ 9))).trans (zn2 (by decide : (35 : Nat) ≠ 33))) dX7_read_22 ?_
  refine zb_aload_n E dX7_read_25 0 rfl rfl ?_
  refine zb_iconst E dX7_read_26 (v := 3) rfl ?_
  refine zb_putXI E 33 (by decide) (zF_33 C.X) rfl zin7 6 (by decide) zw_144 tyX7 tyX7_ok nmX7 rfl rfl rfl ((zup_n (by decide : (33 : Nat) ≠ 35)).trans zup_s) rfl (zset7_6 C.X _ _ 3) (by rw [zflen7]; decide) (I2 := (va_up (va_up I 33 (va_up (va_up (va_up (va_up (va_up (va_up (va_up (va_up (va_up (I 33) 3 v_length) 4 0) 5 0) 6 3) 7 v_at) 8 v_stop) 9 0) 10 0) 11 (-1))) 35 v_code)) ((zcgV (zn6 (by decide : (11 : Nat) ≠ 6) (by decide : (10 : Nat) ≠ 6) (by decide : (9 : Nat) ≠ 6) (by decide : (8 : Nat) ≠ 6) (by decide : (7 : Nat) ≠ 6))).trans (zn2 (by decide : (35 : Nat) ≠ 33))) dX7_read_27 ?_
  refine zb_aload_n E dX7_read_30 0 rfl rfl ?_
  refine zb_iconst E dX7_read_31 (v := 0) rfl ?_
  refine zb_putXI E 33 (by decide) (zF_33 C.X) rfl zin7 8 (by decide) zw_146 tyX7 tyX7_ok nmX7 rfl rfl rfl ((zup_n (by decide : (33 : Nat) ≠ 35)).trans zup_s) rfl (zset7_8 C.X _ _ 0) (by rw [zflen7]; decide) (I2 := (va_up (va_up I 33 (va_up (va_up (va_up (va_up (va_up (va_up (va_up (va_up (va_up (I 33) 3 v_length) 4 0) 5 0) 6 3) 7 v_at) 8 0) 9 0) 10 0) 11 (-1))) 35 v_code)) ((zcgV (zn4 (by decide : (11 : Nat) ≠ 8) (by decide : (10 : Nat) ≠ 8) (by decide : (9 : Nat) ≠ 8))).trans (zn2 (by decide : (35 : Nat) ≠ 33))) dX7_read_32 ?_
  refine zb_aload_n E dX7_read_35 0 rfl rfl ?_
  obtain ⟨v_at_c1, v_kind_c1, v_stop_c1, hc_36, h⟩ := bd3_s h
  refine zb_cVv E [] 33 zy_X7_next zw_640 (by decide) (zF_33 _ _ _ _) rfl (c_X7_next (va_up (va_up (va_up (va_up (va_up (va_up (va_up (va_up (va_up (I 33) 3 v_length) 4 0) 5 0) 6 3) 7 v_at) 8 0) 9 0) 10 0) 11 (-1)) ((zup_n (by decide : (33 : Nat) ≠ 35)).trans zup_s) v_length (zcf (f := ((va_up (va_up I 33 (va_up (va_up (va_up (va_up (va_up (va_up (va_up (va_up (va_up (I 33) 3 v_length) 4 0) 5 0) 6 3) 7 v_at) 8 0) 9 0) 10 0) 11 (-1))) 35 v_code) 33)) ((zup_n (by decide : (33 : Nat) ≠ 35)).trans zup_s) rfl) v_tape (((zup_n (by decide : (34 : Nat) ≠ 35)).trans (zup_n (by decide : (34 : Nat) ≠ 33))).trans e_v_tape) v_at (zcf (f := ((va_up (va_up I 33 (va_up (va_up (va_up (va_up (va_up (va_up (va_up (va_up (va_up (I 33) 3 v_length) 4 0) 5 0) 6 3) 7 v_at) 8 0) 9 0) 10 0) 11 (-1))) 35 v_code) 33)) ((zup_n (by decide : (33 : Nat) ≠ 35)).trans zup_s) rfl) 3 (zcf (f := ((va_up (va_up I 33 (va_up (va_up (va_up (va_up (va_up (va_up (va_up (va_up (va_up (I 33) 3 v_length) 4 0) 5 0) 6 3) 7 v_at) 8 0) 9 0) 10 0) 11 (-1))) 35 v_code) 33)) ((zup_n (by decide : (33 : Nat) ≠ 35)).trans zup_s) rfl) 0 (zcf (f := ((va_up (va_up I 33 (va_up (va_up (va_up (va_up (va_up (va_up (va_up (va_up (va_up (I 33) 3 v_length) 4 0) 5 0) 6 3) 7 v_at) 8 0) 9 0) 10 0) 11 (-1))) 35 v_code) 33)) ((zup_n (by decide : (33 : Nat) ≠ 35)).trans zup_s) rfl) hc_36) (by decide) rfl rfl (by first | decide | simp [Value.category, zva_cat]) dX7_read_36 (cs2 := (0, 0)) rfl ?_
  refine zb_S (S2 := ((va_up (va_up I 33 (va_up (va_up (va_up (va_up (va_up (va_up (va_up (va_up (va_up (I 33) 3 v_length) 4 0) 5 0) 6 v_kind_c1) 7 v_at_c1) 8 v_stop_c1) 9 0) 10 0) 11 (-1))) 35 v_code), J, (va_up Rr 36 v_statements), v_D)) (zS_eq3 ((zcgV ((zcgF ((zcgF (zn6 (by decide : (11 : Nat) ≠ 6) (by decide : (10 : Nat) ≠ 6) (by decide : (9 : Nat) ≠ 6) (by decide : (8 : Nat) ≠ 6) (by decide : (7 : Nat) ≠ 6))).trans (zn5 (by decide : (11 : Nat) ≠ 7) (by decide : (10 : Nat) ≠ 7) (by decide : (9 : Nat) ≠ 7) (by decide : (8 : Nat) ≠ 7)))).trans (zn4 (by decide : (11 : Nat) ≠ 8) (by decide : (10 : Nat) ≠ 8) (by decide : (9 : Nat) ≠ 8)))).trans (zn2 (by decide : (35 : Nat) ≠ 33))) rfl rfl) ?_
  refine zb_iconst E dX7_read_39 (v := 1) rfl ?_
  refine zb_istore_n E dX7_read_40 rfl (by decide) (lv2 := [(1, .int 1), (0, .ref (C.X.1 + 33))]) rfl ?_
  refine zb_sub [1, 0] rfl ?_
  refine zb_W (cs2 := (ix 0, 7 * ix 0)) (by decide) ?_
  exact c_X7_read_b41 N v_tape e_v_tape rr y_v_D y_v_at y_v_count y_v_fault y_v_faultAt y_v_kind y_v_length y_v_open y_v_size y_v_stop y_v_code y_v_statements E hQ v_length _ (fun x1_z1 v_D_z2 v_at_z3 v_count_z4 v_fault_z5 v_faultAt_z6 v_kind_z7 v_open_z8 v_size_z9 v_stop_z10 v_code_z11 v_statements_z12 h => c_X7_read_b79 N v_tape e_v_tape rr y_v_D y_v_at y_v_count y_v_fault y_v_faultAt y_v_kind y_v_length y_v_open y_v_size y_v_stop y_v_code y_v_statements E hQ x1_z1 v_D_z2 v_at_z3 v_count_z4 v_fault_z5 v_faultAt_z6 v_kind_z7 v_length v_open_z8 v_size_z9 v_stop_z10 v_code_z11 v_statements_z12 h) _ 1 v_D v_at_c1 0 0 (-1) v_kind_c1 0 0 v_stop_c1 v_code v_statements h
theorem c_X7_read {l : Launch} {X : zX} {I : Nat → Nat → Int32} {J : Nat → Nat → Int64} {Rr : Nat → Nat → Option Nat} {v_D : zD} {N : Nat} (oI33 : Nat → Int32) (eoI33 : I 33 = oI33) (v_tape : (Nat → Int32)) (e_v_tape : I 34 = v_tape) (v_at : Int32) (e_v_at : I 33 7 = v_at) (v_count : Int32) (e_v_count : I 33 5 = v_count) (v_fault : Int32) (e_v_fault : I 33 10 = v_fault) (v_faultAt : Int32) (e_v_faultAt : I 33 11 = v_faultAt) (v_kind : Int32) (e_v_kind : I 33 6 = v_kind) (v_length : Int32) (e_v_length : I 33 3 = v_length) (v_open : Int32) (e_v_open : I 33 9 = v_open) (v_size : Int32) (e_v_size : I 33 4 = v_size) (v_stop : Int32) (e_v_stop : I 33 8 = v_stop) (v_code : (Nat → Int32)) (e_v_code : I 35 = v_code) (v_statements : (Nat → Option Nat)) (e_v_statements : Rr 36 = v_statements) {rr : (Option Nat)} {y_v_D : Dyn} {y_v_at : Int32} {y_v_count : Int32} {y_v_fault : Int32} {y_v_faultAt : Int32} {y_v_kind : Int32} {y_v_length : Int32} {y_v_open : Int32} {y_v_size : Int32} {y_v_stop : Int32} {y_v_code : (Nat → Int32)} {y_v_statements : (Nat → Option Nat)} (h : pReader_read N v_D v_at v_count v_fault v_faultAt v_kind v_length v_open v_size v_stop v_code v_statements v_tape = some (rr, y_v_D, y_v_at, y_v_count, y_v_fault, y_v_faultAt, y_v_kind, y_v_length, y_v_open, y_v_size, y_v_stop, y_v_code, y_v_statements)) : zMq l yX7_read cX7_read 2 (Option.some (FieldType.object "ChequeredCloth$Writ")) ({ frames := 665, cells := 27, slots := 794, locals := 16594 } : Room) X [.ref (X.1 + 33)] (I, J, Rr, v_D) (zq X rr) ((va_up (va_up I 33 (va_up (va_up (va_up (va_up (va_up (va_up (va_up (va_up (va_up oI33 3 y_v_length) 4 y_v_size) 5 y_v_count) 6 y_v_kind) 7 y_v_at) 8 y_v_stop) 9 y_v_open) 10 y_v_fault) 11 y_v_faultAt)) 35 y_v_code), J, (va_up Rr 36 y_v_statements), y_v_D) := by
  subst eoI33
  refine zMq.of (by decide) (Nat.le_of_ble_eq_true rfl) (fun C E hl hX hQ => ?_)
  subst hl
  subst hX
  have eI0 : (va_up (va_up I 33 (va_up (va_up (va_up (va_up (va_up (va_up (va_up (va_up (va_up (I 33) 3 v_length) 4 v_size) 5 v_count) 6 v_kind) 7 v_at) 8 v_stop) 9 v_open) 10 v_fault) 11 v_faultAt)) 35 v_code) = I := by rw [zup_idE e_v_length, zup_idE e_v_size, zup_idE e_v_count, zup_idE e_v_kind, zup_idE e_v_at, zup_idE e_v_stop, zup_idE e_v_open, zup_idE e_v_fault, zup_idE e_v_faultAt, zup_id, zup_idE e_v_code]
  have eJ0 : J = J := rfl
  have eR0 : (va_up Rr 36 v_statements) = Rr := by rw [zup_idE e_v_statements]
  refine zb_S (S2 := ((va_up (va_up I 33 (va_up (va_up (va_up (va_up (va_up (va_up (va_up (va_up (va_up (I 33) 3 v_length) 4 v_size) 5 v_count) 6 v_kind) 7 v_at) 8 v_stop) 9 v_open) 10 v_fault) 11 v_faultAt)) 35 v_code), J, (va_up Rr 36 v_statements), v_D)) (zS_eq3 eI0.symm eJ0.symm eR0.symm) ?_
  exact c_X7_read_0 N v_tape e_v_tape rr y_v_D y_v_at y_v_count y_v_fault y_v_faultAt y_v_kind y_v_length y_v_open y_v_size y_v_stop y_v_code y_v_statements E hQ v_D v_at v_count v_fault v_faultAt v_kind v_length v_open v_size v_stop v_code v_statements h
-- ChequeredCloth$Reader.faultFound
theorem dX7_faultFound_0 : decode cX7_faultFound 0 = .ok (.aload_n 0, 1) := by decide +kernel
theorem dX7_faultFound_1 : decode cX7_faultFound 1 = .ok (.getfield 32, 3) := by decide +kernel
theorem dX7_faultFound_4 : decode cX7_faultFound 4 = .ok (.ireturn, 1) := by decide +kernel
theorem zy_X7_faultFound : zYv yX7_faultFound cX7_faultFound 1 (some .int) 0 := ⟨zw_870, zw_871, zw_6, zw_872, by decide, by decide, by decide⟩
theorem c_X7_faultFound_0 {C : zC} {I : Nat → Nat → Int32} {J : Nat → Nat → Int64} {Rr : Nat → Nat → Option Nat} {D : zD} (v_fault : Int32) (e_v_fault : I 33 10 = v_fault) (rr : Int32) (E : zE C RX7 cX7_faultFound 1 (some .int) ({ frames := 0, cells := 0, slots := 0, locals := 0 } : Room)) (hQ : C.Q = zQi C ({ frames := 0, cells := 0, slots := 0, locals := 0 } : Room) rr (I, J, Rr, D)) (h : pReader_faultFound v_fault = some rr) : zB C (0, 0) 0 [(0, .ref (C.X.1 + 33))] [] (I, J, Rr, D) := by
  refine zb_aload_n E dX7_faultFound_0 0 rfl rfl ?_
  refine zb_get E 33 (by decide) (zF_33 C.X) rfl zin7 10 (by decide) zw_148 (v := .int v_fault) (by exact congrArg (fun z => some (Value.int z)) e_v_fault) dX7_faultFound_1 ?_
  obtain rfl := zinj1 h
  exact zb_iret E hQ rfl ⟨Nat.zero_le _, Nat.zero_le _⟩ dX7_faultFound_4
theorem c_X7_faultFound {l : Launch} {X : zX} {I : Nat → Nat → Int32} {J : Nat → Nat → Int64} {Rr : Nat → Nat → Option Nat} {D : zD} (v_fault : Int32) (e_v_fault : I 33 10 = v_fault) {rr : Int32} (h : pReader_faultFound v_fault = some rr) : zMi l yX7_faultFound cX7_faultFound 1 (some .int) ({ frames := 0, cells := 0, slots := 0, locals := 0 } : Room) X [.ref (X.1 + 33)] (I, J, Rr, D) rr (I, J, Rr, D) := by
  refine zMi.of (by decide) (Nat.le_of_ble_eq_true rfl) (fun C E hl hX hQ => ?_)
  subst hl
  subst hX
  have eI0 : I = I := rfl
  have eJ0 : J = J := rfl
  refine zb_S (S2 := (I, J, Rr, D)) (zS_eq eI0.symm eJ0.symm) ?_
  exact c_X7_faultFound_0 v_fault e_v_fault rr E hQ h
-- ChequeredCloth$Reader.faultPlace
theorem dX7_faultPlace_0 : decode cX7_faultPlace 0 = .ok (.aload_n 0, 1) := by decide +kernel
theorem dX7_faultPlace_1 : decode cX7_faultPlace 1 = .ok (.getfield 25, 3) := by decide +kernel
theorem dX7_faultPlace_4 : decode cX7_faultPlace 4 = .ok (.ireturn, 1) := by decide +kernel
theorem zy_X7_faultPlace : zYv yX7_faultPlace cX7_faultPlace 1 (some .int) 0 := ⟨zw_874, zw_875, zw_6, zw_876, by decide, by decide, by decide⟩
theorem c_X7_faultPlace_0 {C : zC} {I : Nat → Nat → Int32} {J : Nat → Nat → Int64} {Rr : Nat → Nat → Option Nat} {D : zD} (v_faultAt : Int32) (e_v_faultAt : I 33 11 = v_faultAt) (rr : Int32) (E : zE C RX7 cX7_faultPlace 1 (some .int) ({ frames := 0, cells := 0, slots := 0, locals := 0 } : Room)) (hQ : C.Q = zQi C ({ frames := 0, cells := 0, slots := 0, locals := 0 } : Room) rr (I, J, Rr, D)) (h : pReader_faultPlace v_faultAt = some rr) : zB C (0, 0) 0 [(0, .ref (C.X.1 + 33))] [] (I, J, Rr, D) := by
  refine zb_aload_n E dX7_faultPlace_0 0 rfl rfl ?_
  refine zb_get E 33 (by decide) (zF_33 C.X) rfl zin7 11 (by decide) zw_149 (v := .int v_faultAt) (by exact congrArg (fun z => some (Value.int z)) e_v_faultAt) dX7_faultPlace_1 ?_
  obtain rfl := zinj1 h
  exact zb_iret E hQ rfl ⟨Nat.zero_le _, Nat.zero_le _⟩ dX7_faultPlace_4
theorem c_X7_faultPlace {l : Launch} {X : zX} {I : Nat → Nat → Int32} {J : Nat → Nat → Int64} {Rr : Nat → Nat → Option Nat} {D : zD} (v_faultAt : Int32) (e_v_faultAt : I 33 11 = v_faultAt) {rr : Int32} (h : pReader_faultPlace v_faultAt = some rr) : zMi l yX7_faultPlace cX7_faultPlace 1 (some .int) ({ frames := 0, cells := 0, slots := 0, locals := 0 } : Room) X [.ref (X.1 + 33)] (I, J, Rr, D) rr (I, J, Rr, D) := by
  refine zMi.of (by decide) (Nat.le_of_ble_eq_true rfl) (fun C E hl hX hQ => ?_)
  subst hl
  subst hX
  have eI0 : I = I := rfl
  have eJ0 : J = J := rfl
  refine zb_S (S2 := (I, J, Rr, D)) (zS_eq eI0.symm eJ0.symm) ?_
  exact c_X7_faultPlace_0 v_faultAt e_v_faultAt rr E hQ h
