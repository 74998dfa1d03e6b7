theorem dRef_set_0 : decode cRef_set 0 = .ok (.aload_n 0, 1) := by decide +kernel
theorem dRef_set_1 : decode cRef_set 1 = .ok (.iconst 0, 1) := by decide +kernel
theorem dRef_set_2 : decode cRef_set 2 = .ok (.putfield 90, 3) := by decide +kernel
theorem dRef_set_5 : decode cRef_set 5 = .ok (.aload_n 0, 1) := by decide +kernel
theorem dRef_set_6 : decode cRef_set 6 = .ok (.getfield 99, 3) := by decide +kernel
theorem dRef_set_9 : decode cRef_set 9 = .ok (.istore_n 3, 1) := by decide +kernel
theorem dRef_set_10 : decode cRef_set 10 = .ok (.aload_n 0, 1) := by decide +kernel
theorem dRef_set_11 : decode cRef_set 11 = .ok (.iconst 0, 1) := by decide +kernel
theorem dRef_set_12 : decode cRef_set 12 = .ok (.putfield 99, 3) := by decide +kernel
theorem dRef_set_15 : decode cRef_set 15 = .ok (.aload_n 0, 1) := by decide +kernel
theorem dRef_set_16 : decode cRef_set 16 = .ok (.iload_n 1, 1) := by decide +kernel
theorem dRef_set_17 : decode cRef_set 17 = .ok (.invokevirtual 102, 3) := by decide +kernel
theorem dRef_set_20 : decode cRef_set 20 = .ok (.ifCond .eq 22, 3) := by decide +kernel
theorem dRef_set_23 : decode cRef_set 23 = .ok (.aload_n 0, 1) := by decide +kernel
theorem dRef_set_24 : decode cRef_set 24 = .ok (.getfield 37, 3) := by decide +kernel
theorem dRef_set_27 : decode cRef_set 27 = .ok (.iload_n 1, 1) := by decide +kernel
theorem dRef_set_28 : decode cRef_set 28 = .ok (.baload, 1) := by decide +kernel
theorem dRef_set_29 : decode cRef_set 29 = .ok (.ifCond .ne 13, 3) := by decide +kernel
theorem dRef_set_32 : decode cRef_set 32 = .ok (.iload_n 2, 1) := by decide +kernel
theorem dRef_set_33 : decode cRef_set 33 = .ok (.ifCond .lt 9, 3) := by decide +kernel
theorem dRef_set_36 : decode cRef_set 36 = .ok (.iload_n 2, 1) := by decide +kernel
theorem dRef_set_37 : decode cRef_set 37 = .ok (.ldc 106, 2) := by decide +kernel
theorem dRef_set_39 : decode cRef_set 39 = .ok (.if_icmp .le 5, 3) := by decide +kernel
theorem dRef_set_42 : decode cRef_set 42 = .ok (.iconst (-1), 1) := by decide +kernel
theorem dRef_set_43 : decode cRef_set 43 = .ok (.ireturn, 1) := by decide +kernel
theorem dRef_set_44 : decode cRef_set 44 = .ok (.iload_n 3, 1) := by decide +kernel
theorem dRef_set_45 : decode cRef_set 45 = .ok (.iconst 4, 1) := by decide +kernel
theorem dRef_set_46 : decode cRef_set 46 = .ok (.if_icmp .lt 9, 3) := by decide +kernel
theorem dRef_set_49 : decode cRef_set 49 = .ok (.iload_n 3, 1) := by decide +kernel
theorem dRef_set_50 : decode cRef_set 50 = .ok (.bipush 12, 2) := by decide +kernel
theorem dRef_set_52 : decode cRef_set 52 = .ok (.if_icmp .le 6, 3) := by decide +kernel
theorem dRef_set_55 : decode cRef_set 55 = .ok (.bipush (-2), 2) := by decide +kernel
theorem dRef_set_57 : decode cRef_set 57 = .ok (.ireturn, 1) := by decide +kernel
theorem dRef_set_58 : decode cRef_set 58 = .ok (.iconst 0, 1) := by decide +kernel
theorem dRef_set_59 : decode cRef_set 59 = .ok (.istore 4, 2) := by decide +kernel
theorem dRef_set_61 : decode cRef_set 61 = .ok (.iload 4, 2) := by decide +kernel
theorem dRef_set_63 : decode cRef_set 63 = .ok (.iload_n 3, 1) := by decide +kernel
theorem dRef_set_64 : decode cRef_set 64 = .ok (.if_icmp .ge 24, 3) := by decide +kernel
theorem dRef_set_67 : decode cRef_set 67 = .ok (.aload_n 0, 1) := by decide +kernel
theorem dRef_set_68 : decode cRef_set 68 = .ok (.getfield 41, 3) := by decide +kernel
theorem dRef_set_71 : decode cRef_set 71 = .ok (.iload 4, 2) := by decide +kernel
theorem dRef_set_73 : decode cRef_set 73 = .ok (.iaload, 1) := by decide +kernel
theorem dRef_set_74 : decode cRef_set 74 = .ok (.bipush 32, 2) := by decide +kernel
theorem dRef_set_76 : decode cRef_set 76 = .ok (.if_icmp .ne 6, 3) := by decide +kernel
theorem dRef_set_79 : decode cRef_set 79 = .ok (.bipush (-2), 2) := by decide +kernel
theorem dRef_set_81 : decode cRef_set 81 = .ok (.ireturn, 1) := by decide +kernel
theorem dRef_set_82 : decode cRef_set 82 = .ok (.iinc 4 1, 3) := by decide +kernel
theorem dRef_set_85 : decode cRef_set 85 = .ok (.goto (-24), 3) := by decide +kernel
theorem dRef_set_88 : decode cRef_set 88 = .ok (.iconst 0, 1) := by decide +kernel
theorem dRef_set_89 : decode cRef_set 89 = .ok (.istore 4, 2) := by decide +kernel
theorem dRef_set_91 : decode cRef_set 91 = .ok (.iload 4, 2) := by decide +kernel
theorem dRef_set_93 : decode cRef_set 93 = .ok (.aload_n 0, 1) := by decide +kernel
theorem dRef_set_94 : decode cRef_set 94 = .ok (.getfield 93, 3) := by decide +kernel
theorem dRef_set_97 : decode cRef_set 97 = .ok (.if_icmp .ge 42, 3) := by decide +kernel
theorem dRef_set_100 : decode cRef_set 100 = .ok (.aload_n 0, 1) := by decide +kernel
theorem dRef_set_101 : decode cRef_set 101 = .ok (.aload_n 0, 1) := by decide +kernel
theorem dRef_set_102 : decode cRef_set 102 = .ok (.getfield 28, 3) := by decide +kernel
theorem dRef_set_105 : decode cRef_set 105 = .ok (.iload 4, 2) := by decide +kernel
theorem dRef_set_107 : decode cRef_set 107 = .ok (.iaload, 1) := by decide +kernel
theorem dRef_set_108 : decode cRef_set 108 = .ok (.iload_n 3, 1) := by decide +kernel
theorem dRef_set_109 : decode cRef_set 109 = .ok (.invokevirtual 107, 3) := by decide +kernel
theorem dRef_set_112 : decode cRef_set 112 = .ok (.ifCond .ne 18, 3) := by decide +kernel
theorem dRef_set_115 : decode cRef_set 115 = .ok (.aload_n 0, 1) := by decide +kernel
theorem dRef_set_116 : decode cRef_set 116 = .ok (.aload_n 0, 1) := by decide +kernel
theorem dRef_set_117 : decode cRef_set 117 = .ok (.getfield 31, 3) := by decide +kernel
theorem dRef_set_120 : decode cRef_set 120 = .ok (.iload 4, 2) := by decide +kernel
theorem dRef_set_122 : decode cRef_set 122 = .ok (.iaload, 1) := by decide +kernel
theorem dRef_set_123 : decode cRef_set 123 = .ok (.iload_n 3, 1) := by decide +kernel
theorem dRef_set_124 : decode cRef_set 124 = .ok (.invokevirtual 107, 3) := by decide +kernel
theorem dRef_set_127 : decode cRef_set 127 = .ok (.ifCond .eq 6, 3) := by decide +kernel
theorem dRef_set_130 : decode cRef_set 130 = .ok (.bipush (-3), 2) := by decide +kernel
theorem dRef_set_132 : decode cRef_set 132 = .ok (.ireturn, 1) := by decide +kernel
theorem dRef_set_133 : decode cRef_set 133 = .ok (.iinc 4 1, 3) := by decide +kernel
theorem dRef_set_136 : decode cRef_set 136 = .ok (.goto (-45), 3) := by decide +kernel
theorem dRef_set_139 : decode cRef_set 139 = .ok (.aload_n 0, 1) := by decide +kernel
theorem dRef_set_140 : decode cRef_set 140 = .ok (.getfield 111, 3) := by decide +kernel
theorem dRef_set_143 : decode cRef_set 143 = .ok (.bipush 24, 2) := by decide +kernel
theorem dRef_set_145 : decode cRef_set 145 = .ok (.if_icmp .ne 6, 3) := by decide +kernel
theorem dRef_set_148 : decode cRef_set 148 = .ok (.bipush (-4), 2) := by decide +kernel
theorem dRef_set_150 : decode cRef_set 150 = .ok (.ireturn, 1) := by decide +kernel
theorem dRef_set_151 : decode cRef_set 151 = .ok (.aload_n 0, 1) := by decide +kernel
theorem dRef_set_152 : decode cRef_set 152 = .ok (.getfield 7, 3) := by decide +kernel
theorem dRef_set_155 : decode cRef_set 155 = .ok (.aload_n 0, 1) := by decide +kernel
theorem dRef_set_156 : decode cRef_set 156 = .ok (.getfield 111, 3) := by decide +kernel
theorem dRef_set_159 : decode cRef_set 159 = .ok (.iload_n 1, 1) := by decide +kernel
theorem dRef_set_160 : decode cRef_set 160 = .ok (.iastore, 1) := by decide +kernel
theorem dRef_set_161 : decode cRef_set 161 = .ok (.aload_n 0, 1) := by decide +kernel
theorem dRef_set_162 : decode cRef_set 162 = .ok (.getfield 13, 3) := by decide +kernel
theorem dRef_set_165 : decode cRef_set 165 = .ok (.aload_n 0, 1) := by decide +kernel
theorem dRef_set_166 : decode cRef_set 166 = .ok (.getfield 111, 3) := by decide +kernel
theorem dRef_set_169 : decode cRef_set 169 = .ok (.iload_n 3, 1) := by decide +kernel
theorem dRef_set_170 : decode cRef_set 170 = .ok (.iastore, 1) := by decide +kernel
theorem dRef_set_171 : decode cRef_set 171 = .ok (.iconst 0, 1) := by decide +kernel
theorem dRef_set_172 : decode cRef_set 172 = .ok (.istore 4, 2) := by decide +kernel
theorem dRef_set_174 : decode cRef_set 174 = .ok (.iload 4, 2) := by decide +kernel
theorem dRef_set_176 : decode cRef_set 176 = .ok (.iload_n 3, 1) := by decide +kernel
theorem dRef_set_177 : decode cRef_set 177 = .ok (.if_icmp .ge 31, 3) := by decide +kernel
theorem dRef_set_180 : decode cRef_set 180 = .ok (.aload_n 0, 1) := by decide +kernel
theorem dRef_set_181 : decode cRef_set 181 = .ok (.getfield 16, 3) := by decide +kernel
theorem dRef_set_184 : decode cRef_set 184 = .ok (.bipush 12, 2) := by decide +kernel
theorem dRef_set_186 : decode cRef_set 186 = .ok (.aload_n 0, 1) := by decide +kernel
theorem dRef_set_187 : decode cRef_set 187 = .ok (.getfield 111, 3) := by decide +kernel
theorem dRef_set_190 : decode cRef_set 190 = .ok (.imul, 1) := by decide +kernel
theorem dRef_set_191 : decode cRef_set 191 = .ok (.iload 4, 2) := by decide +kernel
theorem dRef_set_193 : decode cRef_set 193 = .ok (.iadd, 1) := by decide +kernel
theorem dRef_set_194 : decode cRef_set 194 = .ok (.aload_n 0, 1) := by decide +kernel
theorem dRef_set_195 : decode cRef_set 195 = .ok (.getfield 41, 3) := by decide +kernel
theorem dRef_set_198 : decode cRef_set 198 = .ok (.iload 4, 2) := by decide +kernel
theorem dRef_set_200 : decode cRef_set 200 = .ok (.iaload, 1) := by decide +kernel
theorem dRef_set_201 : decode cRef_set 201 = .ok (.iastore, 1) := by decide +kernel
theorem dRef_set_202 : decode cRef_set 202 = .ok (.iinc 4 1, 3) := by decide +kernel
theorem dRef_set_205 : decode cRef_set 205 = .ok (.goto (-31), 3) := by decide +kernel
theorem dRef_set_208 : decode cRef_set 208 = .ok (.aload_n 0, 1) := by decide +kernel
theorem dRef_set_209 : decode cRef_set 209 = .ok (.getfield 28, 3) := by decide +kernel
theorem dRef_set_212 : decode cRef_set 212 = .ok (.iload_n 1, 1) := by decide +kernel
theorem dRef_set_213 : decode cRef_set 213 = .ok (.iaload, 1) := by decide +kernel
theorem dRef_set_214 : decode cRef_set 214 = .ok (.iconst (-1), 1) := by decide +kernel
theorem dRef_set_215 : decode cRef_set 215 = .ok (.if_icmp .eq 27, 3) := by decide +kernel
theorem dRef_set_218 : decode cRef_set 218 = .ok (.aload_n 0, 1) := by decide +kernel
theorem dRef_set_219 : decode cRef_set 219 = .ok (.getfield 31, 3) := by decide +kernel
theorem dRef_set_222 : decode cRef_set 222 = .ok (.iload_n 1, 1) := by decide +kernel
theorem dRef_set_223 : decode cRef_set 223 = .ok (.aload_n 0, 1) := by decide +kernel
theorem dRef_set_224 : decode cRef_set 224 = .ok (.getfield 28, 3) := by decide +kernel
theorem dRef_set_227 : decode cRef_set 227 = .ok (.iload_n 1, 1) := by decide +kernel
theorem dRef_set_228 : decode cRef_set 228 = .ok (.iaload, 1) := by decide +kernel
theorem dRef_set_229 : decode cRef_set 229 = .ok (.iastore, 1) := by decide +kernel
theorem dRef_set_230 : decode cRef_set 230 = .ok (.aload_n 0, 1) := by decide +kernel
theorem dRef_set_231 : decode cRef_set 231 = .ok (.getfield 34, 3) := by decide +kernel
theorem dRef_set_234 : decode cRef_set 234 = .ok (.iload_n 1, 1) := by decide +kernel
theorem dRef_set_235 : decode cRef_set 235 = .ok (.aload_n 0, 1) := by decide +kernel
theorem dRef_set_236 : decode cRef_set 236 = .ok (.getfield 114, 3) := by decide +kernel
theorem dRef_set_239 : decode cRef_set 239 = .ok (.iload_n 2, 1) := by decide +kernel
theorem dRef_set_240 : decode cRef_set 240 = .ok (.iadd, 1) := by decide +kernel
theorem dRef_set_241 : decode cRef_set 241 = .ok (.iastore, 1) := by decide +kernel
theorem dRef_set_242 : decode cRef_set 242 = .ok (.aload_n 0, 1) := by decide +kernel
theorem dRef_set_243 : decode cRef_set 243 = .ok (.getfield 28, 3) := by decide +kernel
theorem dRef_set_246 : decode cRef_set 246 = .ok (.iload_n 1, 1) := by decide +kernel
theorem dRef_set_247 : decode cRef_set 247 = .ok (.aload_n 0, 1) := by decide +kernel
theorem dRef_set_248 : decode cRef_set 248 = .ok (.getfield 111, 3) := by decide +kernel
theorem dRef_set_251 : decode cRef_set 251 = .ok (.iastore, 1) := by decide +kernel
theorem dRef_set_252 : decode cRef_set 252 = .ok (.aload_n 0, 1) := by decide +kernel
theorem dRef_set_253 : decode cRef_set 253 = .ok (.dup, 1) := by decide +kernel
theorem dRef_set_254 : decode cRef_set 254 = .ok (.getfield 111, 3) := by decide +kernel
theorem dRef_set_257 : decode cRef_set 257 = .ok (.iconst 1, 1) := by decide +kernel
theorem dRef_set_258 : decode cRef_set 258 = .ok (.iadd, 1) := by decide +kernel
theorem dRef_set_259 : decode cRef_set 259 = .ok (.putfield 111, 3) := by decide +kernel
theorem dRef_set_262 : decode cRef_set 262 = .ok (.iconst 1, 1) := by decide +kernel
theorem dRef_set_263 : decode cRef_set 263 = .ok (.ireturn, 1) := by decide +kernel
theorem dRef_revoke_0 : decode cRef_revoke 0 = .ok (.aload_n 0, 1) := by decide +kernel
theorem dRef_revoke_1 : decode cRef_revoke 1 = .ok (.iconst 0, 1) := by decide +kernel
theorem dRef_revoke_2 : decode cRef_revoke 2 = .ok (.putfield 90, 3) := by decide +kernel
theorem dRef_revoke_5 : decode cRef_revoke 5 = .ok (.aload_n 0, 1) := by decide +kernel
theorem dRef_revoke_6 : decode cRef_revoke 6 = .ok (.iload_n 1, 1) := by decide +kernel
theorem dRef_revoke_7 : decode cRef_revoke 7 = .ok (.invokevirtual 102, 3) := by decide +kernel
theorem dRef_revoke_10 : decode cRef_revoke 10 = .ok (.ifCond .eq 12, 3) := by decide +kernel
theorem dRef_revoke_13 : decode cRef_revoke 13 = .ok (.aload_n 0, 1) := by decide +kernel
theorem dRef_revoke_14 : decode cRef_revoke 14 = .ok (.getfield 37, 3) := by decide +kernel
theorem dRef_revoke_17 : decode cRef_revoke 17 = .ok (.iload_n 1, 1) := by decide +kernel
theorem dRef_revoke_18 : decode cRef_revoke 18 = .ok (.baload, 1) := by decide +kernel
theorem dRef_revoke_19 : decode cRef_revoke 19 = .ok (.ifCond .eq 5, 3) := by decide +kernel
theorem dRef_revoke_22 : decode cRef_revoke 22 = .ok (.iconst 0, 1) := by decide +kernel
theorem dRef_revoke_23 : decode cRef_revoke 23 = .ok (.ireturn, 1) := by decide +kernel
theorem dRef_revoke_24 : decode cRef_revoke 24 = .ok (.aload_n 0, 1) := by decide +kernel
theorem dRef_revoke_25 : decode cRef_revoke 25 = .ok (.getfield 37, 3) := by decide +kernel
theorem dRef_revoke_28 : decode cRef_revoke 28 = .ok (.iload_n 1, 1) := by decide +kernel
theorem dRef_revoke_29 : decode cRef_revoke 29 = .ok (.iconst 1, 1) := by decide +kernel
theorem dRef_revoke_30 : decode cRef_revoke 30 = .ok (.bastore, 1) := by decide +kernel
theorem dRef_revoke_31 : decode cRef_revoke 31 = .ok (.iconst 1, 1) := by decide +kernel
theorem dRef_revoke_32 : decode cRef_revoke 32 = .ok (.ireturn, 1) := by decide +kernel
theorem dRef_tick_0 : decode cRef_tick 0 = .ok (.aload_n 0, 1) := by decide +kernel
theorem dRef_tick_1 : decode cRef_tick 1 = .ok (.iconst 0, 1) := by decide +kernel
theorem dRef_tick_2 : decode cRef_tick 2 = .ok (.putfield 90, 3) := by decide +kernel
theorem dRef_tick_5 : decode cRef_tick 5 = .ok (.iload_n 1, 1) := by decide +kernel
theorem dRef_tick_6 : decode cRef_tick 6 = .ok (.ifCond .lt 20, 3) := by decide +kernel
theorem dRef_tick_9 : decode cRef_tick 9 = .ok (.iload_n 1, 1) := by decide +kernel
theorem dRef_tick_10 : decode cRef_tick 10 = .ok (.ldc 106, 2) := by decide +kernel
theorem dRef_tick_12 : decode cRef_tick 12 = .ok (.if_icmp .gt 14, 3) := by decide +kernel
theorem dRef_tick_15 : decode cRef_tick 15 = .ok (.aload_n 0, 1) := by decide +kernel
theorem dRef_tick_16 : decode cRef_tick 16 = .ok (.getfield 114, 3) := by decide +kernel
theorem dRef_tick_19 : decode cRef_tick 19 = .ok (.iload_n 1, 1) := by decide +kernel
theorem dRef_tick_20 : decode cRef_tick 20 = .ok (.iadd, 1) := by decide +kernel
theorem dRef_tick_21 : decode cRef_tick 21 = .ok (.ldc 117, 2) := by decide +kernel
theorem dRef_tick_23 : decode cRef_tick 23 = .ok (.if_icmp .le 5, 3) := by decide +kernel
theorem dRef_tick_26 : decode cRef_tick 26 = .ok (.iconst (-1), 1) := by decide +kernel
theorem dRef_tick_27 : decode cRef_tick 27 = .ok (.ireturn, 1) := by decide +kernel
theorem dRef_tick_28 : decode cRef_tick 28 = .ok (.aload_n 0, 1) := by decide +kernel
theorem dRef_tick_29 : decode cRef_tick 29 = .ok (.dup, 1) := by decide +kernel
theorem dRef_tick_30 : decode cRef_tick 30 = .ok (.getfield 114, 3) := by decide +kernel
theorem dRef_tick_33 : decode cRef_tick 33 = .ok (.iload_n 1, 1) := by decide +kernel
theorem dRef_tick_34 : decode cRef_tick 34 = .ok (.iadd, 1) := by decide +kernel
theorem dRef_tick_35 : decode cRef_tick 35 = .ok (.putfield 114, 3) := by decide +kernel
theorem dRef_tick_38 : decode cRef_tick 38 = .ok (.aload_n 0, 1) := by decide +kernel
theorem dRef_tick_39 : decode cRef_tick 39 = .ok (.getfield 114, 3) := by decide +kernel
theorem dRef_tick_42 : decode cRef_tick 42 = .ok (.ireturn, 1) := by decide +kernel
def fRef_set_J242 (n : Nat) (a0b : Nat) (i1b : Int32) (z : gS) : Option (Int32 × gS) :=
    (g_fR z a0b 9 13).bind fun r_69 =>
    (g_fI z a0b 9 3).bind fun v_70 =>
    r_69.bind fun a_71 =>
    (g_stI z .int a_71 i1b v_70).bind fun z_72 =>
    (g_fI z_72 a0b 9 3).bind fun v_73 =>
    (g_pF z_72 a0b 9 3 (.int (v_73 + 1))).bind fun z_74 =>
    some (1, z_74)
set_option maxHeartbeats 4000000 in
set_option maxRecDepth 100000 in
theorem bRef_set_242 {p : Program} {l : Launch} {e : Env} {s : State} {m : MethodId} {args : Array Value} {below : List Frame} {meth : Method} {c : Code} {D : va_G} {A : Nat → Prop} (C : g_C p s m meth c args cRef_set 5 (some .int) "SecretRowsModel" gW D vwCl gNN gOO A) (n : Nat) {r : Int32} {z' : gS} : ∀ (a0b : Nat) (i1b : Int32) (z : gS) (H : Heap) (locs : List Loc) (ls : Array Slot), fRef_set_J242 n a0b i1b z = some (r, z') → g_W D vwCl A z s H → va_S A s.heap H locs → lv_has ls 5 [(0, .ref a0b), (1, .int i1b)] → W p l e (headSpec wsRef_set ({ frames := 1, cells := 0, slots := 0, locals := 24 })).room s m args below meth c H locs 0 0 (MQ below (g_Qi D vwCl A r z') args s 0 0 A) (F0 m 242 ls []) := by
  obtain ⟨hx, hb, hr, hml, hown, hts, hlocks, hK, hA⟩ := id C
  intro a0b i1b z H locs ls hf hW hS hl
  unfold fRef_set_J242 at hf
  refine lv_aload_n hx hb dRef_set_242 rfl (lv_at hl 0 rfl) ?_
  replace hf := g_bd hf
  obtain ⟨r_69, hr_69, hf⟩ := hf
  refine g_getR hx hb hts in_Ref hown hK hW (ci := 9) (C := "SecretRowsModel") (T := T_Ref) (N := 36) rfl (k := 13) (by decide) (hts _ kw_533) (fun _ h9 => h9) hr_69 dRef_set_243 ?_
  refine lv_iload_n hx hb dRef_set_246 rfl (lv_at hl 1 rfl) ?_
  refine lv_aload_n hx hb dRef_set_247 rfl (lv_at hl 0 rfl) ?_
  replace hf := g_bd hf
  obtain ⟨v_70, hv_70, hf⟩ := hf
  refine g_getI hx hb hts in_Ref hown hK hW (ci := 9) (C := "SecretRowsModel") (T := T_Ref) (N := 36) rfl (k := 3) (by decide) (hts _ kw_523) (fun _ h9 => h9) hv_70 dRef_set_248 ?_
  replace hf := g_bd hf
  obtain ⟨a_71, ea_71, hf⟩ := hf
  subst ea_71
  refine W.eq (g2 := F0 m 251 _ [.int v_70, .int i1b, .ref a_71]) rfl ?_
  replace hf := g_bd hf
  obtain ⟨z_72, hz_72, hf⟩ := hf
  refine g_ast_i hx hb hW hS hz_72 dRef_set_251 (fun H locs hW hS => ?_)
  refine lv_aload_n hx hb dRef_set_252 rfl (lv_at hl 0 rfl) ?_
  refine lv_dup hx hb dRef_set_253 rfl ?_
  replace hf := g_bd hf
  obtain ⟨v_73, hv_73, hf⟩ := hf
  refine g_getI hx hb hts in_Ref hown hK hW (ci := 9) (C := "SecretRowsModel") (T := T_Ref) (N := 36) rfl (k := 3) (by decide) (hts _ kw_523) (fun _ h9 => h9) hv_73 dRef_set_254 ?_
  refine lv_iconst (v := 1) hx hb dRef_set_257 (by decide) ?_
  refine lv_iadd hx hb dRef_set_258 ?_
  replace hf := g_bd hf
  obtain ⟨z_74, hz_74, hf⟩ := hf
  refine g_put hx hb hts in_Ref ty_Ref tyok_Ref nm_Ref hown hK hW hS (ci := 9) (C := "SecretRowsModel") (T := T_Ref) (N := 36) rfl (k := 3) (by decide) (hts _ kw_523) (fun _ h9 => h9) rfl (ty := .int) (by decide +kernel) rfl rfl hz_74 dRef_set_259 (fun H locs hW hS => ?_)
  refine lv_iconst (v := 1) hx hb dRef_set_262 (by decide) ?_
  cases hf
  exact g_reti hx hb hr hlocks hW hS (Nat.le_of_ble_eq_true rfl) (Nat.le_of_ble_eq_true rfl) dRef_set_263
def fRef_set_L174 (n : Nat) : Nat → Nat → Int32 → Int32 → Int32 → Int32 → gS → Option (Int32 × gS)
  | 0, _, _, _, _, _, _ => none
  | k + 1, a0b, i1b, i2b, i3b, i4b, z =>
    if i3b ≤ i4b then (
    (g_fR z a0b 9 13).bind fun r_48 =>
    r_48.bind fun a_49 =>
    (g_ldI z .int a_49 i1b).bind fun v_50 =>
    if v_50 = (-1) then (
    fRef_set_J242 n a0b i1b z)
    else (
    (g_fR z a0b 9 14).bind fun r_52 =>
    (g_fR z a0b 9 13).bind fun r_53 =>
    r_53.bind fun a_54 =>
    (g_ldI z .int a_54 i1b).bind fun v_55 =>
    r_52.bind fun a_56 =>
    (g_stI z .int a_56 i1b v_55).bind fun z_57 =>
    (g_fR z_57 a0b 9 15).bind fun r_58 =>
    (g_fI z_57 a0b 9 1).bind fun v_59 =>
    r_58.bind fun a_60 =>
    (g_stI z_57 .int a_60 i1b (v_59 + i2b)).bind fun z_61 =>
    fRef_set_J242 n a0b i1b z_61))
    else (
    (g_fR z a0b 9 9).bind fun r_62 =>
    (g_fI z a0b 9 3).bind fun v_63 =>
    (g_fR z a0b 9 17).bind fun r_64 =>
    r_64.bind fun a_65 =>
    (g_ldI z .int a_65 i4b).bind fun v_66 =>
    r_62.bind fun a_67 =>
    (g_stI z .int a_67 ((12 * v_63) + i4b) v_66).bind fun z_68 =>
    fRef_set_L174 n k a0b i1b i2b i3b (i4b + 1) z_68)
set_option maxHeartbeats 4000000 in
set_option maxRecDepth 100000 in
theorem bRef_set_174 {p : Program} {l : Launch} {e : Env} {s : State} {m : MethodId} {args : Array Value} {below : List Frame} {meth : Method} {c : Code} {D : va_G} {A : Nat → Prop} (C : g_C p s m meth c args cRef_set 5 (some .int) "SecretRowsModel" gW D vwCl gNN gOO A) (n : Nat) {r : Int32} {z' : gS} : ∀ k : Nat, ∀ (a0b : Nat) (i1b : Int32) (i2b : Int32) (i3b : Int32) (i4b : Int32) (z : gS) (H : Heap) (locs : List Loc) (ls : Array Slot), fRef_set_L174 n k a0b i1b i2b i3b i4b z = some (r, z') → g_W D vwCl A z s H → va_S A s.heap H locs → lv_has ls 5 [(0, .ref a0b), (1, .int i1b), (2, .int i2b), (3, .int i3b), (4, .int i4b)] → W p l e (headSpec wsRef_set ({ frames := 1, cells := 0, slots := 0, locals := 24 })).room s m args below meth c H locs 0 0 (MQ below (g_Qi D vwCl A r z') args s 0 0 A) (F0 m 174 ls []) := by
  obtain ⟨hx, hb, hr, hml, hown, hts, hlocks, hK, hA⟩ := id C
  intro k
  induction k with
  | zero =>
    intro a0b i1b i2b i3b i4b z H locs ls hf
    have hf : (none : Option (Int32 × gS)) = some _ := hf
    cases hf
  | succ k ih =>
    intro a0b i1b i2b i3b i4b z H locs ls hf hW hS hl
    rw [fRef_set_L174] at hf
    refine lv_iload hx hb dRef_set_174 (lv_at hl 4 rfl) ?_
    refine lv_iload_n hx hb dRef_set_176 rfl (lv_at hl 3 rfl) ?_
    refine lv_icmp_ge (tgt := 208) hx hb dRef_set_177 (by decide) (fun c_47 => ?_) (fun c_47 => ?_)
    · replace hf := g_it c_47 hf
      refine lv_aload_n hx hb dRef_set_208 rfl (lv_at hl 0 rfl) ?_
      replace hf := g_bd hf
      obtain ⟨r_48, hr_48, hf⟩ := hf
      refine g_getR hx hb hts in_Ref hown hK hW (ci := 9) (C := "SecretRowsModel") (T := T_Ref) (N := 36) rfl (k := 13) (by decide) (hts _ kw_533) (fun _ h9 => h9) hr_48 dRef_set_209 ?_
      refine lv_iload_n hx hb dRef_set_212 rfl (lv_at hl 1 rfl) ?_
      replace hf := g_bd hf
      obtain ⟨a_49, ea_49, hf⟩ := hf
      subst ea_49
      refine W.eq (g2 := F0 m 213 _ [.int i1b, .ref a_49]) rfl ?_
      replace hf := g_bd hf
      obtain ⟨v_50, hv_50, hf⟩ := hf
      refine g_ald_i hx hb hK hW hv_50 dRef_set_213 ?_
      refine lv_iconst (v := (-1)) hx hb dRef_set_214 (by decide) ?_
      refine lv_icmp_eq (tgt := 242) hx hb dRef_set_215 (by decide) (fun c_51 => ?_) (fun c_51 => ?_)
      · replace hf := g_it c_51 hf
        exact bRef_set_242 C n a0b i1b _ _ _ _ hf hW hS (lv_sub hl [0, 1] rfl)
      · replace hf := g_if c_51 hf
        refine lv_aload_n hx hb dRef_set_218 rfl (lv_at hl 0 rfl) ?_
        replace hf := g_bd hf
        obtain ⟨r_52, hr_52, hf⟩ := hf
        refine g_getR hx hb hts in_Ref hown hK hW (ci := 9) (C := "SecretRowsModel") (T := T_Ref) (N := 36) rfl (k := 14) (by decide) (hts _ kw_534) (fun _ h9 => h9) hr_52 dRef_set_219 ?_
        refine lv_iload_n hx hb dRef_set_222 rfl (lv_at hl 1 rfl) ?_
        refine lv_aload_n hx hb dRef_set_223 rfl (lv_at hl 0 rfl) ?_
        replace hf := g_bd hf
        obtain ⟨r_53, hr_53, hf⟩ := hf
        refine g_getR hx hb hts in_Ref hown hK hW (ci := 9) (C := "SecretRowsModel") (T := T_Ref) (N := 36) rfl (k := 13) (by decide) (hts _ kw_533) (fun _ h9 => h9) hr_53 dRef_set_224 ?_
        refine lv_iload_n hx hb dRef_set_227 rfl (lv_at hl 1 rfl) ?_
        replace hf := g_bd hf
        obtain ⟨a_54, ea_54, hf⟩ := hf
        subst ea_54
        refine W.eq (g2 := F0 m 228 _ [.int i1b, .ref a_54, .int i1b, va_rf r_52]) rfl ?_
        replace hf := g_bd hf
        obtain ⟨v_55, hv_55, hf⟩ := hf
        refine g_ald_i hx hb hK hW hv_55 dRef_set_228 ?_
        replace hf := g_bd hf
        obtain ⟨a_56, ea_56, hf⟩ := hf
        subst ea_56
        refine W.eq (g2 := F0 m 229 _ [.int v_55, .int i1b, .ref a_56]) rfl ?_
        replace hf := g_bd hf
        obtain ⟨z_57, hz_57, hf⟩ := hf
        refine g_ast_i hx hb hW hS hz_57 dRef_set_229 (fun H locs hW hS => ?_)
        refine lv_aload_n hx hb dRef_set_230 rfl (lv_at hl 0 rfl) ?_
        replace hf := g_bd hf
        obtain ⟨r_58, hr_58, hf⟩ := hf
        refine g_getR hx hb hts in_Ref hown hK hW (ci := 9) (C := "SecretRowsModel") (T := T_Ref) (N := 36) rfl (k := 15) (by decide) (hts _ kw_535) (fun _ h9 => h9) hr_58 dRef_set_231 ?_
        refine lv_iload_n hx hb dRef_set_234 rfl (lv_at hl 1 rfl) ?_
        refine lv_aload_n hx hb dRef_set_235 rfl (lv_at hl 0 rfl) ?_
        replace hf := g_bd hf
        obtain ⟨v_59, hv_59, hf⟩ := hf
        refine g_getI hx hb hts in_Ref hown hK hW (ci := 9) (C := "SecretRowsModel") (T := T_Ref) (N := 36) rfl (k := 1) (by decide) (hts _ kw_521) (fun _ h9 => h9) hv_59 dRef_set_236 ?_
        refine lv_iload_n hx hb dRef_set_239 rfl (lv_at hl 2 rfl) ?_
        refine lv_iadd hx hb dRef_set_240 ?_
        replace hf := g_bd hf
        obtain ⟨a_60, ea_60, hf⟩ := hf
        subst ea_60
        refine W.eq (g2 := F0 m 241 _ [.int (v_59 + i2b), .int i1b, .ref a_60]) rfl ?_
        replace hf := g_bd hf
        obtain ⟨z_61, hz_61, hf⟩ := hf
        refine g_ast_i hx hb hW hS hz_61 dRef_set_241 (fun H locs hW hS => ?_)
        exact bRef_set_242 C n a0b i1b _ _ _ _ hf hW hS (lv_sub hl [0, 1] rfl)
    · replace hf := g_if c_47 hf
      refine lv_aload_n hx hb dRef_set_180 rfl (lv_at hl 0 rfl) ?_
      replace hf := g_bd hf
      obtain ⟨r_62, hr_62, hf⟩ := hf
      refine g_getR hx hb hts in_Ref hown hK hW (ci := 9) (C := "SecretRowsModel") (T := T_Ref) (N := 36) rfl (k := 9) (by decide) (hts _ kw_529) (fun _ h9 => h9) hr_62 dRef_set_181 ?_
      refine lv_bipush (v := 12) hx hb dRef_set_184 (by decide) ?_
      refine lv_aload_n hx hb dRef_set_186 rfl (lv_at hl 0 rfl) ?_
      replace hf := g_bd hf
      obtain ⟨v_63, hv_63, hf⟩ := hf
      refine g_getI hx hb hts in_Ref hown hK hW (ci := 9) (C := "SecretRowsModel") (T := T_Ref) (N := 36) rfl (k := 3) (by decide) (hts _ kw_523) (fun _ h9 => h9) hv_63 dRef_set_187 ?_
      refine lv_imul hx hb dRef_set_190 ?_
      refine lv_iload hx hb dRef_set_191 (lv_at hl 4 rfl) ?_
      refine lv_iadd hx hb dRef_set_193 ?_
      refine lv_aload_n hx hb dRef_set_194 rfl (lv_at hl 0 rfl) ?_
      replace hf := g_bd hf
      obtain ⟨r_64, hr_64, hf⟩ := hf
      refine g_getR hx hb hts in_Ref hown hK hW (ci := 9) (C := "SecretRowsModel") (T := T_Ref) (N := 36) rfl (k := 17) (by decide) (hts _ kw_537) (fun _ h9 => h9) hr_64 dRef_set_195 ?_
      refine lv_iload hx hb dRef_set_198 (lv_at hl 4 rfl) ?_
      replace hf := g_bd hf
      obtain ⟨a_65, ea_65, hf⟩ := hf
      subst ea_65
      refine W.eq (g2 := F0 m 200 _ [.int i4b, .ref a_65, .int ((12 * v_63) + i4b), va_rf r_62]) rfl ?_
      replace hf := g_bd hf
      obtain ⟨v_66, hv_66, hf⟩ := hf
      refine g_ald_i hx hb hK hW hv_66 dRef_set_200 ?_
      replace hf := g_bd hf
      obtain ⟨a_67, ea_67, hf⟩ := hf
      subst ea_67
      refine W.eq (g2 := F0 m 201 _ [.int v_66, .int ((12 * v_63) + i4b), .ref a_67]) rfl ?_
      replace hf := g_bd hf
      obtain ⟨z_68, hz_68, hf⟩ := hf
      refine g_ast_i hx hb hW hS hz_68 dRef_set_201 (fun H locs hW hS => ?_)
      refine lv_iinc (v := (i4b + 1)) (lv' := [(4, .int (i4b + 1)), (0, .ref a0b), (1, .int i1b), (2, .int i2b), (3, .int i3b)]) hx hb dRef_set_202 hl (k := 4) rfl rfl (by decide) rfl (fun _ hl1 => ?_)
      clear hl
      have hl := hl1
      clear hl1
      refine lv_goto (tgt := 174) hx hb dRef_set_205 (by decide) ?_
      exact ih a0b i1b i2b i3b (i4b + 1) _ _ _ _ hf hW hS (lv_sub hl [1, 2, 3, 4, 0] rfl)
def fRef_set_L91 (n : Nat) : Nat → Nat → Int32 → Int32 → Int32 → Int32 → gS → Option (Int32 × gS)
  | 0, _, _, _, _, _, _ => none
  | k + 1, a0b, i1b, i2b, i3b, i4b, z =>
    (g_fI z a0b 9 2).bind fun v_21 =>
    if v_21 ≤ i4b then (
    (g_fI z a0b 9 3).bind fun v_23 =>
    if v_23 = 24 then (
    some ((-4), z))
    else (
    (g_fR z a0b 9 7).bind fun r_25 =>
    (g_fI z a0b 9 3).bind fun v_26 =>
    r_25.bind fun a_27 =>
    (g_stI z .int a_27 v_26 i1b).bind fun z_28 =>
    (g_fR z_28 a0b 9 8).bind fun r_29 =>
    (g_fI z_28 a0b 9 3).bind fun v_30 =>
    r_29.bind fun a_31 =>
    (g_stI z_28 .int a_31 v_30 i3b).bind fun z_32 =>
    fRef_set_L174 n n a0b i1b i2b i3b 0 z_32))
    else (
    (g_fR z a0b 9 13).bind fun r_33 =>
    r_33.bind fun a_34 =>
    (g_ldI z .int a_34 i4b).bind fun v_35 =>
    (g_is z a0b 9).bind fun _ =>
    g_bp (fRef_isTaped n a0b v_35 i3b z) fun v_38 z_37 =>
    if v_38 = 0 then (
    (g_fR z_37 a0b 9 14).bind fun r_40 =>
    r_40.bind fun a_41 =>
    (g_ldI z_37 .int a_41 i4b).bind fun v_42 =>
    (g_is z_37 a0b 9).bind fun _ =>
    g_bp (fRef_isTaped n a0b v_42 i3b z_37) fun v_45 z_44 =>
    if v_45 = 0 then (
    fRef_set_L91 n k a0b i1b i2b i3b (i4b + 1) z_44)
    else (
    some ((-3), z_44)))
    else (
    some ((-3), z_37)))
set_option maxHeartbeats 4000000 in
set_option maxRecDepth 100000 in
theorem bRef_set_91 {p : Program} {l : Launch} {e : Env} {s : State} {m : MethodId} {args : Array Value} {below : List Frame} {meth : Method} {c : Code} {D : va_G} {A : Nat → Prop} (C : g_C p s m meth c args cRef_set 5 (some .int) "SecretRowsModel" gW D vwCl gNN gOO A) (n : Nat) {r : Int32} {z' : gS} : ∀ k : Nat, ∀ (a0b : Nat) (i1b : Int32) (i2b : Int32) (i3b : Int32) (i4b : Int32) (z : gS) (H : Heap) (locs : List Loc) (ls : Array Slot), fRef_set_L91 n k a0b i1b i2b i3b i4b z = some (r, z') → g_W D vwCl A z s H → va_S A s.heap H locs → lv_has ls 5 [(0, .ref a0b), (1, .int i1b), (2, .int i2b), (3, .int i3b), (4, .int i4b)] → W p l e (headSpec wsRef_set ({ frames := 1, cells := 0, slots := 0, locals := 24 })).room s m args below meth c H locs 0 0 (MQ below (g_Qi D vwCl A r z') args s 0 0 A) (F0 m 91 ls []) := by
  obtain ⟨hx, hb, hr, hml, hown, hts, hlocks, hK, hA⟩ := id C
  intro k
  induction k with
  | zero =>
    intro a0b i1b i2b i3b i4b z H locs ls hf
    have hf : (none : Option (Int32 × gS)) = some _ := hf
    cases hf
  | succ k ih =>
    intro a0b i1b i2b i3b i4b z H locs ls hf hW hS hl
    rw [fRef_set_L91] at hf
    refine lv_iload hx hb dRef_set_91 (lv_at hl 4 rfl) ?_
    refine lv_aload_n hx hb dRef_set_93 rfl (lv_at hl 0 rfl) ?_
    replace hf := g_bd hf
    obtain ⟨v_21, hv_21, hf⟩ := hf
    refine g_getI hx hb hts in_Ref hown hK hW (ci := 9) (C := "SecretRowsModel") (T := T_Ref) (N := 36) rfl (k := 2) (by decide) (hts _ kw_522) (fun _ h9 => h9) hv_21 dRef_set_94 ?_
    refine lv_icmp_ge (tgt := 139) hx hb dRef_set_97 (by decide) (fun c_22 => ?_) (fun c_22 => ?_)
    · replace hf := g_it c_22 hf
      refine lv_aload_n hx hb dRef_set_139 rfl (lv_at hl 0 rfl) ?_
      replace hf := g_bd hf
      obtain ⟨v_23, hv_23, hf⟩ := hf
      refine g_getI hx hb hts in_Ref hown hK hW (ci := 9) (C := "SecretRowsModel") (T := T_Ref) (N := 36) rfl (k := 3) (by decide) (hts _ kw_523) (fun _ h9 => h9) hv_23 dRef_set_140 ?_
      refine lv_bipush (v := 24) hx hb dRef_set_143 (by decide) ?_
      refine lv_icmp_ne (tgt := 151) hx hb dRef_set_145 (by decide) (fun c_24 => ?_) (fun c_24 => ?_)
      · replace hf := g_if c_24 hf
        refine lv_aload_n hx hb dRef_set_151 rfl (lv_at hl 0 rfl) ?_
        replace hf := g_bd hf
        obtain ⟨r_25, hr_25, hf⟩ := hf
        refine g_getR hx hb hts in_Ref hown hK hW (ci := 9) (C := "SecretRowsModel") (T := T_Ref) (N := 36) rfl (k := 7) (by decide) (hts _ kw_527) (fun _ h9 => h9) hr_25 dRef_set_152 ?_
        refine lv_aload_n hx hb dRef_set_155 rfl (lv_at hl 0 rfl) ?_
        replace hf := g_bd hf
        obtain ⟨v_26, hv_26, hf⟩ := hf
        refine g_getI hx hb hts in_Ref hown hK hW (ci := 9) (C := "SecretRowsModel") (T := T_Ref) (N := 36) rfl (k := 3) (by decide) (hts _ kw_523) (fun _ h9 => h9) hv_26 dRef_set_156 ?_
        refine lv_iload_n hx hb dRef_set_159 rfl (lv_at hl 1 rfl) ?_
        replace hf := g_bd hf
        obtain ⟨a_27, ea_27, hf⟩ := hf
        subst ea_27
        refine W.eq (g2 := F0 m 160 _ [.int i1b, .int v_26, .ref a_27]) rfl ?_
        replace hf := g_bd hf
        obtain ⟨z_28, hz_28, hf⟩ := hf
        refine g_ast_i hx hb hW hS hz_28 dRef_set_160 (fun H locs hW hS => ?_)
        refine lv_aload_n hx hb dRef_set_161 rfl (lv_at hl 0 rfl) ?_
        replace hf := g_bd hf
        obtain ⟨r_29, hr_29, hf⟩ := hf
        refine g_getR hx hb hts in_Ref hown hK hW (ci := 9) (C := "SecretRowsModel") (T := T_Ref) (N := 36) rfl (k := 8) (by decide) (hts _ kw_528) (fun _ h9 => h9) hr_29 dRef_set_162 ?_
        refine lv_aload_n hx hb dRef_set_165 rfl (lv_at hl 0 rfl) ?_
        replace hf := g_bd hf
        obtain ⟨v_30, hv_30, hf⟩ := hf
        refine g_getI hx hb hts in_Ref hown hK hW (ci := 9) (C := "SecretRowsModel") (T := T_Ref) (N := 36) rfl (k := 3) (by decide) (hts _ kw_523) (fun _ h9 => h9) hv_30 dRef_set_166 ?_
        refine lv_iload_n hx hb dRef_set_169 rfl (lv_at hl 3 rfl) ?_
        replace hf := g_bd hf
        obtain ⟨a_31, ea_31, hf⟩ := hf
        subst ea_31
        refine W.eq (g2 := F0 m 170 _ [.int i3b, .int v_30, .ref a_31]) rfl ?_
        replace hf := g_bd hf
        obtain ⟨z_32, hz_32, hf⟩ := hf
        refine g_ast_i hx hb hW hS hz_32 dRef_set_170 (fun H locs hW hS => ?_)
        refine lv_iconst (v := 0) hx hb dRef_set_171 (by decide) ?_
        refine lv_istore (lv' := [(4, .int 0), (0, .ref a0b), (1, .int i1b), (2, .int i2b), (3, .int i3b)]) hx hb dRef_set_172 hl (by decide) rfl (fun _ hl1 => ?_)
        clear hl
        have hl := hl1
        clear hl1
        exact bRef_set_174 C n n a0b i1b i2b i3b 0 _ _ _ _ hf hW hS (lv_sub hl [1, 2, 3, 4, 0] rfl)
      · replace hf := g_it c_24 hf
        refine lv_bipush (v := (-4)) hx hb dRef_set_148 (by decide) ?_
        cases hf
        exact g_reti hx hb hr hlocks hW hS (Nat.le_of_ble_eq_true rfl) (Nat.le_of_ble_eq_true rfl) dRef_set_150
    · replace hf := g_if c_22 hf
      refine lv_aload_n hx hb dRef_set_100 rfl (lv_at hl 0 rfl) ?_
      refine lv_aload_n hx hb dRef_set_101 rfl (lv_at hl 0 rfl) ?_
      replace hf := g_bd hf
      obtain ⟨r_33, hr_33, hf⟩ := hf
      refine g_getR hx hb hts in_Ref hown hK hW (ci := 9) (C := "SecretRowsModel") (T := T_Ref) (N := 36) rfl (k := 13) (by decide) (hts _ kw_533) (fun _ h9 => h9) hr_33 dRef_set_102 ?_
      refine lv_iload hx hb dRef_set_105 (lv_at hl 4 rfl) ?_
      replace hf := g_bd hf
      obtain ⟨a_34, ea_34, hf⟩ := hf
      subst ea_34
      refine W.eq (g2 := F0 m 107 _ [.int i4b, .ref a_34, .ref a0b]) rfl ?_
      replace hf := g_bd hf
      obtain ⟨v_35, hv_35, hf⟩ := hf
      refine g_ald_i hx hb hK hW hv_35 dRef_set_107 ?_
      refine lv_iload_n hx hb dRef_set_108 rfl (lv_at hl 3 rfl) ?_
      replace hf := g_bd hf
      obtain ⟨_, hi_36, hf⟩ := hf
      replace hf := g_bps hf
      obtain ⟨v_38, z_37, hz_37, hf⟩ := hf
      refine g_goi (g_rV (As := [.int v_35, .int i3b]) (rest := []) ⟨hx, hb, hml, hown, hts⟩ (mRef_isTaped l D A n _ _ a0b v_35 i3b _ hz_37) (cwV 2 hts (gi_V kw_647 kw_649 ks_Ref_isTaped kw_6 kw_650) rfl rfl rfl ⟨rfl, hdRef_isTaped⟩ ⟨Nat.le_of_ble_eq_true rfl, Nat.le_of_ble_eq_true rfl⟩) hK hW hS hA (ci := 9) (T := T_Ref) (N := 36) rfl hi_36 rfl hl.1 rfl (Nat.le_of_ble_eq_true rfl) dRef_set_109 ⟨Nat.le_of_ble_eq_true rfl, Nat.le_of_ble_eq_true rfl⟩) hS (fun H locs hW hS => ?_)
      refine lv_if_ne (tgt := 130) hx hb dRef_set_112 (by decide) (fun c_39 => ?_) (fun c_39 => ?_)
      · replace hf := g_if c_39 hf
        refine lv_bipush (v := (-3)) hx hb dRef_set_130 (by decide) ?_
        cases hf
        exact g_reti hx hb hr hlocks hW hS (Nat.le_of_ble_eq_true rfl) (Nat.le_of_ble_eq_true rfl) dRef_set_132
      · replace hf := g_it c_39 hf
        refine lv_aload_n hx hb dRef_set_115 rfl (lv_at hl 0 rfl) ?_
        refine lv_aload_n hx hb dRef_set_116 rfl (lv_at hl 0 rfl) ?_
        replace hf := g_bd hf
        obtain ⟨r_40, hr_40, hf⟩ := hf
        refine g_getR hx hb hts in_Ref hown hK hW (ci := 9) (C := "SecretRowsModel") (T := T_Ref) (N := 36) rfl (k := 14) (by decide) (hts _ kw_534) (fun _ h9 => h9) hr_40 dRef_set_117 ?_
        refine lv_iload hx hb dRef_set_120 (lv_at hl 4 rfl) ?_
        replace hf := g_bd hf
        obtain ⟨a_41, ea_41, hf⟩ := hf
        subst ea_41
        refine W.eq (g2 := F0 m 122 _ [.int i4b, .ref a_41, .ref a0b]) rfl ?_
        replace hf := g_bd hf
        obtain ⟨v_42, hv_42, hf⟩ := hf
        refine g_ald_i hx hb hK hW hv_42 dRef_set_122 ?_
        refine lv_iload_n hx hb dRef_set_123 rfl (lv_at hl 3 rfl) ?_
        replace hf := g_bd hf
        obtain ⟨_, hi_43, hf⟩ := hf
        replace hf := g_bps hf
        obtain ⟨v_45, z_44, hz_44, hf⟩ := hf
        refine g_goi (g_rV (As := [.int v_42, .int i3b]) (rest := []) ⟨hx, hb, hml, hown, hts⟩ (mRef_isTaped l D A n _ _ a0b v_42 i3b _ hz_44) (cwV 2 hts (gi_V kw_647 kw_649 ks_Ref_isTaped kw_6 kw_650) rfl rfl rfl ⟨rfl, hdRef_isTaped⟩ ⟨Nat.le_of_ble_eq_true rfl, Nat.le_of_ble_eq_true rfl⟩) hK hW hS hA (ci := 9) (T := T_Ref) (N := 36) rfl hi_43 rfl hl.1 rfl (Nat.le_of_ble_eq_true rfl) dRef_set_124 ⟨Nat.le_of_ble_eq_true rfl, Nat.le_of_ble_eq_true rfl⟩) hS (fun H locs hW hS => ?_)
        refine lv_if_eq (tgt := 133) hx hb dRef_set_127 (by decide) (fun c_46 => ?_) (fun c_46 => ?_)
        · replace hf := g_it c_46 hf
          refine lv_iinc (v := (i4b + 1)) (lv' := [(4, .int (i4b + 1)), (0, .ref a0b), (1, .int i1b), (2, .int i2b), (3, .int i3b)]) hx hb dRef_set_133 hl (k := 4) rfl rfl (by decide) rfl (fun _ hl1 => ?_)
          clear hl
          have hl := hl1
          clear hl1
          refine lv_goto (tgt := 91) hx hb dRef_set_136 (by decide) ?_
          exact ih a0b i1b i2b i3b (i4b + 1) _ _ _ _ hf hW hS (lv_sub hl [1, 2, 3, 4, 0] rfl)
        · replace hf := g_if c_46 hf
          refine lv_bipush (v := (-3)) hx hb dRef_set_130 (by decide) ?_
          cases hf
          exact g_reti hx hb hr hlocks hW hS (Nat.le_of_ble_eq_true rfl) (Nat.le_of_ble_eq_true rfl) dRef_set_132
def fRef_set_L61 (n : Nat) : Nat → Nat → Int32 → Int32 → Int32 → Int32 → gS → Option (Int32 × gS)
  | 0, _, _, _, _, _, _ => none
  | k + 1, a0b, i1b, i2b, i3b, i4b, z =>
    if i3b ≤ i4b then (
    fRef_set_L91 n n a0b i1b i2b i3b 0 z)
    else (
    (g_fR z a0b 9 17).bind fun r_17 =>
    r_17.bind fun a_18 =>
    (g_ldI z .int a_18 i4b).bind fun v_19 =>
    if v_19 = 32 then (
    some ((-2), z))
    else (
    fRef_set_L61 n k a0b i1b i2b i3b (i4b + 1) z))
set_option maxHeartbeats 4000000 in
set_option maxRecDepth 100000 in
theorem bRef_set_61 {p : Program} {l : Launch} {e : Env} {s : State} {m : MethodId} {args : Array Value} {below : List Frame} {meth : Method} {c : Code} {D : va_G} {A : Nat → Prop} (C : g_C p s m meth c args cRef_set 5 (some .int) "SecretRowsModel" gW D vwCl gNN gOO A) (n : Nat) {r : Int32} {z' : gS} : ∀ k : Nat, ∀ (a0b : Nat) (i1b : Int32) (i2b : Int32) (i3b : Int32) (i4b : Int32) (z : gS) (H : Heap) (locs : List Loc) (ls : Array Slot), fRef_set_L61 n k a0b i1b i2b i3b i4b z = some (r, z') → g_W D vwCl A z s H → va_S A s.heap H locs → lv_has ls 5 [(0, .ref a0b), (1, .int i1b), (2, .int i2b), (3, .int i3b), (4, .int i4b)] → W p l e (headSpec wsRef_set ({ frames := 1, cells := 0, slots := 0, locals := 24 })).room s m args below meth c H locs 0 0 (MQ below (g_Qi D vwCl A r z') args s 0 0 A) (F0 m 61 ls []) := by
  obtain ⟨hx, hb, hr, hml, hown, hts, hlocks, hK, hA⟩ := id C
  intro k
  induction k with
  | zero =>
    intro a0b i1b i2b i3b i4b z H locs ls hf
    have hf : (none : Option (Int32 × gS)) = some _ := hf
    cases hf
  | succ k ih =>
    intro a0b i1b i2b i3b i4b z H locs ls hf hW hS hl
    rw [fRef_set_L61] at hf
    refine lv_iload hx hb dRef_set_61 (lv_at hl 4 rfl) ?_
    refine lv_iload_n hx hb dRef_set_63 rfl (lv_at hl 3 rfl) ?_
    refine lv_icmp_ge (tgt := 88) hx hb dRef_set_64 (by decide) (fun c_16 => ?_) (fun c_16 => ?_)
    · replace hf := g_it c_16 hf
      refine lv_iconst (v := 0) hx hb dRef_set_88 (by decide) ?_
      refine lv_istore (lv' := [(4, .int 0), (0, .ref a0b), (1, .int i1b), (2, .int i2b), (3, .int i3b)]) hx hb dRef_set_89 hl (by decide) rfl (fun _ hl1 => ?_)
      clear hl
      have hl := hl1
      clear hl1
      exact bRef_set_91 C n n a0b i1b i2b i3b 0 _ _ _ _ hf hW hS (lv_sub hl [1, 2, 3, 4, 0] rfl)
    · replace hf := g_if c_16 hf
      refine lv_aload_n hx hb dRef_set_67 rfl (lv_at hl 0 rfl) ?_
      replace hf := g_bd hf
      obtain ⟨r_17, hr_17, hf⟩ := hf
      refine g_getR hx hb hts in_Ref hown hK hW (ci := 9) (C := "SecretRowsModel") (T := T_Ref) (N := 36) rfl (k := 17) (by decide) (hts _ kw_537) (fun _ h9 => h9) hr_17 dRef_set_68 ?_
      refine lv_iload hx hb dRef_set_71 (lv_at hl 4 rfl) ?_
      replace hf := g_bd hf
      obtain ⟨a_18, ea_18, hf⟩ := hf
      subst ea_18
      refine W.eq (g2 := F0 m 73 _ [.int i4b, .ref a_18]) rfl ?_
      replace hf := g_bd hf
      obtain ⟨v_19, hv_19, hf⟩ := hf
      refine g_ald_i hx hb hK hW hv_19 dRef_set_73 ?_
      refine lv_bipush (v := 32) hx hb dRef_set_74 (by decide) ?_
      refine lv_icmp_ne (tgt := 82) hx hb dRef_set_76 (by decide) (fun c_20 => ?_) (fun c_20 => ?_)
      · replace hf := g_if c_20 hf
        refine lv_iinc (v := (i4b + 1)) (lv' := [(4, .int (i4b + 1)), (0, .ref a0b), (1, .int i1b), (2, .int i2b), (3, .int i3b)]) hx hb dRef_set_82 hl (k := 4) rfl rfl (by decide) rfl (fun _ hl1 => ?_)
        clear hl
        have hl := hl1
        clear hl1
        refine lv_goto (tgt := 61) hx hb dRef_set_85 (by decide) ?_
        exact ih a0b i1b i2b i3b (i4b + 1) _ _ _ _ hf hW hS (lv_sub hl [1, 2, 3, 4, 0] rfl)
      · replace hf := g_it c_20 hf
        refine lv_bipush (v := (-2)) hx hb dRef_set_79 (by decide) ?_
        cases hf
        exact g_reti hx hb hr hlocks hW hS (Nat.le_of_ble_eq_true rfl) (Nat.le_of_ble_eq_true rfl) dRef_set_81
def fRef_set (n : Nat) (a0 : Nat) (i1 : Int32) (i2 : Int32) (z : gS) : Option (Int32 × gS) :=
    (g_pF z a0 9 0 (.int 0)).bind fun z_1 =>
    (g_fI z_1 a0 9 18).bind fun v_2 =>
    (g_pF z_1 a0 9 18 (.int 0)).bind fun z_3 =>
    (g_is z_3 a0 9).bind fun _ =>
    g_bp (fRef_isSecret n a0 i1 z_3) fun v_6 z_5 =>
    if v_6 = 0 then (
    some ((-1), z_5))
    else (
    (g_fR z_5 a0 9 16).bind fun r_8 =>
    r_8.bind fun a_9 =>
    (g_ldI z_5 .boolean a_9 i1).bind fun v_10 =>
    if v_10 = 0 then (
    if i2 < 0 then (
    some ((-1), z_5))
    else (
    if i2 ≤ 100000 then (
    if v_2 < 4 then (
    some ((-2), z_5))
    else (
    if v_2 ≤ 12 then (
    fRef_set_L61 n n a0 i1 i2 v_2 0 z_5)
    else (
    some ((-2), z_5))))
    else (
    some ((-1), z_5))))
    else (
    some ((-1), z_5)))
set_option maxHeartbeats 4000000 in
set_option maxRecDepth 100000 in
theorem mRef_set (l : Launch) (D : va_G) (A : Nat → Prop) (n : Nat) (z z' : gS) (a0 : Nat) (i1 : Int32) (i2 : Int32) (r : Int32) (hf : fRef_set n a0 i1 i2 z = some (r, z')) : Met l yRef_set wsRef_set ({ frames := 1, cells := 0, slots := 0, locals := 24 }) (g_P D vwCl gNN gOO A z [.ref a0, .int i1, .int i2]) (g_Qi D vwCl A r z') 0 0 A := by
  refine Met.ofW (cc := cRef_set) (maxL := 5) (ret := (some .int)) (by decide) rfl ?_
  intro p e s m args below meth c s₁ B hml hv
  obtain ⟨rfl, hW, hK, hA0⟩ := hv
  have C : g_C p s m meth c _ cRef_set 5 (some .int) "SecretRowsModel" gW D vwCl gNN gOO A := ⟨B.exec, B.bytes, B.returns, hml, findClass_of_methodNamed B.named, fun w hw => atoms_spec (ws := wsRef_set) B.pre w (List.mem_cons_of_mem _ hw), B.notSynchronized, hK, fun q hq => hA0 q (by rw [← hW.1]; exact hq)⟩
  have hS : va_S A s.heap s.heap [] := va_S.rf
  have hl := lv_entry ([.ref a0, .int i1, .int i2]) (n := 5) (Nat.le_of_ble_eq_true rfl)
  rw [lg_entry_eq]
  generalize (lg_sl ([.ref a0, .int i1, .int i2]) ++ List.replicate (5 - (lg_sl ([.ref a0, .int i1, .int i2])).length) Slot.unset).toArray = ls at hl ⊢
  have hl : lv_has ls 5 [(0, .ref a0), (1, .int i1), (2, .int i2)] := hl
  obtain ⟨hx, hb, hr, hml, hown, hts, hlocks, hK, hA⟩ := id C
  unfold fRef_set at hf
  refine lv_aload_n hx hb dRef_set_0 rfl (lv_at hl 0 rfl) ?_
  refine lv_iconst (v := 0) hx hb dRef_set_1 (by decide) ?_
  replace hf := g_bd hf
  obtain ⟨z_1, hz_1, hf⟩ := hf
  refine g_put hx hb hts in_Ref ty_Ref tyok_Ref nm_Ref hown hK hW hS (ci := 9) (C := "SecretRowsModel") (T := T_Ref) (N := 36) rfl (k := 0) (by decide) (hts _ kw_520) (fun _ h9 => h9) rfl (ty := .int) (by decide +kernel) rfl rfl hz_1 dRef_set_2 (fun H locs hW hS => ?_)
  refine lv_aload_n hx hb dRef_set_5 rfl (lv_at hl 0 rfl) ?_
  replace hf := g_bd hf
  obtain ⟨v_2, hv_2, hf⟩ := hf
  refine g_getI hx hb hts in_Ref hown hK hW (ci := 9) (C := "SecretRowsModel") (T := T_Ref) (N := 36) rfl (k := 18) (by decide) (hts _ kw_538) (fun _ h9 => h9) hv_2 dRef_set_6 ?_
  refine lv_istore_n (lv' := [(3, .int v_2), (0, .ref a0), (1, .int i1), (2, .int i2)]) hx hb dRef_set_9 rfl hl (by decide) rfl (fun _ hl1 => ?_)
  clear hl
  have hl := hl1
  clear hl1
  refine lv_aload_n hx hb dRef_set_10 rfl (lv_at hl 1 rfl) ?_
  refine lv_iconst (v := 0) hx hb dRef_set_11 (by decide) ?_
  replace hf := g_bd hf
  obtain ⟨z_3, hz_3, hf⟩ := hf
  refine g_put hx hb hts in_Ref ty_Ref tyok_Ref nm_Ref hown hK hW hS (ci := 9) (C := "SecretRowsModel") (T := T_Ref) (N := 36) rfl (k := 18) (by decide) (hts _ kw_538) (fun _ h9 => h9) rfl (ty := .int) (by decide +kernel) rfl rfl hz_3 dRef_set_12 (fun H locs hW hS => ?_)
  refine lv_aload_n hx hb dRef_set_15 rfl (lv_at hl 1 rfl) ?_
  refine lv_iload_n hx hb dRef_set_16 rfl (lv_at hl 2 rfl) ?_
  replace hf := g_bd hf
  obtain ⟨_, hi_4, hf⟩ := hf
  replace hf := g_bps hf
  obtain ⟨v_6, z_5, hz_5, hf⟩ := hf
  refine g_goi (g_rV (As := [.int i1]) (rest := []) ⟨hx, hb, hml, hown, hts⟩ (mRef_isSecret l D A n _ _ a0 i1 _ hz_5) (cwV 1 hts (gi_V kw_642 kw_644 ks_Ref_isSecret kw_6 kw_645) rfl rfl rfl ⟨rfl, hdRef_isSecret⟩ ⟨Nat.le_of_ble_eq_true rfl, Nat.le_of_ble_eq_true rfl⟩) hK hW hS hA (ci := 9) (T := T_Ref) (N := 36) rfl hi_4 rfl hl.1 rfl (Nat.le_of_ble_eq_true rfl) dRef_set_17 ⟨Nat.le_of_ble_eq_true rfl, Nat.le_of_ble_eq_true rfl⟩) hS (fun H locs hW hS => ?_)
  refine lv_if_eq (tgt := 42) hx hb dRef_set_20 (by decide) (fun c_7 => ?_) (fun c_7 => ?_)
  · replace hf := g_it c_7 hf
    refine lv_iconst (v := (-1)) hx hb dRef_set_42 (by decide) ?_
    cases hf
    exact g_reti hx hb hr hlocks hW hS (Nat.le_of_ble_eq_true rfl) (Nat.le_of_ble_eq_true rfl) dRef_set_43
  · replace hf := g_if c_7 hf
    refine lv_aload_n hx hb dRef_set_23 rfl (lv_at hl 1 rfl) ?_
    replace hf := g_bd hf
    obtain ⟨r_8, hr_8, hf⟩ := hf
    refine g_getR hx hb hts in_Ref hown hK hW (ci := 9) (C := "SecretRowsModel") (T := T_Ref) (N := 36) rfl (k := 16) (by decide) (hts _ kw_536) (fun _ h9 => h9) hr_8 dRef_set_24 ?_
    refine lv_iload_n hx hb dRef_set_27 rfl (lv_at hl 2 rfl) ?_
    replace hf := g_bd hf
    obtain ⟨a_9, ea_9, hf⟩ := hf
    subst ea_9
    refine W.eq (g2 := F0 m 28 _ [.int i1, .ref a_9]) rfl ?_
    replace hf := g_bd hf
    obtain ⟨v_10, hv_10, hf⟩ := hf
    refine g_ald_z hx hb hK hW hv_10 dRef_set_28 ?_
    refine lv_if_ne (tgt := 42) hx hb dRef_set_29 (by decide) (fun c_11 => ?_) (fun c_11 => ?_)
    · replace hf := g_if c_11 hf
      refine lv_iconst (v := (-1)) hx hb dRef_set_42 (by decide) ?_
      cases hf
      exact g_reti hx hb hr hlocks hW hS (Nat.le_of_ble_eq_true rfl) (Nat.le_of_ble_eq_true rfl) dRef_set_43
    · replace hf := g_it c_11 hf
      refine lv_iload_n hx hb dRef_set_32 rfl (lv_at hl 3 rfl) ?_
      refine lv_if_lt (tgt := 42) hx hb dRef_set_33 (by decide) (fun c_12 => ?_) (fun c_12 => ?_)
      · replace hf := g_it c_12 hf
        refine lv_iconst (v := (-1)) hx hb dRef_set_42 (by decide) ?_
        cases hf
        exact g_reti hx hb hr hlocks hW hS (Nat.le_of_ble_eq_true rfl) (Nat.le_of_ble_eq_true rfl) dRef_set_43
      · replace hf := g_if c_12 hf
        refine lv_iload_n hx hb dRef_set_36 rfl (lv_at hl 3 rfl) ?_
        refine lv_ldc (v := 100000) hx hb hown (hts _ kw_646) dRef_set_37 ?_
        refine lv_icmp_le (tgt := 44) hx hb dRef_set_39 (by decide) (fun c_13 => ?_) (fun c_13 => ?_)
        · replace hf := g_it c_13 hf
          refine lv_iload_n hx hb dRef_set_44 rfl (lv_at hl 0 rfl) ?_
          refine lv_iconst (v := 4) hx hb dRef_set_45 (by decide) ?_
          refine lv_icmp_lt (tgt := 55) hx hb dRef_set_46 (by decide) (fun c_14 => ?_) (fun c_14 => ?_)
          · replace hf := g_it c_14 hf
            refine lv_bipush (v := (-2)) hx hb dRef_set_55 (by decide) ?_
            cases hf
            exact g_reti hx hb hr hlocks hW hS (Nat.le_of_ble_eq_true rfl) (Nat.le_of_ble_eq_true rfl) dRef_set_57
          · replace hf := g_if c_14 hf
            refine lv_iload_n hx hb dRef_set_49 rfl (lv_at hl 0 rfl) ?_
            refine lv_bipush (v := 12) hx hb dRef_set_50 (by decide) ?_
            refine lv_icmp_le (tgt := 58) hx hb dRef_set_52 (by decide) (fun c_15 => ?_) (fun c_15 => ?_)
            · replace hf := g_it c_15 hf
              refine lv_iconst (v := 0) hx hb dRef_set_58 (by decide) ?_
              refine lv_istore (lv' := [(4, .int 0), (3, .int v_2), (0, .ref a0), (1, .int i1), (2, .int i2)]) hx hb dRef_set_59 hl (by decide) rfl (fun _ hl1 => ?_)
              clear hl
              have hl := hl1
              clear hl1
              exact bRef_set_61 C n n a0 i1 i2 v_2 0 _ _ _ _ hf hW hS (lv_sub hl [2, 3, 4, 1, 0] rfl)
            · replace hf := g_if c_15 hf
              refine lv_bipush (v := (-2)) hx hb dRef_set_55 (by decide) ?_
              cases hf
              exact g_reti hx hb hr hlocks hW hS (Nat.le_of_ble_eq_true rfl) (Nat.le_of_ble_eq_true rfl) dRef_set_57
        · replace hf := g_if c_13 hf
          refine lv_iconst (v := (-1)) hx hb dRef_set_42 (by decide) ?_
          cases hf
          exact g_reti hx hb hr hlocks hW hS (Nat.le_of_ble_eq_true rfl) (Nat.le_of_ble_eq_true rfl) dRef_set_43

def fRef_revoke (n : Nat) (a0 : Nat) (i1 : Int32) (z : gS) : Option (Int32 × gS) :=
    (g_pF z a0 9 0 (.int 0)).bind fun z_1 =>
    (g_is z_1 a0 9).bind fun _ =>
    g_bp (fRef_isSecret n a0 i1 z_1) fun v_4 z_3 =>
    if v_4 = 0 then (
    some (0, z_3))
    else (
    (g_fR z_3 a0 9 16).bind fun r_6 =>
    r_6.bind fun a_7 =>
    (g_ldI z_3 .boolean a_7 i1).bind fun v_8 =>
    if v_8 = 0 then (
    (g_fR z_3 a0 9 16).bind fun r_10 =>
    r_10.bind fun a_11 =>
    (g_stI z_3 .boolean a_11 i1 (vp_nar .boolean 1)).bind fun z_12 =>
    some (1, z_12))
    else (
    some (0, z_3)))
set_option maxHeartbeats 4000000 in
set_option maxRecDepth 100000 in
theorem mRef_revoke (l : Launch) (D : va_G) (A : Nat → Prop) (n : Nat) (z z' : gS) (a0 : Nat) (i1 : Int32) (r : Int32) (hf : fRef_revoke n a0 i1 z = some (r, z')) : Met l yRef_revoke wsRef_revoke ({ frames := 1, cells := 0, slots := 0, locals := 21 }) (g_P D vwCl gNN gOO A z [.ref a0, .int i1]) (g_Qi D vwCl A r z') 0 0 A := by
  refine Met.ofW (cc := cRef_revoke) (maxL := 2) (ret := (some .boolean)) (by decide) rfl ?_
  intro p e s m args below meth c s₁ B hml hv
  obtain ⟨rfl, hW, hK, hA0⟩ := hv
  have C : g_C p s m meth c _ cRef_revoke 2 (some .boolean) "SecretRowsModel" gW D vwCl gNN gOO A := ⟨B.exec, B.bytes, B.returns, hml, findClass_of_methodNamed B.named, fun w hw => atoms_spec (ws := wsRef_revoke) B.pre w (List.mem_cons_of_mem _ hw), B.notSynchronized, hK, fun q hq => hA0 q (by rw [← hW.1]; exact hq)⟩
  have hS : va_S A s.heap s.heap [] := va_S.rf
  have hl := lv_entry ([.ref a0, .int i1]) (n := 2) (Nat.le_of_ble_eq_true rfl)
  rw [lg_entry_eq]
  generalize (lg_sl ([.ref a0, .int i1]) ++ List.replicate (2 - (lg_sl ([.ref a0, .int i1])).length) Slot.unset).toArray = ls at hl ⊢
  have hl : lv_has ls 2 [(0, .ref a0), (1, .int i1)] := hl
  obtain ⟨hx, hb, hr, hml, hown, hts, hlocks, hK, hA⟩ := id C
  unfold fRef_revoke at hf
  refine lv_aload_n hx hb dRef_revoke_0 rfl (lv_at hl 0 rfl) ?_
  refine lv_iconst (v := 0) hx hb dRef_revoke_1 (by decide) ?_
  replace hf := g_bd hf
  obtain ⟨z_1, hz_1, hf⟩ := hf
  refine g_put hx hb hts in_Ref ty_Ref tyok_Ref nm_Ref hown hK hW hS (ci := 9) (C := "SecretRowsModel") (T := T_Ref) (N := 36) rfl (k := 0) (by decide) (hts _ kw_520) (fun _ h9 => h9) rfl (ty := .int) (by decide +kernel) rfl rfl hz_1 dRef_revoke_2 (fun H locs hW hS => ?_)
  refine lv_aload_n hx hb dRef_revoke_5 rfl (lv_at hl 0 rfl) ?_
  refine lv_iload_n hx hb dRef_revoke_6 rfl (lv_at hl 1 rfl) ?_
  replace hf := g_bd hf
  obtain ⟨_, hi_2, hf⟩ := hf
  replace hf := g_bps hf
  obtain ⟨v_4, z_3, hz_3, hf⟩ := hf
  refine g_goi (g_rV (As := [.int i1]) (rest := []) ⟨hx, hb, hml, hown, hts⟩ (mRef_isSecret l D A n _ _ a0 i1 _ hz_3) (cwV 1 hts (gi_V kw_642 kw_644 ks_Ref_isSecret kw_6 kw_645) rfl rfl rfl ⟨rfl, hdRef_isSecret⟩ ⟨Nat.le_of_ble_eq_true rfl, Nat.le_of_ble_eq_true rfl⟩) hK hW hS hA (ci := 9) (T := T_Ref) (N := 36) rfl hi_2 rfl hl.1 rfl (Nat.le_of_ble_eq_true rfl) dRef_revoke_7 ⟨Nat.le_of_ble_eq_true rfl, Nat.le_of_ble_eq_true rfl⟩) hS (fun H locs hW hS => ?_)
  refine lv_if_eq (tgt := 22) hx hb dRef_revoke_10 (by decide) (fun c_5 => ?_) (fun c_5 => ?_)
  · replace hf := g_it c_5 hf
    refine lv_iconst (v := 0) hx hb dRef_revoke_22 (by decide) ?_
    cases hf
    exact g_retz hx hb hr rfl hlocks hW hS (Nat.le_of_ble_eq_true rfl) (Nat.le_of_ble_eq_true rfl) dRef_revoke_23
  · replace hf := g_if c_5 hf
    refine lv_aload_n hx hb dRef_revoke_13 rfl (lv_at hl 0 rfl) ?_
    replace hf := g_bd hf
    obtain ⟨r_6, hr_6, hf⟩ := hf
    refine g_getR hx hb hts in_Ref hown hK hW (ci := 9) (C := "SecretRowsModel") (T := T_Ref) (N := 36) rfl (k := 16) (by decide) (hts _ kw_536) (fun _ h9 => h9) hr_6 dRef_revoke_14 ?_
    refine lv_iload_n hx hb dRef_revoke_17 rfl (lv_at hl 1 rfl) ?_
    replace hf := g_bd hf
    obtain ⟨a_7, ea_7, hf⟩ := hf
    subst ea_7
    refine W.eq (g2 := F0 m 18 _ [.int i1, .ref a_7]) rfl ?_
    replace hf := g_bd hf
    obtain ⟨v_8, hv_8, hf⟩ := hf
    refine g_ald_z hx hb hK hW hv_8 dRef_revoke_18 ?_
    refine lv_if_eq (tgt := 24) hx hb dRef_revoke_19 (by decide) (fun c_9 => ?_) (fun c_9 => ?_)
    · replace hf := g_it c_9 hf
      refine lv_aload_n hx hb dRef_revoke_24 rfl (lv_at hl 0 rfl) ?_
      replace hf := g_bd hf
      obtain ⟨r_10, hr_10, hf⟩ := hf
      refine g_getR hx hb hts in_Ref hown hK hW (ci := 9) (C := "SecretRowsModel") (T := T_Ref) (N := 36) rfl (k := 16) (by decide) (hts _ kw_536) (fun _ h9 => h9) hr_10 dRef_revoke_25 ?_
      refine lv_iload_n hx hb dRef_revoke_28 rfl (lv_at hl 1 rfl) ?_
      refine lv_iconst (v := 1) hx hb dRef_revoke_29 (by decide) ?_
      replace hf := g_bd hf
      obtain ⟨a_11, ea_11, hf⟩ := hf
      subst ea_11
      refine W.eq (g2 := F0 m 30 _ [.int 1, .int i1, .ref a_11]) rfl ?_
      replace hf := g_bd hf
      obtain ⟨z_12, hz_12, hf⟩ := hf
      refine g_ast_z hx hb hW hS hz_12 dRef_revoke_30 (fun H locs hW hS => ?_)
      refine lv_iconst (v := 1) hx hb dRef_revoke_31 (by decide) ?_
      cases hf
      exact g_retz hx hb hr rfl hlocks hW hS (Nat.le_of_ble_eq_true rfl) (Nat.le_of_ble_eq_true rfl) dRef_revoke_32
    · replace hf := g_if c_9 hf
      refine lv_iconst (v := 0) hx hb dRef_revoke_22 (by decide) ?_
      cases hf
      exact g_retz hx hb hr rfl hlocks hW hS (Nat.le_of_ble_eq_true rfl) (Nat.le_of_ble_eq_true rfl) dRef_revoke_23

def fRef_tick (n : Nat) (a0 : Nat) (i1 : Int32) (z : gS) : Option (Int32 × gS) :=
    (g_pF z a0 9 0 (.int 0)).bind fun z_1 =>
    if i1 < 0 then (
    some ((-1), z_1))
    else (
    if 100000 < i1 then (
    some ((-1), z_1))
    else (
    (g_fI z_1 a0 9 1).bind fun v_4 =>
    if (v_4 + i1) ≤ 1000000000 then (
    (g_fI z_1 a0 9 1).bind fun v_6 =>
    (g_pF z_1 a0 9 1 (.int (v_6 + i1))).bind fun z_7 =>
    (g_fI z_7 a0 9 1).bind fun v_8 =>
    some (v_8, z_7))
    else (
    some ((-1), z_1))))
set_option maxHeartbeats 4000000 in
set_option maxRecDepth 100000 in
theorem mRef_tick (l : Launch) (D : va_G) (A : Nat → Prop) (n : Nat) (z z' : gS) (a0 : Nat) (i1 : Int32) (r : Int32) (hf : fRef_tick n a0 i1 z = some (r, z')) : Met l yRef_tick wsRef_tick ({ frames := 0, cells := 0, slots := 0, locals := 0 }) (g_P D vwCl gNN gOO A z [.ref a0, .int i1]) (g_Qi D vwCl A r z') 0 0 A := by
  refine Met.ofW (cc := cRef_tick) (maxL := 2) (ret := (some .int)) (by decide) rfl ?_
  intro p e s m args below meth c s₁ B hml hv
  obtain ⟨rfl, hW, hK, hA0⟩ := hv
  have C : g_C p s m meth c _ cRef_tick 2 (some .int) "SecretRowsModel" gW D vwCl gNN gOO A := ⟨B.exec, B.bytes, B.returns, hml, findClass_of_methodNamed B.named, fun w hw => atoms_spec (ws := wsRef_tick) B.pre w (List.mem_cons_of_mem _ hw), B.notSynchronized, hK, fun q hq => hA0 q (by rw [← hW.1]; exact hq)⟩
  have hS : va_S A s.heap s.heap [] := va_S.rf
  have hl := lv_entry ([.ref a0, .int i1]) (n := 2) (Nat.le_of_ble_eq_true rfl)
  rw [lg_entry_eq]
  generalize (lg_sl ([.ref a0, .int i1]) ++ List.replicate (2 - (lg_sl ([.ref a0, .int i1])).length) Slot.unset).toArray = ls at hl ⊢
  have hl : lv_has ls 2 [(0, .ref a0), (1, .int i1)] := hl
  obtain ⟨hx, hb, hr, hml, hown, hts, hlocks, hK, hA⟩ := id C
  unfold fRef_tick at hf
  refine lv_aload_n hx hb dRef_tick_0 rfl (lv_at hl 0 rfl) ?_
  refine lv_iconst (v := 0) hx hb dRef_tick_1 (by decide) ?_
  replace hf := g_bd hf
  obtain ⟨z_1, hz_1, hf⟩ := hf
  refine g_put hx hb hts in_Ref ty_Ref tyok_Ref nm_Ref hown hK hW hS (ci := 9) (C := "SecretRowsModel") (T := T_Ref) (N := 36) rfl (k := 0) (by decide) (hts _ kw_520) (fun _ h9 => h9) rfl (ty := .int) (by decide +kernel) rfl rfl hz_1 dRef_tick_2 (fun H locs hW hS => ?_)
  refine lv_iload_n hx hb dRef_tick_5 rfl (lv_at hl 1 rfl) ?_
  refine lv_if_lt (tgt := 26) hx hb dRef_tick_6 (by decide) (fun c_2 => ?_) (fun c_2 => ?_)
  · replace hf := g_it c_2 hf
    refine lv_iconst (v := (-1)) hx hb dRef_tick_26 (by decide) ?_
    cases hf
    exact g_reti hx hb hr hlocks hW hS (Nat.le_of_ble_eq_true rfl) (Nat.le_of_ble_eq_true rfl) dRef_tick_27
  · replace hf := g_if c_2 hf
    refine lv_iload_n hx hb dRef_tick_9 rfl (lv_at hl 1 rfl) ?_
    refine lv_ldc (v := 100000) hx hb hown (hts _ kw_646) dRef_tick_10 ?_
    refine lv_icmp_gt (tgt := 26) hx hb dRef_tick_12 (by decide) (fun c_3 => ?_) (fun c_3 => ?_)
    · replace hf := g_it c_3 hf
      refine lv_iconst (v := (-1)) hx hb dRef_tick_26 (by decide) ?_
      cases hf
      exact g_reti hx hb hr hlocks hW hS (Nat.le_of_ble_eq_true rfl) (Nat.le_of_ble_eq_true rfl) dRef_tick_27
    · replace hf := g_if c_3 hf
      refine lv_aload_n hx hb dRef_tick_15 rfl (lv_at hl 0 rfl) ?_
      replace hf := g_bd hf
      obtain ⟨v_4, hv_4, hf⟩ := hf
      refine g_getI hx hb hts in_Ref hown hK hW (ci := 9) (C := "SecretRowsModel") (T := T_Ref) (N := 36) rfl (k := 1) (by decide) (hts _ kw_521) (fun _ h9 => h9) hv_4 dRef_tick_16 ?_
      refine lv_iload_n hx hb dRef_tick_19 rfl (lv_at hl 1 rfl) ?_
      refine lv_iadd hx hb dRef_tick_20 ?_
      refine lv_ldc (v := 1000000000) hx hb hown (hts _ kw_659) dRef_tick_21 ?_
      refine lv_icmp_le (tgt := 28) hx hb dRef_tick_23 (by decide) (fun c_5 => ?_) (fun c_5 => ?_)
      · replace hf := g_it c_5 hf
        refine lv_aload_n hx hb dRef_tick_28 rfl (lv_at hl 0 rfl) ?_
        refine lv_dup hx hb dRef_tick_29 rfl ?_
        replace hf := g_bd hf
        obtain ⟨v_6, hv_6, hf⟩ := hf
        refine g_getI hx hb hts in_Ref hown hK hW (ci := 9) (C := "SecretRowsModel") (T := T_Ref) (N := 36) rfl (k := 1) (by decide) (hts _ kw_521) (fun _ h9 => h9) hv_6 dRef_tick_30 ?_
        refine lv_iload_n hx hb dRef_tick_33 rfl (lv_at hl 1 rfl) ?_
        refine lv_iadd hx hb dRef_tick_34 ?_
        replace hf := g_bd hf
        obtain ⟨z_7, hz_7, hf⟩ := hf
        refine g_put hx hb hts in_Ref ty_Ref tyok_Ref nm_Ref hown hK hW hS (ci := 9) (C := "SecretRowsModel") (T := T_Ref) (N := 36) rfl (k := 1) (by decide) (hts _ kw_521) (fun _ h9 => h9) rfl (ty := .int) (by decide +kernel) rfl rfl hz_7 dRef_tick_35 (fun H locs hW hS => ?_)
        refine lv_aload_n hx hb dRef_tick_38 rfl (lv_at hl 0 rfl) ?_
        replace hf := g_bd hf
        obtain ⟨v_8, hv_8, hf⟩ := hf
        refine g_getI hx hb hts in_Ref hown hK hW (ci := 9) (C := "SecretRowsModel") (T := T_Ref) (N := 36) rfl (k := 1) (by decide) (hts _ kw_521) (fun _ h9 => h9) hv_8 dRef_tick_39 ?_
        cases hf
        exact g_reti hx hb hr hlocks hW hS (Nat.le_of_ble_eq_true rfl) (Nat.le_of_ble_eq_true rfl) dRef_tick_42
      · replace hf := g_if c_5 hf
        refine lv_iconst (v := (-1)) hx hb dRef_tick_26 (by decide) ?_
        cases hf
        exact g_reti hx hb hr hlocks hW hS (Nat.le_of_ble_eq_true rfl) (Nat.le_of_ble_eq_true rfl) dRef_tick_27
