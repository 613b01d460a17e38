theorem f124_0 : fr 124 0 = some (.aload 0, 1, [], []) := by decide +kernel
theorem f124_1 : fr 124 1 = some (.getfield 10004, 3, [], []) := by decide +kernel
theorem f124_4 : fr 124 4 = some (.ifCond .lt 29, 3, [], [1]) := by decide +kernel
theorem f124_7 : fr 124 7 = some (.aload 0, 1, [], []) := by decide +kernel
theorem f124_8 : fr 124 8 = some (.getfield 10004, 3, [], []) := by decide +kernel
theorem f124_11 : fr 124 11 = some (.aload 0, 1, [], []) := by decide +kernel
theorem f124_12 : fr 124 12 = some (.getfield 10001, 3, [], []) := by decide +kernel
theorem f124_15 : fr 124 15 = some (.arraylength, 1, [], []) := by decide +kernel
theorem f124_16 : fr 124 16 = some (.if_icmp .ge 29, 3, [], [1]) := by decide +kernel
theorem f124_19 : fr 124 19 = some (.aload 0, 1, [], []) := by decide +kernel
theorem f124_20 : fr 124 20 = some (.getfield 10001, 3, [], []) := by decide +kernel
theorem f124_23 : fr 124 23 = some (.aload 0, 1, [], []) := by decide +kernel
theorem f124_24 : fr 124 24 = some (.getfield 10004, 3, [], []) := by decide +kernel
theorem f124_27 : fr 124 27 = some (.iload 1, 1, [1], []) := by decide +kernel
theorem f124_28 : fr 124 28 = some (.iastore, 1, [], []) := by decide +kernel
theorem f124_29 : fr 124 29 = some (.aload 0, 1, [0], []) := by decide +kernel
theorem f124_30 : fr 124 30 = some (.dup, 1, [], []) := by decide +kernel
theorem f124_31 : fr 124 31 = some (.getfield 10004, 3, [], []) := by decide +kernel
theorem f124_34 : fr 124 34 = some (.iconst 1, 1, [], []) := by decide +kernel
theorem f124_35 : fr 124 35 = some (.iadd, 1, [], []) := by decide +kernel
theorem f124_36 : fr 124 36 = some (.putfield 10004, 3, [], []) := by decide +kernel
theorem f124_39 : fr 124 39 = some (.return_, 1, [], []) := by decide +kernel
theorem t124_0 {X : XX} {d : Nat} {sz sl : Nat} {sh : Nat → Nat × Nat} {R : Nat → Nat → Option Nat} {I : Nat → Nat → Int32} {J : Nat → Nat → Int64} (hS : SF sh R) {l1 : Int32} : exe X d 124 0 [Value.ref 21, Value.int l1] [] (sz, sl, sh, R, I, J) =
    (if (I 21 4) < 0 then some (none, (sz, sl, sh, R, (u2 I 21 4 ((I 21 4) + (1))), J)) else (if (24) ≤ (I 21 4) then some (none, (sz, sl, sh, R, (u2 I 21 4 ((I 21 4) + (1))), J)) else (if inb (I 21 4) 24 then some (none, (sz, sl, sh, R, (u2 (u2 I 23 (I 21 4).toNatClampNeg l1) 21 4 ((I 21 4) + (1))), J)) else none))) :=
  tq ((E_aload (v := Value.ref 21) rfl rfl f124_0)) (tq (tq ((G10004 f124_1)) (if_pos (zS21 hS))) (tq ((E_if_lt f124_4)) (ite_c (tq ((E_aload (v := Value.ref 21) rfl rfl f124_29)) (tq ((E_dup rfl f124_30)) (tq (tq ((G10004 f124_31)) (if_pos (zS21 hS))) (tq ((E_iconst (x := (1)) (by decide) f124_34)) (tq ((E_iadd f124_35)) (tq (tq ((P10004 f124_36)) (if_pos (zS21 hS))) ((E_vret pr_124 f124_39)))))))) (tq ((E_aload (v := Value.ref 21) rfl rfl f124_7)) (tq (tq ((G10004 f124_8)) (if_pos (zS21 hS))) (tq ((E_aload (v := Value.ref 21) rfl rfl f124_11)) (tq (tq ((G10001 f124_12)) (if_pos (zS21 hS))) (tq (exe_R (zR21_1 hS)) (tq (tq (E_len f124_15) (ite_len (m := 24) (A := fun m => exe X d 124 16 [Value.ref 21, Value.int l1] (.int (Int32.ofNat m) :: [Value.int (I 21 4)]) (sz, sl, sh, R, I, J)) (zS23 hS) (by decide))) (tq ((E_ic_ge f124_16)) (ite_c (tq ((E_aload (v := Value.ref 21) rfl rfl f124_29)) (tq ((E_dup rfl f124_30)) (tq (tq ((G10004 f124_31)) (if_pos (zS21 hS))) (tq ((E_iconst (x := (1)) (by decide) f124_34)) (tq ((E_iadd f124_35)) (tq (tq ((P10004 f124_36)) (if_pos (zS21 hS))) ((E_vret pr_124 f124_39)))))))) (tq ((E_aload (v := Value.ref 21) rfl rfl f124_19)) (tq (tq ((G10001 f124_20)) (if_pos (zS21 hS))) (tq (exe_R (zR21_1 hS)) (tq ((E_aload (v := Value.ref 21) rfl rfl f124_23)) (tq (tq ((G10004 f124_24)) (if_pos (zS21 hS))) (tq ((E_iload (x := l1) rfl f124_27)) (tq (tq ((E_iast f124_28)) (ite_ar (zS23 hS))) (ite_c (tq ((E_aload (v := Value.ref 21) rfl rfl f124_29)) (tq ((E_dup rfl f124_30)) (tq (tq (tq ((G10004 f124_31)) (if_pos (zS21 hS))) (exe_i (u2_pa (by decide)))) (tq ((E_iconst (x := (1)) (by decide) f124_34)) (tq ((E_iadd f124_35)) (tq (tq ((P10004 f124_36)) (if_pos (zS21 hS))) ((E_vret pr_124 f124_39)))))))) rfl)))))))))))))))))))
theorem n124 {X : XX} {d : Nat} {h : HP} {a0 : Int32} : ev X (d + 1) 124 [Value.ref 21, Value.int a0] h = exe X d 124 0 [Value.ref 21, Value.int a0] [] h := ev_exe (Nat.le_of_ble_eq_true rfl)
theorem f125_0 : fr 125 0 = some (.iload 0, 1, [], []) := by decide +kernel
theorem f125_1 : fr 125 1 = some (.ifCond .lt 20, 3, [], [0]) := by decide +kernel
theorem f125_4 : fr 125 4 = some (.iload 0, 1, [], []) := by decide +kernel
theorem f125_5 : fr 125 5 = some (.getstatic 1, 3, [], []) := by decide +kernel
theorem f125_8 : fr 125 8 = some (.arraylength, 1, [], []) := by decide +kernel
theorem f125_9 : fr 125 9 = some (.if_icmp .ge 20, 3, [], [0]) := by decide +kernel
theorem f125_12 : fr 125 12 = some (.getstatic 1, 3, [], []) := by decide +kernel
theorem f125_15 : fr 125 15 = some (.iload 0, 1, [0], []) := by decide +kernel
theorem f125_16 : fr 125 16 = some (.iaload, 1, [], []) := by decide +kernel
theorem f125_17 : fr 125 17 = some (.goto 21, 3, [], []) := by decide +kernel
theorem f125_20 : fr 125 20 = some (.iconst (-1), 1, [], []) := by decide +kernel
theorem f125_21 : fr 125 21 = some (.ireturn, 1, [], []) := by decide +kernel
theorem t125_0 {X : XX} {d : Nat} {sz sl : Nat} {sh : Nat → Nat × Nat} {R : Nat → Nat → Option Nat} {I : Nat → Nat → Int32} {J : Nat → Nat → Int64} {l0 : Int32} : exe X d 125 0 [Value.int l0] [] (sz, sl, sh, R, I, J) =
    (if l0 < 0 then some (some (Value.int (-1)), (sz, sl, sh, R, I, J)) else (if (Int32.ofNat (tn X 1)) ≤ l0 then some (some (Value.int (-1)), (sz, sl, sh, R, I, J)) else (if 1 < 3 ∧ inb l0 (tn X 1) then some (some (Value.int (tv X 1 l0.toNatClampNeg)), (sz, sl, sh, R, I, J)) else none))) :=
  tq ((E_iload (x := l0) rfl f125_0)) (tq ((E_if_lt f125_1)) (ite_c (tq ((E_iconst (x := (-1)) (by decide) f125_20)) ((E_iret pr_125 f125_21))) (tq ((E_iload (x := l0) rfl f125_4)) (tq ((E_getstatic f125_5)) (tq (tq (E_len f125_8) (if_pos (by decide))) (tq ((E_ic_ge f125_9)) (ite_c (tq ((E_iconst (x := (-1)) (by decide) f125_20)) ((E_iret pr_125 f125_21))) (tq ((E_getstatic f125_12)) (tq ((E_iload (x := l0) rfl f125_15)) (tq (E_iald f125_16) (ite_c (tq ((E_goto f125_17)) ((E_iret pr_125 f125_21))) rfl)))))))))))
theorem n125 {X : XX} {d : Nat} {h : HP} {a0 : Int32} : ev X (d + 1) 125 [Value.int a0] h = exe X d 125 0 [Value.int a0] [] h := ev_exe (Nat.le_of_ble_eq_true rfl)
theorem f126_0 : fr 126 0 = some (.iload 1, 1, [1], []) := by decide +kernel
theorem f126_1 : fr 126 1 = some (.lookupswitch 280 #[(1, 116), (2, 123), (10, 141), (11, 152), (20, 159), (30, 171), (40, 182), (41, 194), (50, 206), (60, 218), (70, 237), (80, 256), (81, 268)], 115, [], []) := by decide +kernel
theorem f126_116 : fr 126 116 = some (.iload 3, 1, [2, 3, 4], []) := by decide +kernel
theorem f126_117 : fr 126 117 = some (.aload 0, 1, [0], []) := by decide +kernel
theorem f126_118 : fr 126 118 = some (.getfield 10002, 3, [], []) := by decide +kernel
theorem f126_121 : fr 126 121 = some (.iadd, 1, [], []) := by decide +kernel
theorem f126_122 : fr 126 122 = some (.ireturn, 1, [], []) := by decide +kernel
theorem f126_123 : fr 126 123 = some (.aload 0, 1, [2], []) := by decide +kernel
theorem f126_124 : fr 126 124 = some (.iconst 1, 1, [], []) := by decide +kernel
theorem f126_125 : fr 126 125 = some (.iload 3, 1, [3], []) := by decide +kernel
theorem f126_126 : fr 126 126 = some (.iload 4, 2, [], []) := by decide +kernel
theorem f126_128 : fr 126 128 = some (.invokevirtual 122, 3, [], []) := by decide +kernel
theorem f126_131 : fr 126 131 = some (.aload 0, 1, [0], []) := by decide +kernel
theorem f126_132 : fr 126 132 = some (.iconst 2, 1, [], []) := by decide +kernel
theorem f126_133 : fr 126 133 = some (.iconst 1, 1, [], []) := by decide +kernel
theorem f126_134 : fr 126 134 = some (.iload 4, 2, [4], []) := by decide +kernel
theorem f126_136 : fr 126 136 = some (.invokevirtual 122, 3, [], []) := by decide +kernel
theorem f126_139 : fr 126 139 = some (.isub, 1, [], []) := by decide +kernel
theorem f126_140 : fr 126 140 = some (.ireturn, 1, [], []) := by decide +kernel
theorem f126_141 : fr 126 141 = some (.aload 0, 1, [0, 2], []) := by decide +kernel
theorem f126_142 : fr 126 142 = some (.iconst 0, 1, [], []) := by decide +kernel
theorem f126_143 : fr 126 143 = some (.iload 3, 1, [3], []) := by decide +kernel
theorem f126_144 : fr 126 144 = some (.iload 4, 2, [4], []) := by decide +kernel
theorem f126_146 : fr 126 146 = some (.invokevirtual 122, 3, [], []) := by decide +kernel
theorem f126_149 : fr 126 149 = some (.iconst 2, 1, [], []) := by decide +kernel
theorem f126_150 : fr 126 150 = some (.imul, 1, [], []) := by decide +kernel
theorem f126_151 : fr 126 151 = some (.ireturn, 1, [], []) := by decide +kernel
theorem f126_152 : fr 126 152 = some (.iload 3, 1, [2, 3, 4], []) := by decide +kernel
theorem f126_153 : fr 126 153 = some (.aload 0, 1, [0], []) := by decide +kernel
theorem f126_154 : fr 126 154 = some (.getfield 10002, 3, [], []) := by decide +kernel
theorem f126_157 : fr 126 157 = some (.ixor, 1, [], []) := by decide +kernel
theorem f126_158 : fr 126 158 = some (.ireturn, 1, [], []) := by decide +kernel
theorem f126_159 : fr 126 159 = some (.aload 0, 1, [0], []) := by decide +kernel
theorem f126_160 : fr 126 160 = some (.iload 2, 1, [2], []) := by decide +kernel
theorem f126_161 : fr 126 161 = some (.iconst 0, 1, [], []) := by decide +kernel
theorem f126_162 : fr 126 162 = some (.iload 3, 1, [3], []) := by decide +kernel
theorem f126_163 : fr 126 163 = some (.iload 4, 2, [4], []) := by decide +kernel
theorem f126_165 : fr 126 165 = some (.invokevirtual 123, 3, [], []) := by decide +kernel
theorem f126_168 : fr 126 168 = some (.iconst 3, 1, [], []) := by decide +kernel
theorem f126_169 : fr 126 169 = some (.iadd, 1, [], []) := by decide +kernel
theorem f126_170 : fr 126 170 = some (.ireturn, 1, [], []) := by decide +kernel
theorem f126_171 : fr 126 171 = some (.aload 0, 1, [0], []) := by decide +kernel
theorem f126_172 : fr 126 172 = some (.iload 2, 1, [2], []) := by decide +kernel
theorem f126_173 : fr 126 173 = some (.iconst 1, 1, [], []) := by decide +kernel
theorem f126_174 : fr 126 174 = some (.iload 3, 1, [3], []) := by decide +kernel
theorem f126_175 : fr 126 175 = some (.iload 4, 2, [4], []) := by decide +kernel
theorem f126_177 : fr 126 177 = some (.invokevirtual 123, 3, [], []) := by decide +kernel
theorem f126_180 : fr 126 180 = some (.ineg, 1, [], []) := by decide +kernel
theorem f126_181 : fr 126 181 = some (.ireturn, 1, [], []) := by decide +kernel
theorem f126_182 : fr 126 182 = some (.aload 0, 1, [0], []) := by decide +kernel
theorem f126_183 : fr 126 183 = some (.iload 2, 1, [2], []) := by decide +kernel
theorem f126_184 : fr 126 184 = some (.iconst 2, 1, [], []) := by decide +kernel
theorem f126_185 : fr 126 185 = some (.iload 3, 1, [3], []) := by decide +kernel
theorem f126_186 : fr 126 186 = some (.iload 4, 2, [4], []) := by decide +kernel
theorem f126_188 : fr 126 188 = some (.invokevirtual 123, 3, [], []) := by decide +kernel
theorem f126_191 : fr 126 191 = some (.iconst 2, 1, [], []) := by decide +kernel
theorem f126_192 : fr 126 192 = some (.imul, 1, [], []) := by decide +kernel
theorem f126_193 : fr 126 193 = some (.ireturn, 1, [], []) := by decide +kernel
theorem f126_194 : fr 126 194 = some (.aload 0, 1, [0], []) := by decide +kernel
theorem f126_195 : fr 126 195 = some (.iload 2, 1, [2], []) := by decide +kernel
theorem f126_196 : fr 126 196 = some (.iconst 0, 1, [], []) := by decide +kernel
theorem f126_197 : fr 126 197 = some (.iload 3, 1, [3], []) := by decide +kernel
theorem f126_198 : fr 126 198 = some (.iconst 1, 1, [], []) := by decide +kernel
theorem f126_199 : fr 126 199 = some (.iadd, 1, [], []) := by decide +kernel
theorem f126_200 : fr 126 200 = some (.iload 4, 2, [4], []) := by decide +kernel
theorem f126_202 : fr 126 202 = some (.invokevirtual 123, 3, [], []) := by decide +kernel
theorem f126_205 : fr 126 205 = some (.ireturn, 1, [], []) := by decide +kernel
theorem f126_206 : fr 126 206 = some (.aload 0, 1, [0], []) := by decide +kernel
theorem f126_207 : fr 126 207 = some (.iload 2, 1, [2], []) := by decide +kernel
theorem f126_208 : fr 126 208 = some (.iconst 3, 1, [], []) := by decide +kernel
theorem f126_209 : fr 126 209 = some (.iload 3, 1, [3], []) := by decide +kernel
theorem f126_210 : fr 126 210 = some (.iload 4, 2, [4], []) := by decide +kernel
theorem f126_212 : fr 126 212 = some (.invokevirtual 123, 3, [], []) := by decide +kernel
theorem f126_215 : fr 126 215 = some (.iconst 5, 1, [], []) := by decide +kernel
theorem f126_216 : fr 126 216 = some (.ixor, 1, [], []) := by decide +kernel
theorem f126_217 : fr 126 217 = some (.ireturn, 1, [], []) := by decide +kernel
theorem f126_218 : fr 126 218 = some (.aload 0, 1, [], []) := by decide +kernel
theorem f126_219 : fr 126 219 = some (.iload 2, 1, [2], []) := by decide +kernel
theorem f126_220 : fr 126 220 = some (.iconst 2, 1, [], []) := by decide +kernel
theorem f126_221 : fr 126 221 = some (.iload 3, 1, [3], []) := by decide +kernel
theorem f126_222 : fr 126 222 = some (.iload 4, 2, [], []) := by decide +kernel
theorem f126_224 : fr 126 224 = some (.invokevirtual 123, 3, [], []) := by decide +kernel
theorem f126_227 : fr 126 227 = some (.aload 0, 1, [0], []) := by decide +kernel
theorem f126_228 : fr 126 228 = some (.iconst 0, 1, [], []) := by decide +kernel
theorem f126_229 : fr 126 229 = some (.iconst 2, 1, [], []) := by decide +kernel
theorem f126_230 : fr 126 230 = some (.iload 4, 2, [4], []) := by decide +kernel
theorem f126_232 : fr 126 232 = some (.invokevirtual 122, 3, [], []) := by decide +kernel
theorem f126_235 : fr 126 235 = some (.isub, 1, [], []) := by decide +kernel
theorem f126_236 : fr 126 236 = some (.ireturn, 1, [], []) := by decide +kernel
theorem f126_237 : fr 126 237 = some (.aload 0, 1, [], []) := by decide +kernel
theorem f126_238 : fr 126 238 = some (.iload 2, 1, [2], []) := by decide +kernel
theorem f126_239 : fr 126 239 = some (.iconst 1, 1, [], []) := by decide +kernel
theorem f126_240 : fr 126 240 = some (.iload 3, 1, [3], []) := by decide +kernel
theorem f126_241 : fr 126 241 = some (.iload 4, 2, [], []) := by decide +kernel
theorem f126_243 : fr 126 243 = some (.invokevirtual 123, 3, [], []) := by decide +kernel
theorem f126_246 : fr 126 246 = some (.aload 0, 1, [0], []) := by decide +kernel
theorem f126_247 : fr 126 247 = some (.iconst 2, 1, [], []) := by decide +kernel
theorem f126_248 : fr 126 248 = some (.iconst 2, 1, [], []) := by decide +kernel
theorem f126_249 : fr 126 249 = some (.iload 4, 2, [4], []) := by decide +kernel
theorem f126_251 : fr 126 251 = some (.invokevirtual 122, 3, [], []) := by decide +kernel
theorem f126_254 : fr 126 254 = some (.iadd, 1, [], []) := by decide +kernel
theorem f126_255 : fr 126 255 = some (.ireturn, 1, [], []) := by decide +kernel
theorem f126_256 : fr 126 256 = some (.aload 0, 1, [0], []) := by decide +kernel
theorem f126_257 : fr 126 257 = some (.iload 2, 1, [2], []) := by decide +kernel
theorem f126_258 : fr 126 258 = some (.iconst 0, 1, [], []) := by decide +kernel
theorem f126_259 : fr 126 259 = some (.iload 3, 1, [3], []) := by decide +kernel
theorem f126_260 : fr 126 260 = some (.iload 4, 2, [4], []) := by decide +kernel
theorem f126_262 : fr 126 262 = some (.invokevirtual 123, 3, [], []) := by decide +kernel
theorem f126_265 : fr 126 265 = some (.iconst 3, 1, [], []) := by decide +kernel
theorem f126_266 : fr 126 266 = some (.imul, 1, [], []) := by decide +kernel
theorem f126_267 : fr 126 267 = some (.ireturn, 1, [], []) := by decide +kernel
theorem f126_268 : fr 126 268 = some (.aload 0, 1, [0], []) := by decide +kernel
theorem f126_269 : fr 126 269 = some (.iload 2, 1, [2], []) := by decide +kernel
theorem f126_270 : fr 126 270 = some (.iconst 3, 1, [], []) := by decide +kernel
theorem f126_271 : fr 126 271 = some (.iload 3, 1, [3], []) := by decide +kernel
theorem f126_272 : fr 126 272 = some (.iload 4, 2, [4], []) := by decide +kernel
theorem f126_274 : fr 126 274 = some (.invokevirtual 123, 3, [], []) := by decide +kernel
theorem f126_277 : fr 126 277 = some (.iconst 1, 1, [], []) := by decide +kernel
theorem f126_278 : fr 126 278 = some (.isub, 1, [], []) := by decide +kernel
theorem f126_279 : fr 126 279 = some (.ireturn, 1, [], []) := by decide +kernel
theorem f126_280 : fr 126 280 = some (.iconst 0, 1, [0, 2, 3, 4], []) := by decide +kernel
theorem f126_281 : fr 126 281 = some (.ireturn, 1, [], []) := by decide +kernel
theorem t126_0 {X : XX} {d : Nat} {sz sl : Nat} {sh : Nat → Nat × Nat} {R : Nat → Nat → Option Nat} {I : Nat → Nat → Int32} {J : Nat → Nat → Int64} (hS : SF sh R) {l1 : Int32} {l2 : Int32} {l3 : Int32} {l4 : Int32} : exe X d 126 0 [Value.ref 21, Value.int l1, Value.int l2, Value.int l3, Value.int l4] [] (sz, sl, sh, R, I, J) =
    (if l1 = (1) then some (some (Value.int (l3 + (I 21 2))), (sz, sl, sh, R, I, J)) else (if l1 = (2) then ((ev X d 122 [Value.ref 21, Value.int (1), Value.int l3, Value.int l4] (sz, sl, sh, R, I, J)).bind fun q => exe X d 126 131 [Value.ref 21, dm, dm, dm, Value.int l4] (q.1.toList ++ []) q.2) else (if l1 = (10) then ((ev X d 122 [Value.ref 21, Value.int (0), Value.int l3, Value.int l4] (sz, sl, sh, R, I, J)).bind fun q => exe X d 126 149 [dm, dm, dm, dm, dm] (q.1.toList ++ []) q.2) else (if l1 = (11) then some (some (Value.int (l3 ^^^ (I 21 2))), (sz, sl, sh, R, I, J)) else (if l1 = (20) then ((ev X d 123 [Value.ref 21, Value.int l2, Value.int (0), Value.int l3, Value.int l4] (sz, sl, sh, R, I, J)).bind fun q => exe X d 126 168 [dm, dm, dm, dm, dm] (q.1.toList ++ []) q.2) else (if l1 = (30) then ((ev X d 123 [Value.ref 21, Value.int l2, Value.int (1), Value.int l3, Value.int l4] (sz, sl, sh, R, I, J)).bind fun q => exe X d 126 180 [dm, dm, dm, dm, dm] (q.1.toList ++ []) q.2) else (if l1 = (40) then ((ev X d 123 [Value.ref 21, Value.int l2, Value.int (2), Value.int l3, Value.int l4] (sz, sl, sh, R, I, J)).bind fun q => exe X d 126 191 [dm, dm, dm, dm, dm] (q.1.toList ++ []) q.2) else (if l1 = (41) then ((ev X d 123 [Value.ref 21, Value.int l2, Value.int (0), Value.int (l3 + (1)), Value.int l4] (sz, sl, sh, R, I, J)).bind fun q => exe X d 126 205 [dm, dm, dm, dm, dm] (q.1.toList ++ []) q.2) else (if l1 = (50) then ((ev X d 123 [Value.ref 21, Value.int l2, Value.int (3), Value.int l3, Value.int l4] (sz, sl, sh, R, I, J)).bind fun q => exe X d 126 215 [dm, dm, dm, dm, dm] (q.1.toList ++ []) q.2) else (if l1 = (60) then ((ev X d 123 [Value.ref 21, Value.int l2, Value.int (2), Value.int l3, Value.int l4] (sz, sl, sh, R, I, J)).bind fun q => exe X d 126 227 [Value.ref 21, dm, dm, dm, Value.int l4] (q.1.toList ++ []) q.2) else (if l1 = (70) then ((ev X d 123 [Value.ref 21, Value.int l2, Value.int (1), Value.int l3, Value.int l4] (sz, sl, sh, R, I, J)).bind fun q => exe X d 126 246 [Value.ref 21, dm, dm, dm, Value.int l4] (q.1.toList ++ []) q.2) else (if l1 = (80) then ((ev X d 123 [Value.ref 21, Value.int l2, Value.int (0), Value.int l3, Value.int l4] (sz, sl, sh, R, I, J)).bind fun q => exe X d 126 265 [dm, dm, dm, dm, dm] (q.1.toList ++ []) q.2) else (if l1 = (81) then ((ev X d 123 [Value.ref 21, Value.int l2, Value.int (3), Value.int l3, Value.int l4] (sz, sl, sh, R, I, J)).bind fun q => exe X d 126 277 [dm, dm, dm, dm, dm] (q.1.toList ++ []) q.2) else some (some (Value.int (0)), (sz, sl, sh, R, I, J))))))))))))))) :=
  tq ((E_iload (x := l1) rfl f126_0)) (tq ((E_sw f126_1)) (sw_c (by decide) (tq ((E_iload (x := l3) rfl f126_116)) (tq ((E_aload (v := Value.ref 21) rfl rfl f126_117)) (tq (tq ((G10002 f126_118)) (if_pos (zS21 hS))) (tq ((E_iadd f126_121)) ((E_iret pr_126 f126_122)))))) (sw_c (by decide) (tq ((E_aload (v := Value.ref 21) rfl rfl f126_123)) (tq ((E_iconst (x := (1)) (by decide) f126_124)) (tq ((E_iload (x := l3) rfl f126_125)) (tq ((E_iload (x := l4) rfl f126_126)) ((tq ((E_callV pn_122 pc_122 rfl rfl (Nat.le_of_ble_eq_true rfl) f126_128)) (if_pos (zS21 hS)))))))) (sw_c (by decide) (tq ((E_aload (v := Value.ref 21) rfl rfl f126_141)) (tq ((E_iconst (x := (0)) (by decide) f126_142)) (tq ((E_iload (x := l3) rfl f126_143)) (tq ((E_iload (x := l4) rfl f126_144)) ((tq ((E_callV pn_122 pc_122 rfl rfl (Nat.le_of_ble_eq_true rfl) f126_146)) (if_pos (zS21 hS)))))))) (sw_c (by decide) (tq ((E_iload (x := l3) rfl f126_152)) (tq ((E_aload (v := Value.ref 21) rfl rfl f126_153)) (tq (tq ((G10002 f126_154)) (if_pos (zS21 hS))) (tq ((E_ixor f126_157)) ((E_iret pr_126 f126_158)))))) (sw_c (by decide) (tq ((E_aload (v := Value.ref 21) rfl rfl f126_159)) (tq ((E_iload (x := l2) rfl f126_160)) (tq ((E_iconst (x := (0)) (by decide) f126_161)) (tq ((E_iload (x := l3) rfl f126_162)) (tq ((E_iload (x := l4) rfl f126_163)) ((tq ((E_callV pn_123 pc_123 rfl rfl (Nat.le_of_ble_eq_true rfl) f126_165)) (if_pos (zS21 hS))))))))) (sw_c (by decide) (tq ((E_aload (v := Value.ref 21) rfl rfl f126_171)) (tq ((E_iload (x := l2) rfl f126_172)) (tq ((E_iconst (x := (1)) (by decide) f126_173)) (tq ((E_iload (x := l3) rfl f126_174)) (tq ((E_iload (x := l4) rfl f126_175)) ((tq ((E_callV pn_123 pc_123 rfl rfl (Nat.le_of_ble_eq_true rfl) f126_177)) (if_pos (zS21 hS))))))))) (sw_c (by decide) (tq ((E_aload (v := Value.ref 21) rfl rfl f126_182)) (tq ((E_iload (x := l2) rfl f126_183)) (tq ((E_iconst (x := (2)) (by decide) f126_184)) (tq ((E_iload (x := l3) rfl f126_185)) (tq ((E_iload (x := l4) rfl f126_186)) ((tq ((E_callV pn_123 pc_123 rfl rfl (Nat.le_of_ble_eq_true rfl) f126_188)) (if_pos (zS21 hS))))))))) (sw_c (by decide) (tq ((E_aload (v := Value.ref 21) rfl rfl f126_194)) (tq ((E_iload (x := l2) rfl f126_195)) (tq ((E_iconst (x := (0)) (by decide) f126_196)) (tq ((E_iload (x := l3) rfl f126_197)) (tq ((E_iconst (x := (1)) (by decide) f126_198)) (tq ((E_iadd f126_199)) (tq ((E_iload (x := l4) rfl f126_200)) ((tq ((E_callV pn_123 pc_123 rfl rfl (Nat.le_of_ble_eq_true rfl) f126_202)) (if_pos (zS21 hS))))))))))) (sw_c (by decide) (tq ((E_aload (v := Value.ref 21) rfl rfl f126_206)) (tq ((E_iload (x := l2) rfl f126_207)) (tq ((E_iconst (x := (3)) (by decide) f126_208)) (tq ((E_iload (x := l3) rfl f126_209)) (tq ((E_iload (x := l4) rfl f126_210)) ((tq ((E_callV pn_123 pc_123 rfl rfl (Nat.le_of_ble_eq_true rfl) f126_212)) (if_pos (zS21 hS))))))))) (sw_c (by decide) (tq ((E_aload (v := Value.ref 21) rfl rfl f126_218)) (tq ((E_iload (x := l2) rfl f126_219)) (tq ((E_iconst (x := (2)) (by decide) f126_220)) (tq ((E_iload (x := l3) rfl f126_221)) (tq ((E_iload (x := l4) rfl f126_222)) ((tq ((E_callV pn_123 pc_123 rfl rfl (Nat.le_of_ble_eq_true rfl) f126_224)) (if_pos (zS21 hS))))))))) (sw_c (by decide) (tq ((E_aload (v := Value.ref 21) rfl rfl f126_237)) (tq ((E_iload (x := l2) rfl f126_238)) (tq ((E_iconst (x := (1)) (by decide) f126_239)) (tq ((E_iload (x := l3) rfl f126_240)) (tq ((E_iload (x := l4) rfl f126_241)) ((tq ((E_callV pn_123 pc_123 rfl rfl (Nat.le_of_ble_eq_true rfl) f126_243)) (if_pos (zS21 hS))))))))) (sw_c (by decide) (tq ((E_aload (v := Value.ref 21) rfl rfl f126_256)) (tq ((E_iload (x := l2) rfl f126_257)) (tq ((E_iconst (x := (0)) (by decide) f126_258)) (tq ((E_iload (x := l3) rfl f126_259)) (tq ((E_iload (x := l4) rfl f126_260)) ((tq ((E_callV pn_123 pc_123 rfl rfl (Nat.le_of_ble_eq_true rfl) f126_262)) (if_pos (zS21 hS))))))))) (sw_c (by decide) (tq ((E_aload (v := Value.ref 21) rfl rfl f126_268)) (tq ((E_iload (x := l2) rfl f126_269)) (tq ((E_iconst (x := (3)) (by decide) f126_270)) (tq ((E_iload (x := l3) rfl f126_271)) (tq ((E_iload (x := l4) rfl f126_272)) ((tq ((E_callV pn_123 pc_123 rfl rfl (Nat.le_of_ble_eq_true rfl) f126_274)) (if_pos (zS21 hS))))))))) (tq ((E_iconst (x := (0)) (by decide) f126_280)) ((E_iret pr_126 f126_281)))))))))))))))))
theorem t126_131 {X : XX} {d : Nat} {sz sl : Nat} {sh : Nat → Nat × Nat} {R : Nat → Nat → Option Nat} {I : Nat → Nat → Int32} {J : Nat → Nat → Int64} (hS : SF sh R) {l4 : Int32} {s0 : Int32} : exe X d 126 131 [Value.ref 21, dm, dm, dm, Value.int l4] [Value.int s0] (sz, sl, sh, R, I, J) =
    ((ev X d 122 [Value.ref 21, Value.int (2), Value.int (1), Value.int l4] (sz, sl, sh, R, I, J)).bind fun q => exe X d 126 139 [dm, dm, dm, dm, dm] (q.1.toList ++ [Value.int s0]) q.2) :=
  tq ((E_aload (v := Value.ref 21) rfl rfl f126_131)) (tq ((E_iconst (x := (2)) (by decide) f126_132)) (tq ((E_iconst (x := (1)) (by decide) f126_133)) (tq ((E_iload (x := l4) rfl f126_134)) ((tq ((E_callV pn_122 pc_122 rfl rfl (Nat.le_of_ble_eq_true rfl) f126_136)) (if_pos (zS21 hS)))))))
theorem t126_139 {X : XX} {d : Nat} {sz sl : Nat} {sh : Nat → Nat × Nat} {R : Nat → Nat → Option Nat} {I : Nat → Nat → Int32} {J : Nat → Nat → Int64} {s0 : Int32} {s1 : Int32} : exe X d 126 139 [dm, dm, dm, dm, dm] [Value.int s0, Value.int s1] (sz, sl, sh, R, I, J) =
    some (some (Value.int (s1 - s0)), (sz, sl, sh, R, I, J)) :=
  tq ((E_isub f126_139)) ((E_iret pr_126 f126_140))
theorem t126_149 {X : XX} {d : Nat} {sz sl : Nat} {sh : Nat → Nat × Nat} {R : Nat → Nat → Option Nat} {I : Nat → Nat → Int32} {J : Nat → Nat → Int64} {s0 : Int32} : exe X d 126 149 [dm, dm, dm, dm, dm] [Value.int s0] (sz, sl, sh, R, I, J) =
    some (some (Value.int (s0 * (2))), (sz, sl, sh, R, I, J)) :=
  tq ((E_iconst (x := (2)) (by decide) f126_149)) (tq ((E_imul f126_150)) ((E_iret pr_126 f126_151)))
theorem t126_168 {X : XX} {d : Nat} {sz sl : Nat} {sh : Nat → Nat × Nat} {R : Nat → Nat → Option Nat} {I : Nat → Nat → Int32} {J : Nat → Nat → Int64} {s0 : Int32} : exe X d 126 168 [dm, dm, dm, dm, dm] [Value.int s0] (sz, sl, sh, R, I, J) =
    some (some (Value.int (s0 + (3))), (sz, sl, sh, R, I, J)) :=
  tq ((E_iconst (x := (3)) (by decide) f126_168)) (tq ((E_iadd f126_169)) ((E_iret pr_126 f126_170)))
theorem t126_180 {X : XX} {d : Nat} {sz sl : Nat} {sh : Nat → Nat × Nat} {R : Nat → Nat → Option Nat} {I : Nat → Nat → Int32} {J : Nat → Nat → Int64} {s0 : Int32} : exe X d 126 180 [dm, dm, dm, dm, dm] [Value.int s0] (sz, sl, sh, R, I, J) =
    some (some (Value.int (-s0)), (sz, sl, sh, R, I, J)) :=
  tq ((E_ineg f126_180)) ((E_iret pr_126 f126_181))
theorem t126_191 {X : XX} {d : Nat} {sz sl : Nat} {sh : Nat → Nat × Nat} {R : Nat → Nat → Option Nat} {I : Nat → Nat → Int32} {J : Nat → Nat → Int64} {s0 : Int32} : exe X d 126 191 [dm, dm, dm, dm, dm] [Value.int s0] (sz, sl, sh, R, I, J) =
    some (some (Value.int (s0 * (2))), (sz, sl, sh, R, I, J)) :=
  tq ((E_iconst (x := (2)) (by decide) f126_191)) (tq ((E_imul f126_192)) ((E_iret pr_126 f126_193)))
theorem t126_205 {X : XX} {d : Nat} {sz sl : Nat} {sh : Nat → Nat × Nat} {R : Nat → Nat → Option Nat} {I : Nat → Nat → Int32} {J : Nat → Nat → Int64} {s0 : Int32} : exe X d 126 205 [dm, dm, dm, dm, dm] [Value.int s0] (sz, sl, sh, R, I, J) =
    some (some (Value.int s0), (sz, sl, sh, R, I, J)) :=
  (E_iret pr_126 f126_205)
theorem t126_215 {X : XX} {d : Nat} {sz sl : Nat} {sh : Nat → Nat × Nat} {R : Nat → Nat → Option Nat} {I : Nat → Nat → Int32} {J : Nat → Nat → Int64} {s0 : Int32} : exe X d 126 215 [dm, dm, dm, dm, dm] [Value.int s0] (sz, sl, sh, R, I, J) =
    some (some (Value.int (s0 ^^^ (5))), (sz, sl, sh, R, I, J)) :=
  tq ((E_iconst (x := (5)) (by decide) f126_215)) (tq ((E_ixor f126_216)) ((E_iret pr_126 f126_217)))
theorem t126_227 {X : XX} {d : Nat} {sz sl : Nat} {sh : Nat → Nat × Nat} {R : Nat → Nat → Option Nat} {I : Nat → Nat → Int32} {J : Nat → Nat → Int64} (hS : SF sh R) {l4 : Int32} {s0 : Int32} : exe X d 126 227 [Value.ref 21, dm, dm, dm, Value.int l4] [Value.int s0] (sz, sl, sh, R, I, J) =
    ((ev X d 122 [Value.ref 21, Value.int (0), Value.int (2), Value.int l4] (sz, sl, sh, R, I, J)).bind fun q => exe X d 126 235 [dm, dm, dm, dm, dm] (q.1.toList ++ [Value.int s0]) q.2) :=
  tq ((E_aload (v := Value.ref 21) rfl rfl f126_227)) (tq ((E_iconst (x := (0)) (by decide) f126_228)) (tq ((E_iconst (x := (2)) (by decide) f126_229)) (tq ((E_iload (x := l4) rfl f126_230)) ((tq ((E_callV pn_122 pc_122 rfl rfl (Nat.le_of_ble_eq_true rfl) f126_232)) (if_pos (zS21 hS)))))))
theorem t126_235 {X : XX} {d : Nat} {sz sl : Nat} {sh : Nat → Nat × Nat} {R : Nat → Nat → Option Nat} {I : Nat → Nat → Int32} {J : Nat → Nat → Int64} {s0 : Int32} {s1 : Int32} : exe X d 126 235 [dm, dm, dm, dm, dm] [Value.int s0, Value.int s1] (sz, sl, sh, R, I, J) =
    some (some (Value.int (s1 - s0)), (sz, sl, sh, R, I, J)) :=
  tq ((E_isub f126_235)) ((E_iret pr_126 f126_236))
theorem t126_246 {X : XX} {d : Nat} {sz sl : Nat} {sh : Nat → Nat × Nat} {R : Nat → Nat → Option Nat} {I : Nat → Nat → Int32} {J : Nat → Nat → Int64} (hS : SF sh R) {l4 : Int32} {s0 : Int32} : exe X d 126 246 [Value.ref 21, dm, dm, dm, Value.int l4] [Value.int s0] (sz, sl, sh, R, I, J) =
    ((ev X d 122 [Value.ref 21, Value.int (2), Value.int (2), Value.int l4] (sz, sl, sh, R, I, J)).bind fun q => exe X d 126 254 [dm, dm, dm, dm, dm] (q.1.toList ++ [Value.int s0]) q.2) :=
  tq ((E_aload (v := Value.ref 21) rfl rfl f126_246)) (tq ((E_iconst (x := (2)) (by decide) f126_247)) (tq ((E_iconst (x := (2)) (by decide) f126_248)) (tq ((E_iload (x := l4) rfl f126_249)) ((tq ((E_callV pn_122 pc_122 rfl rfl (Nat.le_of_ble_eq_true rfl) f126_251)) (if_pos (zS21 hS)))))))
theorem t126_254 {X : XX} {d : Nat} {sz sl : Nat} {sh : Nat → Nat × Nat} {R : Nat → Nat → Option Nat} {I : Nat → Nat → Int32} {J : Nat → Nat → Int64} {s0 : Int32} {s1 : Int32} : exe X d 126 254 [dm, dm, dm, dm, dm] [Value.int s0, Value.int s1] (sz, sl, sh, R, I, J) =
    some (some (Value.int (s1 + s0)), (sz, sl, sh, R, I, J)) :=
  tq ((E_iadd f126_254)) ((E_iret pr_126 f126_255))
theorem t126_265 {X : XX} {d : Nat} {sz sl : Nat} {sh : Nat → Nat × Nat} {R : Nat → Nat → Option Nat} {I : Nat → Nat → Int32} {J : Nat → Nat → Int64} {s0 : Int32} : exe X d 126 265 [dm, dm, dm, dm, dm] [Value.int s0] (sz, sl, sh, R, I, J) =
    some (some (Value.int (s0 * (3))), (sz, sl, sh, R, I, J)) :=
  tq ((E_iconst (x := (3)) (by decide) f126_265)) (tq ((E_imul f126_266)) ((E_iret pr_126 f126_267)))
theorem t126_277 {X : XX} {d : Nat} {sz sl : Nat} {sh : Nat → Nat × Nat} {R : Nat → Nat → Option Nat} {I : Nat → Nat → Int32} {J : Nat → Nat → Int64} {s0 : Int32} : exe X d 126 277 [dm, dm, dm, dm, dm] [Value.int s0] (sz, sl, sh, R, I, J) =
    some (some (Value.int (s0 - (1))), (sz, sl, sh, R, I, J)) :=
  tq ((E_iconst (x := (1)) (by decide) f126_277)) (tq ((E_isub f126_278)) ((E_iret pr_126 f126_279)))
theorem n126 {X : XX} {d : Nat} {h : HP} {a0 : Int32} {a1 : Int32} {a2 : Int32} {a3 : Int32} : ev X (d + 1) 126 [Value.ref 21, Value.int a0, Value.int a1, Value.int a2, Value.int a3] h = exe X d 126 0 [Value.ref 21, Value.int a0, Value.int a1, Value.int a2, Value.int a3] [] h := ev_exe (Nat.le_of_ble_eq_true rfl)
theorem f127_0 : fr 127 0 = some (.iload 1, 1, [], []) := by decide +kernel
theorem f127_1 : fr 127 1 = some (.iconst 0, 1, [], []) := by decide +kernel
theorem f127_2 : fr 127 2 = some (.aload 0, 1, [], []) := by decide +kernel
theorem f127_3 : fr 127 3 = some (.getfield 11, 3, [], []) := by decide +kernel
theorem f127_6 : fr 127 6 = some (.invokevirtual 128, 3, [], []) := by decide +kernel
theorem f127_9 : fr 127 9 = some (.iconst 1, 1, [], []) := by decide +kernel
theorem f127_10 : fr 127 10 = some (.isub, 1, [], []) := by decide +kernel
theorem f127_11 : fr 127 11 = some (.invokestatic 10, 3, [], []) := by decide +kernel
theorem f127_14 : fr 127 14 = some (.ifCond .eq 28, 3, [], [0, 1]) := by decide +kernel
theorem f127_17 : fr 127 17 = some (.aload 0, 1, [0], []) := by decide +kernel
theorem f127_18 : fr 127 18 = some (.getfield 11, 3, [], []) := by decide +kernel
theorem f127_21 : fr 127 21 = some (.iload 1, 1, [1], []) := by decide +kernel
theorem f127_22 : fr 127 22 = some (.invokevirtual 129, 3, [], []) := by decide +kernel
theorem f127_25 : fr 127 25 = some (.goto 29, 3, [], []) := by decide +kernel
theorem f127_28 : fr 127 28 = some (.iconst (-1), 1, [], []) := by decide +kernel
theorem f127_29 : fr 127 29 = some (.ireturn, 1, [], []) := by decide +kernel
theorem t127_0 {X : XX} {d : Nat} {sz sl : Nat} {sh : Nat → Nat × Nat} {R : Nat → Nat → Option Nat} {I : Nat → Nat → Int32} {J : Nat → Nat → Int64} (hS : SF sh R) {l1 : Int32} : exe X d 127 0 [Value.ref 0, Value.int l1] [] (sz, sl, sh, R, I, J) =
    ((ev X d 128 [Value.ref 21] (sz, sl, sh, R, I, J)).bind fun q => exe X d 127 9 [Value.ref 0, Value.int l1] (q.1.toList ++ [Value.int (0), Value.int l1]) q.2) :=
  tq ((E_iload (x := l1) rfl f127_0)) (tq ((E_iconst (x := (0)) (by decide) f127_1)) (tq ((E_aload (v := Value.ref 0) rfl rfl f127_2)) (tq (tq ((G11 f127_3)) (if_pos (zS0 hS))) (tq (exe_R (zR0_11 hS)) ((tq ((E_callV pn_128 pc_128 rfl rfl (Nat.le_of_ble_eq_true rfl) f127_6)) (if_pos (zS21 hS))))))))
theorem t127_9 {X : XX} {d : Nat} {sz sl : Nat} {sh : Nat → Nat × Nat} {R : Nat → Nat → Option Nat} {I : Nat → Nat → Int32} {J : Nat → Nat → Int64} {l1 : Int32} {s0 : Int32} {s1 : Int32} {s2 : Int32} : exe X d 127 9 [Value.ref 0, Value.int l1] [Value.int s0, Value.int s1, Value.int s2] (sz, sl, sh, R, I, J) =
    ((ev X d 10 [Value.int s2, Value.int s1, Value.int (s0 - (1))] (sz, sl, sh, R, I, J)).bind fun q => exe X d 127 14 [Value.ref 0, Value.int l1] (q.1.toList ++ []) q.2) :=
  tq ((E_iconst (x := (1)) (by decide) f127_9)) (tq ((E_isub f127_10)) ((E_callS pn_10 rfl rfl (Nat.le_of_ble_eq_true rfl) (Nat.le_of_ble_eq_true rfl) f127_11)))
theorem t127_14 {X : XX} {d : Nat} {sz sl : Nat} {sh : Nat → Nat × Nat} {R : Nat → Nat → Option Nat} {I : Nat → Nat → Int32} {J : Nat → Nat → Int64} (hS : SF sh R) {l1 : Int32} {s0 : Int32} : exe X d 127 14 [Value.ref 0, Value.int l1] [Value.int s0] (sz, sl, sh, R, I, J) =
    (if s0 = 0 then some (some (Value.int (-1)), (sz, sl, sh, R, I, J)) else ((ev X d 129 [Value.ref 21, Value.int l1] (sz, sl, sh, R, I, J)).bind fun q => exe X d 127 25 [dm, dm] (q.1.toList ++ []) q.2)) :=
  tq ((E_if_eq f127_14)) (ite_c (tq ((E_iconst (x := (-1)) (by decide) f127_28)) ((E_iret pr_127 f127_29))) (tq ((E_aload (v := Value.ref 0) rfl rfl f127_17)) (tq (tq ((G11 f127_18)) (if_pos (zS0 hS))) (tq (exe_R (zR0_11 hS)) (tq ((E_iload (x := l1) rfl f127_21)) ((tq ((E_callV pn_129 pc_129 rfl rfl (Nat.le_of_ble_eq_true rfl) f127_22)) (if_pos (zS21 hS)))))))))
theorem t127_25 {X : XX} {d : Nat} {sz sl : Nat} {sh : Nat → Nat × Nat} {R : Nat → Nat → Option Nat} {I : Nat → Nat → Int32} {J : Nat → Nat → Int64} {s0 : Int32} : exe X d 127 25 [dm, dm] [Value.int s0] (sz, sl, sh, R, I, J) =
    some (some (Value.int s0), (sz, sl, sh, R, I, J)) :=
  tq ((E_goto f127_25)) ((E_iret pr_127 f127_29))
theorem n127 {X : XX} {d : Nat} {h : HP} {a0 : Int32} : ev X (d + 1) 127 [Value.ref 0, Value.int a0] h = exe X d 127 0 [Value.ref 0, Value.int a0] [] h := ev_exe (Nat.le_of_ble_eq_true rfl)
theorem f128_0 : fr 128 0 = some (.aload 0, 1, [0], []) := by decide +kernel
theorem f128_1 : fr 128 1 = some (.getfield 10004, 3, [], []) := by decide +kernel
theorem f128_4 : fr 128 4 = some (.iconst 24, 2, [], []) := by decide +kernel
theorem f128_6 : fr 128 6 = some (.fsub, 3, [], []) := by decide +kernel
theorem f128_9 : fr 128 9 = some (.ireturn, 1, [], []) := by decide +kernel
theorem t128_0 {X : XX} {d : Nat} {sz sl : Nat} {sh : Nat → Nat × Nat} {R : Nat → Nat → Option Nat} {I : Nat → Nat → Int32} {J : Nat → Nat → Int64} (hS : SF sh R)  : exe X d 128 0 [Value.ref 21] [] (sz, sl, sh, R, I, J) =
    some (some (Value.int (if (24) < (I 21 4) then (24) else (I 21 4))), (sz, sl, sh, R, I, J)) :=
  tq ((E_aload (v := Value.ref 21) rfl rfl f128_0)) (tq (tq ((G10004 f128_1)) (if_pos (zS21 hS))) (tq ((E_iconst (x := (24)) (by decide) f128_4)) (tq ((E_fsub (Nat.le_of_ble_eq_true rfl) f128_6)) ((E_iret pr_128 f128_9)))))
theorem n128 {X : XX} {d : Nat} {h : HP}  : ev X (d + 1) 128 [Value.ref 21] h = exe X d 128 0 [Value.ref 21] [] h := ev_exe (Nat.le_of_ble_eq_true rfl)
theorem f129_0 : fr 129 0 = some (.iload 1, 1, [], []) := by decide +kernel
theorem f129_1 : fr 129 1 = some (.ifCond .lt 22, 3, [], [0, 1]) := by decide +kernel
theorem f129_4 : fr 129 4 = some (.iload 1, 1, [], []) := by decide +kernel
theorem f129_5 : fr 129 5 = some (.aload 0, 1, [], []) := by decide +kernel
theorem f129_6 : fr 129 6 = some (.getfield 10001, 3, [], []) := by decide +kernel
theorem f129_9 : fr 129 9 = some (.arraylength, 1, [], []) := by decide +kernel
theorem f129_10 : fr 129 10 = some (.if_icmp .ge 22, 3, [], [0, 1]) := by decide +kernel
theorem f129_13 : fr 129 13 = some (.aload 0, 1, [0], []) := by decide +kernel
theorem f129_14 : fr 129 14 = some (.getfield 10001, 3, [], []) := by decide +kernel
theorem f129_17 : fr 129 17 = some (.iload 1, 1, [1], []) := by decide +kernel
theorem f129_18 : fr 129 18 = some (.iaload, 1, [], []) := by decide +kernel
theorem f129_19 : fr 129 19 = some (.goto 23, 3, [], []) := by decide +kernel
theorem f129_22 : fr 129 22 = some (.iconst 0, 1, [], []) := by decide +kernel
theorem f129_23 : fr 129 23 = some (.ireturn, 1, [], []) := by decide +kernel
theorem t129_0 {X : XX} {d : Nat} {sz sl : Nat} {sh : Nat → Nat × Nat} {R : Nat → Nat → Option Nat} {I : Nat → Nat → Int32} {J : Nat → Nat → Int64} (hS : SF sh R) {l1 : Int32} : exe X d 129 0 [Value.ref 21, Value.int l1] [] (sz, sl, sh, R, I, J) =
    (if l1 < 0 then some (some (Value.int (0)), (sz, sl, sh, R, I, J)) else (if (24) ≤ l1 then some (some (Value.int (0)), (sz, sl, sh, R, I, J)) else (if inb l1 24 then some (some (Value.int (I 23 l1.toNatClampNeg)), (sz, sl, sh, R, I, J)) else none))) :=
  tq ((E_iload (x := l1) rfl f129_0)) (tq ((E_if_lt f129_1)) (ite_c (tq ((E_iconst (x := (0)) (by decide) f129_22)) ((E_iret pr_129 f129_23))) (tq ((E_iload (x := l1) rfl f129_4)) (tq ((E_aload (v := Value.ref 21) rfl rfl f129_5)) (tq (tq ((G10001 f129_6)) (if_pos (zS21 hS))) (tq (exe_R (zR21_1 hS)) (tq (tq (E_len f129_9) (ite_len (m := 24) (A := fun m => exe X d 129 10 [Value.ref 21, Value.int l1] (.int (Int32.ofNat m) :: [Value.int l1]) (sz, sl, sh, R, I, J)) (zS23 hS) (by decide))) (tq ((E_ic_ge f129_10)) (ite_c (tq ((E_iconst (x := (0)) (by decide) f129_22)) ((E_iret pr_129 f129_23))) (tq ((E_aload (v := Value.ref 21) rfl rfl f129_13)) (tq (tq ((G10001 f129_14)) (if_pos (zS21 hS))) (tq (exe_R (zR21_1 hS)) (tq ((E_iload (x := l1) rfl f129_17)) (tq (tq ((E_iald f129_18)) (ite_ar (zS23 hS))) (ite_c (tq ((E_goto f129_19)) ((E_iret pr_129 f129_23))) rfl)))))))))))))))
theorem n129 {X : XX} {d : Nat} {h : HP} {a0 : Int32} : ev X (d + 1) 129 [Value.ref 21, Value.int a0] h = exe X d 129 0 [Value.ref 21, Value.int a0] [] h := ev_exe (Nat.le_of_ble_eq_true rfl)
theorem f130_0 : fr 130 0 = some (.aload 0, 1, [], []) := by decide +kernel
theorem f130_1 : fr 130 1 = some (.iload 1, 1, [1], []) := by decide +kernel
theorem f130_2 : fr 130 2 = some (.invokevirtual 26, 3, [], []) := by decide +kernel
theorem f130_5 : fr 130 5 = some (.astore 3, 1, [], []) := by decide +kernel
theorem f130_6 : fr 130 6 = some (.aload 3, 1, [], []) := by decide +kernel
theorem f130_7 : fr 130 7 = some (.ifnull 27, 3, [], [0, 2, 3]) := by decide +kernel
theorem f130_10 : fr 130 10 = some (.iload 2, 1, [], []) := by decide +kernel
theorem f130_11 : fr 130 11 = some (.iconst (-1), 1, [], []) := by decide +kernel
theorem f130_12 : fr 130 12 = some (.aload 0, 1, [], []) := by decide +kernel
theorem f130_13 : fr 130 13 = some (.getfield 11, 3, [], []) := by decide +kernel
theorem f130_16 : fr 130 16 = some (.getfield 10003, 3, [], []) := by decide +kernel
theorem f130_19 : fr 130 19 = some (.iconst 1, 1, [], []) := by decide +kernel
theorem f130_20 : fr 130 20 = some (.isub, 1, [], []) := by decide +kernel
theorem f130_21 : fr 130 21 = some (.invokestatic 10, 3, [], []) := by decide +kernel
theorem f130_24 : fr 130 24 = some (.ifCond .ne 29, 3, [0, 2, 3], []) := by decide +kernel
theorem f130_27 : fr 130 27 = some (.iconst (-1), 1, [], []) := by decide +kernel
theorem f130_28 : fr 130 28 = some (.ireturn, 1, [], []) := by decide +kernel
theorem f130_29 : fr 130 29 = some (.iload 2, 1, [], []) := by decide +kernel
theorem f130_30 : fr 130 30 = some (.ifCond .ge 40, 3, [0, 2], []) := by decide +kernel
theorem f130_33 : fr 130 33 = some (.aload 3, 1, [3], []) := by decide +kernel
theorem f130_34 : fr 130 34 = some (.invokevirtual 131, 3, [], []) := by decide +kernel
theorem f130_37 : fr 130 37 = some (.goto 52, 3, [], []) := by decide +kernel
theorem f130_40 : fr 130 40 = some (.aload 3, 1, [3], []) := by decide +kernel
theorem f130_41 : fr 130 41 = some (.aload 0, 1, [0], []) := by decide +kernel
theorem f130_42 : fr 130 42 = some (.getfield 11, 3, [], []) := by decide +kernel
theorem f130_45 : fr 130 45 = some (.iload 2, 1, [2], []) := by decide +kernel
theorem f130_46 : fr 130 46 = some (.invokevirtual 121, 3, [], []) := by decide +kernel
theorem f130_49 : fr 130 49 = some (.invokevirtual 132, 3, [], []) := by decide +kernel
theorem f130_52 : fr 130 52 = some (.iconst 1, 1, [], []) := by decide +kernel
theorem f130_53 : fr 130 53 = some (.ireturn, 1, [], []) := by decide +kernel
theorem t130_0 {X : XX} {d : Nat} {sz sl : Nat} {sh : Nat → Nat × Nat} {R : Nat → Nat → Option Nat} {I : Nat → Nat → Int32} {J : Nat → Nat → Int64} (hS : SF sh R) {l1 : Int32} {l2 : Int32} : exe X d 130 0 [Value.ref 0, Value.int l1, Value.int l2, dm] [] (sz, sl, sh, R, I, J) =
    ((ev X d 26 [Value.ref 0, Value.int l1] (sz, sl, sh, R, I, J)).bind fun q => exe X d 130 5 [Value.ref 0, dm, Value.int l2, dm] (q.1.toList ++ []) q.2) :=
  tq ((E_aload (v := Value.ref 0) rfl rfl f130_0)) (tq ((E_iload (x := l1) rfl f130_1)) ((tq ((E_callV pn_26 pc_26 rfl rfl (Nat.le_of_ble_eq_true rfl) f130_2)) (if_pos (zS0 hS)))))
theorem t130_5 {X : XX} {d : Nat} {sz sl : Nat} {sh : Nat → Nat × Nat} {R : Nat → Nat → Option Nat} {I : Nat → Nat → Int32} {J : Nat → Nat → Int64} (hS : SF sh R) {l2 : Int32} {s0 : Value} (k0 : isB s0 = true) : exe X d 130 5 [Value.ref 0, dm, Value.int l2, dm] [s0] (sz, sl, sh, R, I, J) =
    (nn (s0) (some (some (Value.int (-1)), (sz, sl, sh, R, I, J))) (((ev X d 10 [Value.int l2, Value.int (-1), Value.int ((I 21 3) - (1))] (sz, sl, sh, R, I, J)).bind fun q => exe X d 130 24 [Value.ref 0, dm, Value.int l2, s0] (q.1.toList ++ []) q.2))) :=
  tq ((E_astore k0 rfl f130_5)) (tq ((E_aload (v := s0) rfl (isBA k0) f130_6)) (tq ((E_ifnull f130_7)) (nn_c (tq ((E_iconst (x := (-1)) (by decide) f130_27)) ((E_iret pr_130 f130_28))) (tq ((E_iload (x := l2) rfl f130_10)) (tq ((E_iconst (x := (-1)) (by decide) f130_11)) (tq ((E_aload (v := Value.ref 0) rfl rfl f130_12)) (tq (tq ((G11 f130_13)) (if_pos (zS0 hS))) (tq (exe_R (zR0_11 hS)) (tq (tq ((G10003 f130_16)) (if_pos (zS21 hS))) (tq ((E_iconst (x := (1)) (by decide) f130_19)) (tq ((E_isub f130_20)) ((E_callS pn_10 rfl rfl (Nat.le_of_ble_eq_true rfl) (Nat.le_of_ble_eq_true rfl) f130_21)))))))))))))
theorem t130_24 {X : XX} {d : Nat} {sz sl : Nat} {sh : Nat → Nat × Nat} {R : Nat → Nat → Option Nat} {I : Nat → Nat → Int32} {J : Nat → Nat → Int64} (hS : SF sh R) {l2 : Int32} {l3 : Value} (h3 : isB l3 = true) {s0 : Int32} : exe X d 130 24 [Value.ref 0, dm, Value.int l2, l3] [Value.int s0] (sz, sl, sh, R, I, J) =
    (if ¬ s0 = 0 then (if 0 ≤ l2 then ((ev X d 121 [Value.ref 21, Value.int l2] (sz, sl, sh, R, I, J)).bind fun q => exe X d 130 49 [dm, dm, dm, dm] (q.1.toList ++ [l3]) q.2) else (rf (l3) fun p1 => if sh p1 = (14, 0) then ((ev X d 131 [Value.ref p1] (sz, sl, sh, R, I, J)).bind fun q => exe X d 130 37 [dm, dm, dm, dm] (q.1.toList ++ []) q.2) else none)) else some (some (Value.int (-1)), (sz, sl, sh, R, I, J))) :=
  tq ((E_if_ne f130_24)) (ite_c (tq ((E_iload (x := l2) rfl f130_29)) (tq ((E_if_ge f130_30)) (ite_c (tq ((E_aload (v := l3) rfl (isBA h3) f130_40)) (tq ((E_aload (v := Value.ref 0) rfl rfl f130_41)) (tq (tq ((G11 f130_42)) (if_pos (zS0 hS))) (tq (exe_R (zR0_11 hS)) (tq ((E_iload (x := l2) rfl f130_45)) ((tq ((E_callV pn_121 pc_121 rfl rfl (by simp [cats, cat_i, cat_l, cat_r, catB h3]) f130_46)) (if_pos (zS21 hS))))))))) (tq ((E_aload (v := l3) rfl (isBA h3) f130_33)) ((E_callV pn_131 pc_131 rfl rfl (Nat.le_of_ble_eq_true rfl) f130_34)))))) (tq ((E_iconst (x := (-1)) (by decide) f130_27)) ((E_iret pr_130 f130_28))))
theorem t130_37 {X : XX} {d : Nat} {sz sl : Nat} {sh : Nat → Nat × Nat} {R : Nat → Nat → Option Nat} {I : Nat → Nat → Int32} {J : Nat → Nat → Int64}  : exe X d 130 37 [dm, dm, dm, dm] [] (sz, sl, sh, R, I, J) =
    exe X d 130 52 [dm, dm, dm, dm] [] (sz, sl, sh, R, I, J) :=
  (E_goto f130_37)
theorem t130_49 {X : XX} {d : Nat} {sz sl : Nat} {sh : Nat → Nat × Nat} {R : Nat → Nat → Option Nat} {I : Nat → Nat → Int32} {J : Nat → Nat → Int64} {s0 : Int32} {s1 : Value} (k1 : isB s1 = true) : exe X d 130 49 [dm, dm, dm, dm] [Value.int s0, s1] (sz, sl, sh, R, I, J) =
    (rf (s1) fun p1 => if sh p1 = (14, 0) then ((ev X d 132 [Value.ref p1, Value.int s0] (sz, sl, sh, R, I, J)).bind fun q => exe X d 130 52 [dm, dm, dm, dm] (q.1.toList ++ []) q.2) else none) :=
  (E_callV pn_132 pc_132 rfl rfl (Nat.le_of_ble_eq_true rfl) f130_49)
theorem t130_52 {X : XX} {d : Nat} {sz sl : Nat} {sh : Nat → Nat × Nat} {R : Nat → Nat → Option Nat} {I : Nat → Nat → Int32} {J : Nat → Nat → Int64}  : exe X d 130 52 [dm, dm, dm, dm] [] (sz, sl, sh, R, I, J) =
    some (some (Value.int (1)), (sz, sl, sh, R, I, J)) :=
  tq ((E_iconst (x := (1)) (by decide) f130_52)) ((E_iret pr_130 f130_53))
theorem n130 {X : XX} {d : Nat} {h : HP} {a0 : Int32} {a1 : Int32} : ev X (d + 1) 130 [Value.ref 0, Value.int a0, Value.int a1] h = exe X d 130 0 [Value.ref 0, Value.int a0, Value.int a1, dm] [] h := ev_exe (Nat.le_of_ble_eq_true rfl)
theorem f131_0 : fr 131 0 = some (.aload 0, 1, [0], []) := by decide +kernel
theorem f131_1 : fr 131 1 = some (.iconst 0, 1, [], []) := by decide +kernel
theorem f131_2 : fr 131 2 = some (.putfield 7001, 3, [], []) := by decide +kernel
theorem f131_5 : fr 131 5 = some (.return_, 1, [], []) := by decide +kernel
theorem t131_0 {X : XX} {d : Nat} {sz sl : Nat} {sh : Nat → Nat × Nat} {R : Nat → Nat → Option Nat} {I : Nat → Nat → Int32} {J : Nat → Nat → Int64} {l0 : Nat} (h0 : sh l0 = (14, 0)) : exe X d 131 0 [Value.ref l0] [] (sz, sl, sh, R, I, J) =
    some (none, (sz, sl, sh, R, (u2 I l0 1 (0)), J)) :=
  tq ((E_aload (v := Value.ref l0) rfl rfl f131_0)) (tq ((E_iconst (x := (0)) (by decide) f131_1)) (tq (tq ((P7001 f131_2)) (if_pos h0)) ((E_vret pr_131 f131_5))))
theorem n131 {X : XX} {d : Nat} {h : HP} {l0 : Nat} : ev X (d + 1) 131 [Value.ref l0] h = exe X d 131 0 [Value.ref l0] [] h := ev_exe (Nat.le_of_ble_eq_true rfl)
theorem f132_0 : fr 132 0 = some (.aload 0, 1, [], []) := by decide +kernel
theorem f132_1 : fr 132 1 = some (.iconst 1, 1, [], []) := by decide +kernel
theorem f132_2 : fr 132 2 = some (.putfield 7001, 3, [], []) := by decide +kernel
theorem f132_5 : fr 132 5 = some (.aload 0, 1, [0], []) := by decide +kernel
theorem f132_6 : fr 132 6 = some (.iload 1, 1, [1], []) := by decide +kernel
theorem f132_7 : fr 132 7 = some (.putfield 7003, 3, [], []) := by decide +kernel
theorem f132_10 : fr 132 10 = some (.return_, 1, [], []) := by decide +kernel
theorem t132_0 {X : XX} {d : Nat} {sz sl : Nat} {sh : Nat → Nat × Nat} {R : Nat → Nat → Option Nat} {I : Nat → Nat → Int32} {J : Nat → Nat → Int64} {l0 : Nat} (h0 : sh l0 = (14, 0)) {l1 : Int32} : exe X d 132 0 [Value.ref l0, Value.int l1] [] (sz, sl, sh, R, I, J) =
    some (none, (sz, sl, sh, R, (u2 (u2 I l0 1 (1)) l0 3 l1), J)) :=
  tq ((E_aload (v := Value.ref l0) rfl rfl f132_0)) (tq ((E_iconst (x := (1)) (by decide) f132_1)) (tq (tq ((P7001 f132_2)) (if_pos h0)) (tq ((E_aload (v := Value.ref l0) rfl rfl f132_5)) (tq ((E_iload (x := l1) rfl f132_6)) (tq (tq ((P7003 f132_7)) (if_pos h0)) ((E_vret pr_132 f132_10)))))))
theorem n132 {X : XX} {d : Nat} {h : HP} {l0 : Nat} {a0 : Int32} : ev X (d + 1) 132 [Value.ref l0, Value.int a0] h = exe X d 132 0 [Value.ref l0, Value.int a0] [] h := ev_exe (Nat.le_of_ble_eq_true rfl)
theorem f133_0 : fr 133 0 = some (.aload 0, 1, [0], []) := by decide +kernel
theorem f133_1 : fr 133 1 = some (.iload 1, 1, [1], []) := by decide +kernel
theorem f133_2 : fr 133 2 = some (.invokevirtual 26, 3, [], []) := by decide +kernel
theorem f133_5 : fr 133 5 = some (.astore 4, 2, [], []) := by decide +kernel
theorem f133_7 : fr 133 7 = some (.aload 4, 2, [], []) := by decide +kernel
theorem f133_9 : fr 133 9 = some (.ifnull 25, 3, [], [2, 3, 4]) := by decide +kernel
theorem f133_12 : fr 133 12 = some (.iload 2, 1, [], []) := by decide +kernel
theorem f133_13 : fr 133 13 = some (.invokestatic 134, 3, [], []) := by decide +kernel
theorem f133_16 : fr 133 16 = some (.ifCond .eq 25, 3, [], [2, 3, 4]) := by decide +kernel
theorem f133_19 : fr 133 19 = some (.iload 3, 1, [], []) := by decide +kernel
theorem f133_20 : fr 133 20 = some (.iconst 60, 2, [], []) := by decide +kernel
theorem f133_22 : fr 133 22 = some (.if_icmp .le 27, 3, [2, 3, 4], []) := by decide +kernel
theorem f133_25 : fr 133 25 = some (.iconst (-1), 1, [], []) := by decide +kernel
theorem f133_26 : fr 133 26 = some (.ireturn, 1, [], []) := by decide +kernel
theorem f133_27 : fr 133 27 = some (.iload 3, 1, [], []) := by decide +kernel
theorem f133_28 : fr 133 28 = some (.ifCond .ge 34, 3, [2, 3, 4], []) := by decide +kernel
theorem f133_31 : fr 133 31 = some (.iconst (-14), 2, [], []) := by decide +kernel
theorem f133_33 : fr 133 33 = some (.ireturn, 1, [], []) := by decide +kernel
theorem f133_34 : fr 133 34 = some (.aload 4, 2, [4], []) := by decide +kernel
theorem f133_36 : fr 133 36 = some (.iload 2, 1, [2], []) := by decide +kernel
theorem f133_37 : fr 133 37 = some (.iload 3, 1, [3], []) := by decide +kernel
theorem f133_38 : fr 133 38 = some (.invokevirtual 135, 3, [], []) := by decide +kernel
theorem f133_41 : fr 133 41 = some (.iconst 1, 1, [], []) := by decide +kernel
theorem f133_42 : fr 133 42 = some (.ireturn, 1, [], []) := by decide +kernel
theorem t133_0 {X : XX} {d : Nat} {sz sl : Nat} {sh : Nat → Nat × Nat} {R : Nat → Nat → Option Nat} {I : Nat → Nat → Int32} {J : Nat → Nat → Int64} (hS : SF sh R) {l1 : Int32} {l2 : Int32} {l3 : Int32} : exe X d 133 0 [Value.ref 0, Value.int l1, Value.int l2, Value.int l3, dm] [] (sz, sl, sh, R, I, J) =
    ((ev X d 26 [Value.ref 0, Value.int l1] (sz, sl, sh, R, I, J)).bind fun q => exe X d 133 5 [dm, dm, Value.int l2, Value.int l3, dm] (q.1.toList ++ []) q.2) :=
  tq ((E_aload (v := Value.ref 0) rfl rfl f133_0)) (tq ((E_iload (x := l1) rfl f133_1)) ((tq ((E_callV pn_26 pc_26 rfl rfl (Nat.le_of_ble_eq_true rfl) f133_2)) (if_pos (zS0 hS)))))
theorem t133_5 {X : XX} {d : Nat} {sz sl : Nat} {sh : Nat → Nat × Nat} {R : Nat → Nat → Option Nat} {I : Nat → Nat → Int32} {J : Nat → Nat → Int64} {l2 : Int32} {l3 : Int32} {s0 : Value} (k0 : isB s0 = true) : exe X d 133 5 [dm, dm, Value.int l2, Value.int l3, dm] [s0] (sz, sl, sh, R, I, J) =
    (nn (s0) (some (some (Value.int (-1)), (sz, sl, sh, R, I, J))) (((ev X d 134 [Value.int l2] (sz, sl, sh, R, I, J)).bind fun q => exe X d 133 16 [dm, dm, Value.int l2, Value.int l3, s0] (q.1.toList ++ []) q.2))) :=
  tq ((E_astore k0 rfl f133_5)) (tq ((E_aload (v := s0) rfl (isBA k0) f133_7)) (tq ((E_ifnull f133_9)) (nn_c (tq ((E_iconst (x := (-1)) (by decide) f133_25)) ((E_iret pr_133 f133_26))) (tq ((E_iload (x := l2) rfl f133_12)) ((E_callS pn_134 rfl rfl (Nat.le_of_ble_eq_true rfl) (Nat.le_of_ble_eq_true rfl) f133_13))))))
theorem t133_16 {X : XX} {d : Nat} {sz sl : Nat} {sh : Nat → Nat × Nat} {R : Nat → Nat → Option Nat} {I : Nat → Nat → Int32} {J : Nat → Nat → Int64} {l2 : Int32} {l3 : Int32} {l4 : Value} (h4 : isB l4 = true) {s0 : Int32} : exe X d 133 16 [dm, dm, Value.int l2, Value.int l3, l4] [Value.int s0] (sz, sl, sh, R, I, J) =
    (if s0 = 0 then some (some (Value.int (-1)), (sz, sl, sh, R, I, J)) else (if l3 ≤ (60) then (if 0 ≤ l3 then (rf (l4) fun p1 => if sh p1 = (14, 0) then ((ev X d 135 [Value.ref p1, Value.int l2, Value.int l3] (sz, sl, sh, R, I, J)).bind fun q => exe X d 133 41 [dm, dm, dm, dm, dm] (q.1.toList ++ []) q.2) else none) else some (some (Value.int (-14)), (sz, sl, sh, R, I, J))) else some (some (Value.int (-1)), (sz, sl, sh, R, I, J)))) :=
  tq ((E_if_eq f133_16)) (ite_c (tq ((E_iconst (x := (-1)) (by decide) f133_25)) ((E_iret pr_133 f133_26))) (tq ((E_iload (x := l3) rfl f133_19)) (tq ((E_iconst (x := (60)) (by decide) f133_20)) (tq ((E_ic_le f133_22)) (ite_c (tq ((E_iload (x := l3) rfl f133_27)) (tq ((E_if_ge f133_28)) (ite_c (tq ((E_aload (v := l4) rfl (isBA h4) f133_34)) (tq ((E_iload (x := l2) rfl f133_36)) (tq ((E_iload (x := l3) rfl f133_37)) ((E_callV pn_135 pc_135 rfl rfl (Nat.le_of_ble_eq_true rfl) f133_38))))) (tq ((E_iconst (x := (-14)) (by decide) f133_31)) ((E_iret pr_133 f133_33)))))) (tq ((E_iconst (x := (-1)) (by decide) f133_25)) ((E_iret pr_133 f133_26))))))))
theorem t133_41 {X : XX} {d : Nat} {sz sl : Nat} {sh : Nat → Nat × Nat} {R : Nat → Nat → Option Nat} {I : Nat → Nat → Int32} {J : Nat → Nat → Int64}  : exe X d 133 41 [dm, dm, dm, dm, dm] [] (sz, sl, sh, R, I, J) =
    some (some (Value.int (1)), (sz, sl, sh, R, I, J)) :=
  tq ((E_iconst (x := (1)) (by decide) f133_41)) ((E_iret pr_133 f133_42))
theorem n133 {X : XX} {d : Nat} {h : HP} {a0 : Int32} {a1 : Int32} {a2 : Int32} : ev X (d + 1) 133 [Value.ref 0, Value.int a0, Value.int a1, Value.int a2] h = exe X d 133 0 [Value.ref 0, Value.int a0, Value.int a1, Value.int a2, dm] [] h := ev_exe (Nat.le_of_ble_eq_true rfl)
theorem f134_0 : fr 134 0 = some (.iload 0, 1, [], []) := by decide +kernel
theorem f134_1 : fr 134 1 = some (.ifCond .lt 13, 3, [], [0]) := by decide +kernel
theorem f134_4 : fr 134 4 = some (.iload 0, 1, [0], []) := by decide +kernel
theorem f134_5 : fr 134 5 = some (.iconst 4, 1, [], []) := by decide +kernel
theorem f134_6 : fr 134 6 = some (.if_icmp .gt 13, 3, [], []) := by decide +kernel
theorem f134_9 : fr 134 9 = some (.iconst 1, 1, [], []) := by decide +kernel
theorem f134_10 : fr 134 10 = some (.goto 14, 3, [], []) := by decide +kernel
theorem f134_13 : fr 134 13 = some (.iconst 0, 1, [], []) := by decide +kernel
theorem f134_14 : fr 134 14 = some (.ireturn, 1, [], []) := by decide +kernel
theorem t134_0 {X : XX} {d : Nat} {sz sl : Nat} {sh : Nat → Nat × Nat} {R : Nat → Nat → Option Nat} {I : Nat → Nat → Int32} {J : Nat → Nat → Int64} {l0 : Int32} : exe X d 134 0 [Value.int l0] [] (sz, sl, sh, R, I, J) =
    (if l0 < 0 then some (some (Value.int (0)), (sz, sl, sh, R, I, J)) else (if (4) < l0 then some (some (Value.int (0)), (sz, sl, sh, R, I, J)) else some (some (Value.int (1)), (sz, sl, sh, R, I, J)))) :=
  tq ((E_iload (x := l0) rfl f134_0)) (tq ((E_if_lt f134_1)) (ite_c (tq ((E_iconst (x := (0)) (by decide) f134_13)) (tq (E_zret pr_134 f134_14) (if_pos (by decide)))) (tq ((E_iload (x := l0) rfl f134_4)) (tq ((E_iconst (x := (4)) (by decide) f134_5)) (tq ((E_ic_gt f134_6)) (ite_c (tq ((E_iconst (x := (0)) (by decide) f134_13)) (tq (E_zret pr_134 f134_14) (if_pos (by decide)))) (tq ((E_iconst (x := (1)) (by decide) f134_9)) (tq ((E_goto f134_10)) (tq (E_zret pr_134 f134_14) (if_pos (by decide)))))))))))
theorem n134 {X : XX} {d : Nat} {h : HP} {a0 : Int32} : ev X (d + 1) 134 [Value.int a0] h = exe X d 134 0 [Value.int a0] [] h := ev_exe (Nat.le_of_ble_eq_true rfl)
theorem f135_0 : fr 135 0 = some (.aload 0, 1, [], []) := by decide +kernel
theorem f135_1 : fr 135 1 = some (.iconst 2, 1, [], []) := by decide +kernel
theorem f135_2 : fr 135 2 = some (.putfield 7001, 3, [], []) := by decide +kernel
theorem f135_5 : fr 135 5 = some (.aload 0, 1, [], []) := by decide +kernel
theorem f135_6 : fr 135 6 = some (.iload 1, 1, [1], []) := by decide +kernel
theorem f135_7 : fr 135 7 = some (.putfield 7004, 3, [], []) := by decide +kernel
theorem f135_10 : fr 135 10 = some (.aload 0, 1, [], []) := by decide +kernel
theorem f135_11 : fr 135 11 = some (.iload 2, 1, [2], []) := by decide +kernel
theorem f135_12 : fr 135 12 = some (.putfield 7002, 3, [], []) := by decide +kernel
theorem f135_15 : fr 135 15 = some (.iconst 0, 1, [], []) := by decide +kernel
theorem f135_16 : fr 135 16 = some (.istore 3, 1, [], []) := by decide +kernel
theorem f135_17 : fr 135 17 = some (.iload 3, 1, [], []) := by decide +kernel
theorem f135_18 : fr 135 18 = some (.aload 0, 1, [], []) := by decide +kernel
theorem f135_19 : fr 135 19 = some (.getfield 7000, 3, [], []) := by decide +kernel
theorem f135_22 : fr 135 22 = some (.arraylength, 1, [], []) := by decide +kernel
theorem f135_23 : fr 135 23 = some (.if_icmp .ge 39, 3, [], [0, 3]) := by decide +kernel
theorem f135_26 : fr 135 26 = some (.aload 0, 1, [], []) := by decide +kernel
theorem f135_27 : fr 135 27 = some (.getfield 7000, 3, [], []) := by decide +kernel
theorem f135_30 : fr 135 30 = some (.iload 3, 1, [], []) := by decide +kernel
theorem f135_31 : fr 135 31 = some (.jsr_w 0, 1, [], []) := by decide +kernel
theorem f135_32 : fr 135 32 = some (.lastore, 1, [], []) := by decide +kernel
theorem f135_33 : fr 135 33 = some (.iinc 3 1, 3, [], []) := by decide +kernel
theorem f135_36 : fr 135 36 = some (.goto 17, 3, [], []) := by decide +kernel
theorem f135_39 : fr 135 39 = some (.return_, 1, [], []) := by decide +kernel
theorem t135_0 {X : XX} {d : Nat} {sz sl : Nat} {sh : Nat → Nat × Nat} {R : Nat → Nat → Option Nat} {I : Nat → Nat → Int32} {J : Nat → Nat → Int64} {l0 : Nat} (h0 : sh l0 = (14, 0)) {l1 : Int32} {l2 : Int32} : exe X d 135 0 [Value.ref l0, Value.int l1, Value.int l2, dm] [] (sz, sl, sh, R, I, J) =
    exe X d 135 17 [Value.ref l0, dm, dm, Value.int (0)] [] (sz, sl, sh, R, (u2 (u2 (u2 I l0 1 (2)) l0 4 l1) l0 2 l2), J) :=
  tq ((E_aload (v := Value.ref l0) rfl rfl f135_0)) (tq ((E_iconst (x := (2)) (by decide) f135_1)) (tq (tq ((P7001 f135_2)) (if_pos h0)) (tq ((E_aload (v := Value.ref l0) rfl rfl f135_5)) (tq ((E_iload (x := l1) rfl f135_6)) (tq (tq ((P7004 f135_7)) (if_pos h0)) (tq ((E_aload (v := Value.ref l0) rfl rfl f135_10)) (tq ((E_iload (x := l2) rfl f135_11)) (tq (tq ((P7002 f135_12)) (if_pos h0)) (tq ((E_iconst (x := (0)) (by decide) f135_15)) ((E_istore rfl f135_16)))))))))))
theorem t135_17 {X : XX} {d : Nat} {sz sl : Nat} {sh : Nat → Nat × Nat} {R : Nat → Nat → Option Nat} {I : Nat → Nat → Int32} {J : Nat → Nat → Int64} {l0 : Nat} (h0 : sh l0 = (14, 0)) {l3 : Int32} : exe X d 135 17 [Value.ref l0, dm, dm, Value.int l3] [] (sz, sl, sh, R, I, J) =
    (rf ((rfv (R l0 0))) fun p1 => (if (sh p1).1 < 7 then (if (Int32.ofNat (sh p1).2) ≤ l3 then some (none, (sz, sl, sh, R, I, J)) else (rf ((rfv (R l0 0))) fun p2 => (if (sh p2).1 = 1 ∧ inb l3 (sh p2).2 then exe X d 135 17 [Value.ref l0, dm, dm, Value.int (l3 + (1))] [] (sz, sl, sh, R, I, (u2 J p2 l3.toNatClampNeg (0))) else none))) else none)) :=
  tq ((E_iload (x := l3) rfl f135_17)) (tq ((E_aload (v := Value.ref l0) rfl rfl f135_18)) (tq (tq ((G7000 f135_19)) (if_pos h0)) (tq (E_lenB (isB_rfv _) f135_22) (rf_c fun p1 => ite_c (tq ((E_ic_ge f135_23)) (ite_c ((E_vret pr_135 f135_39)) (tq ((E_aload (v := Value.ref l0) rfl rfl f135_26)) (tq (tq ((G7000 f135_27)) (if_pos h0)) (tq ((E_iload (x := l3) rfl f135_30)) (tq ((E_lconst (x := (0)) (by decide) f135_31)) (tq ((E_last f135_32)) (rf_c fun p2 => ite_c (tq ((E_iinc (x := l3) (x' := (1)) rfl rfl (by decide) f135_33)) ((E_goto f135_36))) rfl)))))))) rfl))))
theorem n135 {X : XX} {d : Nat} {h : HP} {l0 : Nat} {a0 : Int32} {a1 : Int32} : ev X (d + 1) 135 [Value.ref l0, Value.int a0, Value.int a1] h = exe X d 135 0 [Value.ref l0, Value.int a0, Value.int a1, dm] [] h := ev_exe (Nat.le_of_ble_eq_true rfl)
theorem f136_0 : fr 136 0 = some (.aload 0, 1, [0], []) := by decide +kernel
theorem f136_1 : fr 136 1 = some (.iload 1, 1, [1], []) := by decide +kernel
theorem f136_2 : fr 136 2 = some (.invokevirtual 26, 3, [], []) := by decide +kernel
theorem f136_5 : fr 136 5 = some (.astore 5, 2, [], []) := by decide +kernel
theorem f136_7 : fr 136 7 = some (.aload 5, 2, [], []) := by decide +kernel
theorem f136_9 : fr 136 9 = some (.iload 2, 1, [], []) := by decide +kernel
theorem f136_10 : fr 136 10 = some (.invokestatic 137, 3, [], []) := by decide +kernel
theorem f136_13 : fr 136 13 = some (.istore 6, 2, [], []) := by decide +kernel
theorem f136_15 : fr 136 15 = some (.aload 5, 2, [], []) := by decide +kernel
theorem f136_17 : fr 136 17 = some (.ifnull 25, 3, [], [2, 3, 5]) := by decide +kernel
theorem f136_20 : fr 136 20 = some (.iload 6, 2, [], []) := by decide +kernel
theorem f136_22 : fr 136 22 = some (.ifCond .eq 28, 3, [2, 3, 5], [6]) := by decide +kernel
theorem f136_25 : fr 136 25 = some (.iload 6, 2, [6], []) := by decide +kernel
theorem f136_27 : fr 136 27 = some (.ireturn, 1, [], []) := by decide +kernel
theorem f136_28 : fr 136 28 = some (.aload 5, 2, [5], []) := by decide +kernel
theorem f136_30 : fr 136 30 = some (.iload 2, 1, [2], []) := by decide +kernel
theorem f136_31 : fr 136 31 = some (.lload 3, 1, [3], []) := by decide +kernel
theorem f136_32 : fr 136 32 = some (.invokevirtual 138, 3, [], []) := by decide +kernel
theorem f136_35 : fr 136 35 = some (.iconst 1, 1, [], []) := by decide +kernel
theorem f136_36 : fr 136 36 = some (.ireturn, 1, [], []) := by decide +kernel
theorem t136_0 {X : XX} {d : Nat} {sz sl : Nat} {sh : Nat → Nat × Nat} {R : Nat → Nat → Option Nat} {I : Nat → Nat → Int32} {J : Nat → Nat → Int64} (hS : SF sh R) {l1 : Int32} {l2 : Int32} {l3 : Int64} : exe X d 136 0 [Value.ref 0, Value.int l1, Value.int l2, Value.long l3, dm, dm, dm] [] (sz, sl, sh, R, I, J) =
    ((ev X d 26 [Value.ref 0, Value.int l1] (sz, sl, sh, R, I, J)).bind fun q => exe X d 136 5 [dm, dm, Value.int l2, Value.long l3, dm, dm, dm] (q.1.toList ++ []) q.2) :=
  tq ((E_aload (v := Value.ref 0) rfl rfl f136_0)) (tq ((E_iload (x := l1) rfl f136_1)) ((tq ((E_callV pn_26 pc_26 rfl rfl (Nat.le_of_ble_eq_true rfl) f136_2)) (if_pos (zS0 hS)))))
theorem t136_5 {X : XX} {d : Nat} {sz sl : Nat} {sh : Nat → Nat × Nat} {R : Nat → Nat → Option Nat} {I : Nat → Nat → Int32} {J : Nat → Nat → Int64} {l2 : Int32} {l3 : Int64} {s0 : Value} (k0 : isB s0 = true) : exe X d 136 5 [dm, dm, Value.int l2, Value.long l3, dm, dm, dm] [s0] (sz, sl, sh, R, I, J) =
    ((ev X d 137 [s0, Value.int l2] (sz, sl, sh, R, I, J)).bind fun q => exe X d 136 13 [dm, dm, Value.int l2, Value.long l3, dm, s0, dm] (q.1.toList ++ []) q.2) :=
  tq ((E_astore k0 rfl f136_5)) (tq ((E_aload (v := s0) rfl (isBA k0) f136_7)) (tq ((E_iload (x := l2) rfl f136_9)) ((E_callS pn_137 rfl rfl (Nat.le_of_ble_eq_true rfl) (Nat.le_of_ble_eq_true rfl) f136_10))))
theorem t136_13 {X : XX} {d : Nat} {sz sl : Nat} {sh : Nat → Nat × Nat} {R : Nat → Nat → Option Nat} {I : Nat → Nat → Int32} {J : Nat → Nat → Int64} {l2 : Int32} {l3 : Int64} {l5 : Value} (h5 : isB l5 = true) {s0 : Int32} : exe X d 136 13 [dm, dm, Value.int l2, Value.long l3, dm, l5, dm] [Value.int s0] (sz, sl, sh, R, I, J) =
    (nn (l5) (some (some (Value.int s0), (sz, sl, sh, R, I, J))) ((if s0 = 0 then (rf (l5) fun p1 => if sh p1 = (14, 0) then ((ev X d 138 [Value.ref p1, Value.int l2, Value.long l3] (sz, sl, sh, R, I, J)).bind fun q => exe X d 136 35 [dm, dm, dm, dm, dm, dm, dm] (q.1.toList ++ []) q.2) else none) else some (some (Value.int s0), (sz, sl, sh, R, I, J))))) :=
  tq ((E_istore (okS_A (Nat.lt_of_sub_eq_succ rfl) rfl h5) f136_13)) (tq ((E_aload (v := l5) rfl (isBA h5) f136_15)) (tq ((E_ifnull f136_17)) (nn_c (tq ((E_iload (x := s0) rfl f136_25)) ((E_iret pr_136 f136_27))) (tq ((E_iload (x := s0) rfl f136_20)) (tq ((E_if_eq f136_22)) (ite_c (tq ((E_aload (v := l5) rfl (isBA h5) f136_28)) (tq ((E_iload (x := l2) rfl f136_30)) (tq ((E_lload (x := l3) rfl f136_31)) ((E_callV pn_138 pc_138 rfl rfl (Nat.le_of_ble_eq_true rfl) f136_32))))) (tq ((E_iload (x := s0) rfl f136_25)) ((E_iret pr_136 f136_27)))))))))
theorem t136_35 {X : XX} {d : Nat} {sz sl : Nat} {sh : Nat → Nat × Nat} {R : Nat → Nat → Option Nat} {I : Nat → Nat → Int32} {J : Nat → Nat → Int64}  : exe X d 136 35 [dm, dm, dm, dm, dm, dm, dm] [] (sz, sl, sh, R, I, J) =
    some (some (Value.int (1)), (sz, sl, sh, R, I, J)) :=
  tq ((E_iconst (x := (1)) (by decide) f136_35)) ((E_iret pr_136 f136_36))
theorem n136 {X : XX} {d : Nat} {h : HP} {a0 : Int32} {a1 : Int32} {a2 : Int64} : ev X (d + 1) 136 [Value.ref 0, Value.int a0, Value.int a1, Value.long a2] h = exe X d 136 0 [Value.ref 0, Value.int a0, Value.int a1, Value.long a2, dm, dm, dm] [] h := ev_exe (Nat.le_of_ble_eq_true rfl)
theorem f137_0 : fr 137 0 = some (.aload 0, 1, [], []) := by decide +kernel
theorem f137_1 : fr 137 1 = some (.ifnonnull 6, 3, [0, 1], []) := by decide +kernel
theorem f137_4 : fr 137 4 = some (.iconst (-1), 1, [], []) := by decide +kernel
theorem f137_5 : fr 137 5 = some (.ireturn, 1, [], []) := by decide +kernel
theorem f137_6 : fr 137 6 = some (.aload 0, 1, [], []) := by decide +kernel
theorem f137_7 : fr 137 7 = some (.invokevirtual 27, 3, [], []) := by decide +kernel
theorem f137_10 : fr 137 10 = some (.ifCond .eq 16, 3, [0, 1], []) := by decide +kernel
theorem f137_13 : fr 137 13 = some (.iconst (-11), 2, [], []) := by decide +kernel
theorem f137_15 : fr 137 15 = some (.ireturn, 1, [], []) := by decide +kernel
theorem f137_16 : fr 137 16 = some (.aload 0, 1, [], []) := by decide +kernel
theorem f137_17 : fr 137 17 = some (.invokevirtual 29, 3, [], []) := by decide +kernel
theorem f137_20 : fr 137 20 = some (.ifCond .ne 26, 3, [0, 1], []) := by decide +kernel
theorem f137_23 : fr 137 23 = some (.iconst (-12), 2, [], []) := by decide +kernel
theorem f137_25 : fr 137 25 = some (.ireturn, 1, [], []) := by decide +kernel
theorem f137_26 : fr 137 26 = some (.aload 0, 1, [0], []) := by decide +kernel
theorem f137_27 : fr 137 27 = some (.iload 1, 1, [1], []) := by decide +kernel
theorem f137_28 : fr 137 28 = some (.invokevirtual 30, 3, [], []) := by decide +kernel
theorem f137_31 : fr 137 31 = some (.ifCond .eq 38, 3, [], []) := by decide +kernel
theorem f137_34 : fr 137 34 = some (.iconst 0, 1, [], []) := by decide +kernel
theorem f137_35 : fr 137 35 = some (.goto 40, 3, [], []) := by decide +kernel
theorem f137_38 : fr 137 38 = some (.iconst (-13), 2, [], []) := by decide +kernel
theorem f137_40 : fr 137 40 = some (.ireturn, 1, [], []) := by decide +kernel
theorem t137_0 {X : XX} {d : Nat} {sz sl : Nat} {sh : Nat → Nat × Nat} {R : Nat → Nat → Option Nat} {I : Nat → Nat → Int32} {J : Nat → Nat → Int64} {l0 : Value} (h0 : isB l0 = true) {l1 : Int32} : exe X d 137 0 [l0, Value.int l1] [] (sz, sl, sh, R, I, J) =
    (nn (l0) (some (some (Value.int (-1)), (sz, sl, sh, R, I, J))) ((rf (l0) fun p1 => if sh p1 = (14, 0) then ((ev X d 27 [Value.ref p1] (sz, sl, sh, R, I, J)).bind fun q => exe X d 137 10 [l0, Value.int l1] (q.1.toList ++ []) q.2) else none))) :=
  tq ((E_aload (v := l0) rfl (isBA h0) f137_0)) (tq ((E_ifnonnull f137_1)) (nn_c (tq ((E_iconst (x := (-1)) (by decide) f137_4)) ((E_iret pr_137 f137_5))) (tq ((E_aload (v := l0) rfl (isBA h0) f137_6)) ((E_callV pn_27 pc_27 rfl rfl (Nat.le_of_ble_eq_true rfl) f137_7)))))
theorem t137_10 {X : XX} {d : Nat} {sz sl : Nat} {sh : Nat → Nat × Nat} {R : Nat → Nat → Option Nat} {I : Nat → Nat → Int32} {J : Nat → Nat → Int64} {l0 : Value} (h0 : isB l0 = true) {l1 : Int32} {s0 : Int32} : exe X d 137 10 [l0, Value.int l1] [Value.int s0] (sz, sl, sh, R, I, J) =
    (if s0 = 0 then (rf (l0) fun p1 => if sh p1 = (14, 0) then ((ev X d 29 [Value.ref p1] (sz, sl, sh, R, I, J)).bind fun q => exe X d 137 20 [l0, Value.int l1] (q.1.toList ++ []) q.2) else none) else some (some (Value.int (-11)), (sz, sl, sh, R, I, J))) :=
  tq ((E_if_eq f137_10)) (ite_c (tq ((E_aload (v := l0) rfl (isBA h0) f137_16)) ((E_callV pn_29 pc_29 rfl rfl (Nat.le_of_ble_eq_true rfl) f137_17))) (tq ((E_iconst (x := (-11)) (by decide) f137_13)) ((E_iret pr_137 f137_15))))
theorem t137_20 {X : XX} {d : Nat} {sz sl : Nat} {sh : Nat → Nat × Nat} {R : Nat → Nat → Option Nat} {I : Nat → Nat → Int32} {J : Nat → Nat → Int64} {l0 : Value} (h0 : isB l0 = true) {l1 : Int32} {s0 : Int32} : exe X d 137 20 [l0, Value.int l1] [Value.int s0] (sz, sl, sh, R, I, J) =
    (if ¬ s0 = 0 then (rf (l0) fun p1 => if sh p1 = (14, 0) then ((ev X d 30 [Value.ref p1, Value.int l1] (sz, sl, sh, R, I, J)).bind fun q => exe X d 137 31 [dm, dm] (q.1.toList ++ []) q.2) else none) else some (some (Value.int (-12)), (sz, sl, sh, R, I, J))) :=
  tq ((E_if_ne f137_20)) (ite_c (tq ((E_aload (v := l0) rfl (isBA h0) f137_26)) (tq ((E_iload (x := l1) rfl f137_27)) ((E_callV pn_30 pc_30 rfl rfl (Nat.le_of_ble_eq_true rfl) f137_28)))) (tq ((E_iconst (x := (-12)) (by decide) f137_23)) ((E_iret pr_137 f137_25))))
theorem t137_31 {X : XX} {d : Nat} {sz sl : Nat} {sh : Nat → Nat × Nat} {R : Nat → Nat → Option Nat} {I : Nat → Nat → Int32} {J : Nat → Nat → Int64} {s0 : Int32} : exe X d 137 31 [dm, dm] [Value.int s0] (sz, sl, sh, R, I, J) =
    (if s0 = 0 then some (some (Value.int (-13)), (sz, sl, sh, R, I, J)) else some (some (Value.int (0)), (sz, sl, sh, R, I, J))) :=
  tq ((E_if_eq f137_31)) (ite_c (tq ((E_iconst (x := (-13)) (by decide) f137_38)) ((E_iret pr_137 f137_40))) (tq ((E_iconst (x := (0)) (by decide) f137_34)) (tq ((E_goto f137_35)) ((E_iret pr_137 f137_40)))))
theorem n137 {X : XX} {d : Nat} {h : HP} {a0 : Value} (hA0 : isB a0 = true) {a1 : Int32} : ev X (d + 1) 137 [a0, Value.int a1] h = exe X d 137 0 [a0, Value.int a1] [] h := by
  cases a0 <;> first | (cases hA0; done) | (exact ev_exe (Nat.le_of_ble_eq_true rfl))
theorem f138_0 : fr 138 0 = some (.aload 0, 1, [], []) := by decide +kernel
theorem f138_1 : fr 138 1 = some (.iload 1, 1, [], []) := by decide +kernel
theorem f138_2 : fr 138 2 = some (.invokevirtual 30, 3, [], []) := by decide +kernel
theorem f138_5 : fr 138 5 = some (.ifCond .eq 19, 3, [], [0, 1, 2]) := by decide +kernel
theorem f138_8 : fr 138 8 = some (.aload 0, 1, [], []) := by decide +kernel
theorem f138_9 : fr 138 9 = some (.getfield 7000, 3, [], []) := by decide +kernel
theorem f138_12 : fr 138 12 = some (.iload 1, 1, [1], []) := by decide +kernel
theorem f138_13 : fr 138 13 = some (.aload 0, 1, [0], []) := by decide +kernel
theorem f138_14 : fr 138 14 = some (.lload 2, 1, [2], []) := by decide +kernel
theorem f138_15 : fr 138 15 = some (.invokevirtual 139, 3, [], []) := by decide +kernel
theorem f138_18 : fr 138 18 = some (.lastore, 1, [], []) := by decide +kernel
theorem f138_19 : fr 138 19 = some (.return_, 1, [], []) := by decide +kernel
theorem t138_0 {X : XX} {d : Nat} {sz sl : Nat} {sh : Nat → Nat × Nat} {R : Nat → Nat → Option Nat} {I : Nat → Nat → Int32} {J : Nat → Nat → Int64} {l0 : Nat} (h0 : sh l0 = (14, 0)) {l1 : Int32} {l2 : Int64} : exe X d 138 0 [Value.ref l0, Value.int l1, Value.long l2, dm] [] (sz, sl, sh, R, I, J) =
    ((ev X d 30 [Value.ref l0, Value.int l1] (sz, sl, sh, R, I, J)).bind fun q => exe X d 138 5 [Value.ref l0, Value.int l1, Value.long l2, dm] (q.1.toList ++ []) q.2) :=
  tq ((E_aload (v := Value.ref l0) rfl rfl f138_0)) (tq ((E_iload (x := l1) rfl f138_1)) ((tq ((E_callV pn_30 pc_30 rfl rfl (Nat.le_of_ble_eq_true rfl) f138_2)) (if_pos h0))))
theorem t138_5 {X : XX} {d : Nat} {sz sl : Nat} {sh : Nat → Nat × Nat} {R : Nat → Nat → Option Nat} {I : Nat → Nat → Int32} {J : Nat → Nat → Int64} {l0 : Nat} (h0 : sh l0 = (14, 0)) {l1 : Int32} {l2 : Int64} {s0 : Int32} : exe X d 138 5 [Value.ref l0, Value.int l1, Value.long l2, dm] [Value.int s0] (sz, sl, sh, R, I, J) =
    (if s0 = 0 then some (none, (sz, sl, sh, R, I, J)) else ((ev X d 139 [Value.ref l0, Value.long l2] (sz, sl, sh, R, I, J)).bind fun q => exe X d 138 18 [dm, dm, dm, dm] (q.1.toList ++ [Value.int l1, (rfv (R l0 0))]) q.2)) :=
  tq ((E_if_eq f138_5)) (ite_c ((E_vret pr_138 f138_19)) (tq ((E_aload (v := Value.ref l0) rfl rfl f138_8)) (tq (tq ((G7000 f138_9)) (if_pos h0)) (tq ((E_iload (x := l1) rfl f138_12)) (tq ((E_aload (v := Value.ref l0) rfl rfl f138_13)) (tq ((E_lload (x := l2) rfl f138_14)) ((tq ((E_callV pn_139 pc_139 rfl rfl (by simp [cats, cat_i, cat_l, cat_r, catB (isB_rfv _)]) f138_15)) (if_pos h0)))))))))
theorem t138_18 {X : XX} {d : Nat} {sz sl : Nat} {sh : Nat → Nat × Nat} {R : Nat → Nat → Option Nat} {I : Nat → Nat → Int32} {J : Nat → Nat → Int64} {s0 : Int64} {s1 : Int32} {s2 : Value} (k2 : isB s2 = true) : exe X d 138 18 [dm, dm, dm, dm] [Value.long s0, Value.int s1, s2] (sz, sl, sh, R, I, J) =
    (rf (s2) fun p1 => (if (sh p1).1 = 1 ∧ inb s1 (sh p1).2 then some (none, (sz, sl, sh, R, I, (u2 J p1 s1.toNatClampNeg s0))) else none)) :=
  tq ((E_last f138_18)) (rf_c fun p1 => ite_c ((E_vret pr_138 f138_19)) rfl)
theorem n138 {X : XX} {d : Nat} {h : HP} {l0 : Nat} {a0 : Int32} {a1 : Int64} : ev X (d + 1) 138 [Value.ref l0, Value.int a0, Value.long a1] h = exe X d 138 0 [Value.ref l0, Value.int a0, Value.long a1, dm] [] h := ev_exe (Nat.le_of_ble_eq_true rfl)
theorem f139_0 : fr 139 0 = some (.aload 0, 1, [0], []) := by decide +kernel
theorem f139_1 : fr 139 1 = some (.getfield 7004, 3, [], []) := by decide +kernel
theorem f139_4 : fr 139 4 = some (.lookupswitch 66 #[(0, 40), (1, 45), (2, 50), (3, 66), (4, 54)], 36, [], []) := by decide +kernel
theorem f139_40 : fr 139 40 = some (.lload 1, 1, [1], []) := by decide +kernel
theorem f139_41 : fr 139 41 = some (.l2i, 1, [], []) := by decide +kernel
theorem f139_42 : fr 139 42 = some (.i2b, 1, [], []) := by decide +kernel
theorem f139_43 : fr 139 43 = some (.i2l, 1, [], []) := by decide +kernel
theorem f139_44 : fr 139 44 = some (.lreturn, 1, [], []) := by decide +kernel
theorem f139_45 : fr 139 45 = some (.lload 1, 1, [1], []) := by decide +kernel
theorem f139_46 : fr 139 46 = some (.l2i, 1, [], []) := by decide +kernel
theorem f139_47 : fr 139 47 = some (.i2s, 1, [], []) := by decide +kernel
theorem f139_48 : fr 139 48 = some (.i2l, 1, [], []) := by decide +kernel
theorem f139_49 : fr 139 49 = some (.lreturn, 1, [], []) := by decide +kernel
theorem f139_50 : fr 139 50 = some (.lload 1, 1, [1], []) := by decide +kernel
theorem f139_51 : fr 139 51 = some (.l2i, 1, [], []) := by decide +kernel
theorem f139_52 : fr 139 52 = some (.i2l, 1, [], []) := by decide +kernel
theorem f139_53 : fr 139 53 = some (.lreturn, 1, [], []) := by decide +kernel
theorem f139_54 : fr 139 54 = some (.lload 1, 1, [1], []) := by decide +kernel
theorem f139_55 : fr 139 55 = some (.jsr_w 0, 1, [], []) := by decide +kernel
theorem f139_56 : fr 139 56 = some (.lcmp, 1, [], []) := by decide +kernel
theorem f139_57 : fr 139 57 = some (.ifCond .eq 64, 3, [], []) := by decide +kernel
theorem f139_60 : fr 139 60 = some (.jsr_w 1, 1, [], []) := by decide +kernel
theorem f139_61 : fr 139 61 = some (.goto 65, 3, [], []) := by decide +kernel
theorem f139_64 : fr 139 64 = some (.jsr_w 0, 1, [], []) := by decide +kernel
theorem f139_65 : fr 139 65 = some (.lreturn, 1, [], []) := by decide +kernel
theorem f139_66 : fr 139 66 = some (.lload 1, 1, [1], []) := by decide +kernel
theorem f139_67 : fr 139 67 = some (.lreturn, 1, [], []) := by decide +kernel
theorem t139_0 {X : XX} {d : Nat} {sz sl : Nat} {sh : Nat → Nat × Nat} {R : Nat → Nat → Option Nat} {I : Nat → Nat → Int32} {J : Nat → Nat → Int64} {l0 : Nat} (h0 : sh l0 = (14, 0)) {l1 : Int64} : exe X d 139 0 [Value.ref l0, Value.long l1, dm] [] (sz, sl, sh, R, I, J) =
    (if (I l0 4) = (0) then some (some (Value.long (Int32.toInt64 ((Int32.toInt8 (Int64.toInt32 l1)).toInt32))), (sz, sl, sh, R, I, J)) else (if (I l0 4) = (1) then some (some (Value.long (Int32.toInt64 ((Int32.toInt16 (Int64.toInt32 l1)).toInt32))), (sz, sl, sh, R, I, J)) else (if (I l0 4) = (2) then some (some (Value.long (Int32.toInt64 (Int64.toInt32 l1))), (sz, sl, sh, R, I, J)) else (if (I l0 4) = (3) then some (some (Value.long l1), (sz, sl, sh, R, I, J)) else (if (I l0 4) = (4) then (if (lg_cmp l1 (0)) = 0 then some (some (Value.long (0)), (sz, sl, sh, R, I, J)) else some (some (Value.long (1)), (sz, sl, sh, R, I, J))) else some (some (Value.long l1), (sz, sl, sh, R, I, J))))))) :=
  tq ((E_aload (v := Value.ref l0) rfl rfl f139_0)) (tq (tq ((G7004 f139_1)) (if_pos h0)) (tq ((E_sw f139_4)) (sw_c (by decide) (tq ((E_lload (x := l1) rfl f139_40)) (tq ((E_l2i f139_41)) (tq ((E_i2b f139_42)) (tq ((E_i2l f139_43)) ((E_lret pr_139 f139_44)))))) (sw_c (by decide) (tq ((E_lload (x := l1) rfl f139_45)) (tq ((E_l2i f139_46)) (tq ((E_i2s f139_47)) (tq ((E_i2l f139_48)) ((E_lret pr_139 f139_49)))))) (sw_c (by decide) (tq ((E_lload (x := l1) rfl f139_50)) (tq ((E_l2i f139_51)) (tq ((E_i2l f139_52)) ((E_lret pr_139 f139_53))))) (sw_c (by decide) (tq ((E_lload (x := l1) rfl f139_66)) ((E_lret pr_139 f139_67))) (sw_c (by decide) (tq ((E_lload (x := l1) rfl f139_54)) (tq ((E_lconst (x := (0)) (by decide) f139_55)) (tq ((E_lcmp f139_56)) (tq ((E_if_eq f139_57)) (ite_c (tq ((E_lconst (x := (0)) (by decide) f139_64)) ((E_lret pr_139 f139_65))) (tq ((E_lconst (x := (1)) (by decide) f139_60)) (tq ((E_goto f139_61)) ((E_lret pr_139 f139_65))))))))) (tq ((E_lload (x := l1) rfl f139_66)) ((E_lret pr_139 f139_67))))))))))
theorem n139 {X : XX} {d : Nat} {h : HP} {l0 : Nat} {a0 : Int64} : ev X (d + 1) 139 [Value.ref l0, Value.long a0] h = exe X d 139 0 [Value.ref l0, Value.long a0, dm] [] h := ev_exe (Nat.le_of_ble_eq_true rfl)
theorem f140_0 : fr 140 0 = some (.aload 0, 1, [0], []) := by decide +kernel
theorem f140_1 : fr 140 1 = some (.iload 1, 1, [1], []) := by decide +kernel
theorem f140_2 : fr 140 2 = some (.invokevirtual 26, 3, [], []) := by decide +kernel
theorem f140_5 : fr 140 5 = some (.astore 3, 1, [], []) := by decide +kernel
theorem f140_6 : fr 140 6 = some (.aload 3, 1, [], []) := by decide +kernel
theorem f140_7 : fr 140 7 = some (.ifnull 18, 3, [], [2, 3]) := by decide +kernel
theorem f140_10 : fr 140 10 = some (.aload 3, 1, [], []) := by decide +kernel
theorem f140_11 : fr 140 11 = some (.iload 2, 1, [], []) := by decide +kernel
theorem f140_12 : fr 140 12 = some (.invokestatic 137, 3, [], []) := by decide +kernel
theorem f140_15 : fr 140 15 = some (.ifCond .eq 22, 3, [2, 3], []) := by decide +kernel
theorem f140_18 : fr 140 18 = some (.jsr_w (-9223372036854775808), 3, [], []) := by decide +kernel
theorem f140_21 : fr 140 21 = some (.lreturn, 1, [], []) := by decide +kernel
theorem f140_22 : fr 140 22 = some (.aload 3, 1, [3], []) := by decide +kernel
theorem f140_23 : fr 140 23 = some (.iload 2, 1, [2], []) := by decide +kernel
theorem f140_24 : fr 140 24 = some (.invokevirtual 31, 3, [], []) := by decide +kernel
theorem f140_27 : fr 140 27 = some (.lreturn, 1, [], []) := by decide +kernel
theorem t140_0 {X : XX} {d : Nat} {sz sl : Nat} {sh : Nat → Nat × Nat} {R : Nat → Nat → Option Nat} {I : Nat → Nat → Int32} {J : Nat → Nat → Int64} (hS : SF sh R) {l1 : Int32} {l2 : Int32} : exe X d 140 0 [Value.ref 0, Value.int l1, Value.int l2, dm] [] (sz, sl, sh, R, I, J) =
    ((ev X d 26 [Value.ref 0, Value.int l1] (sz, sl, sh, R, I, J)).bind fun q => exe X d 140 5 [dm, dm, Value.int l2, dm] (q.1.toList ++ []) q.2) :=
  tq ((E_aload (v := Value.ref 0) rfl rfl f140_0)) (tq ((E_iload (x := l1) rfl f140_1)) ((tq ((E_callV pn_26 pc_26 rfl rfl (Nat.le_of_ble_eq_true rfl) f140_2)) (if_pos (zS0 hS)))))
theorem t140_5 {X : XX} {d : Nat} {sz sl : Nat} {sh : Nat → Nat × Nat} {R : Nat → Nat → Option Nat} {I : Nat → Nat → Int32} {J : Nat → Nat → Int64} {l2 : Int32} {s0 : Value} (k0 : isB s0 = true) : exe X d 140 5 [dm, dm, Value.int l2, dm] [s0] (sz, sl, sh, R, I, J) =
    (nn (s0) (some (some (Value.long (-9223372036854775808)), (sz, sl, sh, R, I, J))) (((ev X d 137 [s0, Value.int l2] (sz, sl, sh, R, I, J)).bind fun q => exe X d 140 15 [dm, dm, Value.int l2, s0] (q.1.toList ++ []) q.2))) :=
  tq ((E_astore k0 rfl f140_5)) (tq ((E_aload (v := s0) rfl (isBA k0) f140_6)) (tq ((E_ifnull f140_7)) (nn_c (tq ((E_lconst (x := (-9223372036854775808)) (by decide) f140_18)) ((E_lret pr_140 f140_21))) (tq ((E_aload (v := s0) rfl (isBA k0) f140_10)) (tq ((E_iload (x := l2) rfl f140_11)) ((E_callS pn_137 rfl rfl (Nat.le_of_ble_eq_true rfl) (Nat.le_of_ble_eq_true rfl) f140_12)))))))
theorem t140_15 {X : XX} {d : Nat} {sz sl : Nat} {sh : Nat → Nat × Nat} {R : Nat → Nat → Option Nat} {I : Nat → Nat → Int32} {J : Nat → Nat → Int64} {l2 : Int32} {l3 : Value} (h3 : isB l3 = true) {s0 : Int32} : exe X d 140 15 [dm, dm, Value.int l2, l3] [Value.int s0] (sz, sl, sh, R, I, J) =
    (if s0 = 0 then (rf (l3) fun p1 => if sh p1 = (14, 0) then ((ev X d 31 [Value.ref p1, Value.int l2] (sz, sl, sh, R, I, J)).bind fun q => exe X d 140 27 [dm, dm, dm, dm] (q.1.toList ++ []) q.2) else none) else some (some (Value.long (-9223372036854775808)), (sz, sl, sh, R, I, J))) :=
  tq ((E_if_eq f140_15)) (ite_c (tq ((E_aload (v := l3) rfl (isBA h3) f140_22)) (tq ((E_iload (x := l2) rfl f140_23)) ((E_callV pn_31 pc_31 rfl rfl (Nat.le_of_ble_eq_true rfl) f140_24)))) (tq ((E_lconst (x := (-9223372036854775808)) (by decide) f140_18)) ((E_lret pr_140 f140_21))))
theorem t140_27 {X : XX} {d : Nat} {sz sl : Nat} {sh : Nat → Nat × Nat} {R : Nat → Nat → Option Nat} {I : Nat → Nat → Int32} {J : Nat → Nat → Int64} {s0 : Int64} : exe X d 140 27 [dm, dm, dm, dm] [Value.long s0] (sz, sl, sh, R, I, J) =
    some (some (Value.long s0), (sz, sl, sh, R, I, J)) :=
  (E_lret pr_140 f140_27)
theorem n140 {X : XX} {d : Nat} {h : HP} {a0 : Int32} {a1 : Int32} : ev X (d + 1) 140 [Value.ref 0, Value.int a0, Value.int a1] h = exe X d 140 0 [Value.ref 0, Value.int a0, Value.int a1, dm] [] h := ev_exe (Nat.le_of_ble_eq_true rfl)
theorem f141_0 : fr 141 0 = some (.aload 0, 1, [], []) := by decide +kernel
theorem f141_1 : fr 141 1 = some (.iload 1, 1, [1], []) := by decide +kernel
theorem f141_2 : fr 141 2 = some (.invokevirtual 26, 3, [], []) := by decide +kernel
theorem f141_5 : fr 141 5 = some (.astore 6, 2, [], []) := by decide +kernel
theorem f141_7 : fr 141 7 = some (.aload 0, 1, [0], []) := by decide +kernel
theorem f141_8 : fr 141 8 = some (.iload 3, 1, [3], []) := by decide +kernel
theorem f141_9 : fr 141 9 = some (.invokevirtual 26, 3, [], []) := by decide +kernel
theorem f141_12 : fr 141 12 = some (.astore 7, 2, [], []) := by decide +kernel
theorem f141_14 : fr 141 14 = some (.aload 6, 2, [], []) := by decide +kernel
theorem f141_16 : fr 141 16 = some (.ifnull 24, 3, [], [2, 4, 5, 6, 7]) := by decide +kernel
theorem f141_19 : fr 141 19 = some (.aload 7, 2, [], []) := by decide +kernel
theorem f141_21 : fr 141 21 = some (.ifnonnull 26, 3, [2, 4, 5, 6, 7], []) := by decide +kernel
theorem f141_24 : fr 141 24 = some (.iconst (-1), 1, [], []) := by decide +kernel
theorem f141_25 : fr 141 25 = some (.ireturn, 1, [], []) := by decide +kernel
theorem f141_26 : fr 141 26 = some (.aload 6, 2, [], []) := by decide +kernel
theorem f141_28 : fr 141 28 = some (.invokevirtual 27, 3, [], []) := by decide +kernel
theorem f141_31 : fr 141 31 = some (.ifCond .ne 42, 3, [], [2, 4, 5, 6, 7]) := by decide +kernel
theorem f141_34 : fr 141 34 = some (.aload 7, 2, [], []) := by decide +kernel
theorem f141_36 : fr 141 36 = some (.invokevirtual 27, 3, [], []) := by decide +kernel
theorem f141_39 : fr 141 39 = some (.ifCond .eq 45, 3, [2, 4, 5, 6, 7], []) := by decide +kernel
theorem f141_42 : fr 141 42 = some (.iconst (-11), 2, [], []) := by decide +kernel
theorem f141_44 : fr 141 44 = some (.ireturn, 1, [], []) := by decide +kernel
theorem f141_45 : fr 141 45 = some (.aload 6, 2, [], []) := by decide +kernel
theorem f141_47 : fr 141 47 = some (.invokevirtual 29, 3, [], []) := by decide +kernel
theorem f141_50 : fr 141 50 = some (.ifCond .eq 74, 3, [], [2, 4, 5, 6, 7]) := by decide +kernel
theorem f141_53 : fr 141 53 = some (.aload 7, 2, [], []) := by decide +kernel
theorem f141_55 : fr 141 55 = some (.invokevirtual 29, 3, [], []) := by decide +kernel
theorem f141_58 : fr 141 58 = some (.ifCond .eq 74, 3, [], [2, 4, 5, 6, 7]) := by decide +kernel
theorem f141_61 : fr 141 61 = some (.aload 6, 2, [], []) := by decide +kernel
theorem f141_63 : fr 141 63 = some (.getfield 7004, 3, [], []) := by decide +kernel
theorem f141_66 : fr 141 66 = some (.aload 7, 2, [], []) := by decide +kernel
theorem f141_68 : fr 141 68 = some (.getfield 7004, 3, [], []) := by decide +kernel
theorem f141_71 : fr 141 71 = some (.if_icmp .eq 77, 3, [2, 4, 5, 6, 7], []) := by decide +kernel
theorem f141_74 : fr 141 74 = some (.iconst (-12), 2, [], []) := by decide +kernel
theorem f141_76 : fr 141 76 = some (.ireturn, 1, [], []) := by decide +kernel
theorem f141_77 : fr 141 77 = some (.aload 6, 2, [], []) := by decide +kernel
theorem f141_79 : fr 141 79 = some (.iload 2, 1, [], []) := by decide +kernel
theorem f141_80 : fr 141 80 = some (.iload 5, 2, [], []) := by decide +kernel
theorem f141_82 : fr 141 82 = some (.invokevirtual 142, 3, [], []) := by decide +kernel
theorem f141_85 : fr 141 85 = some (.ifCond .eq 100, 3, [], [2, 4, 5, 6, 7]) := by decide +kernel
theorem f141_88 : fr 141 88 = some (.aload 7, 2, [], []) := by decide +kernel
theorem f141_90 : fr 141 90 = some (.iload 4, 2, [], []) := by decide +kernel
theorem f141_92 : fr 141 92 = some (.iload 5, 2, [], []) := by decide +kernel
theorem f141_94 : fr 141 94 = some (.invokevirtual 142, 3, [], []) := by decide +kernel
theorem f141_97 : fr 141 97 = some (.ifCond .ne 103, 3, [2, 4, 5, 6, 7], []) := by decide +kernel
theorem f141_100 : fr 141 100 = some (.iconst (-13), 2, [], []) := by decide +kernel
theorem f141_102 : fr 141 102 = some (.ireturn, 1, [], []) := by decide +kernel
theorem f141_103 : fr 141 103 = some (.aload 6, 2, [6], []) := by decide +kernel
theorem f141_105 : fr 141 105 = some (.getfield 7000, 3, [], []) := by decide +kernel
theorem f141_108 : fr 141 108 = some (.iload 2, 1, [2], []) := by decide +kernel
theorem f141_109 : fr 141 109 = some (.aload 7, 2, [7], []) := by decide +kernel
theorem f141_111 : fr 141 111 = some (.getfield 7000, 3, [], []) := by decide +kernel
theorem f141_114 : fr 141 114 = some (.iload 4, 2, [4], []) := by decide +kernel
theorem f141_116 : fr 141 116 = some (.iload 5, 2, [], []) := by decide +kernel
theorem f141_118 : fr 141 118 = some (.monitorenter, 3, [], []) := by decide +kernel
theorem f141_121 : fr 141 121 = some (.iload 5, 2, [5], []) := by decide +kernel
theorem f141_123 : fr 141 123 = some (.ireturn, 1, [], []) := by decide +kernel
theorem t141_0 {X : XX} {d : Nat} {sz sl : Nat} {sh : Nat → Nat × Nat} {R : Nat → Nat → Option Nat} {I : Nat → Nat → Int32} {J : Nat → Nat → Int64} (hS : SF sh R) {l1 : Int32} {l2 : Int32} {l3 : Int32} {l4 : Int32} {l5 : Int32} : exe X d 141 0 [Value.ref 0, Value.int l1, Value.int l2, Value.int l3, Value.int l4, Value.int l5, dm, dm] [] (sz, sl, sh, R, I, J) =
    ((ev X d 26 [Value.ref 0, Value.int l1] (sz, sl, sh, R, I, J)).bind fun q => exe X d 141 5 [Value.ref 0, dm, Value.int l2, Value.int l3, Value.int l4, Value.int l5, dm, dm] (q.1.toList ++ []) q.2) :=
  tq ((E_aload (v := Value.ref 0) rfl rfl f141_0)) (tq ((E_iload (x := l1) rfl f141_1)) ((tq ((E_callV pn_26 pc_26 rfl rfl (Nat.le_of_ble_eq_true rfl) f141_2)) (if_pos (zS0 hS)))))
theorem t141_5 {X : XX} {d : Nat} {sz sl : Nat} {sh : Nat → Nat × Nat} {R : Nat → Nat → Option Nat} {I : Nat → Nat → Int32} {J : Nat → Nat → Int64} (hS : SF sh R) {l2 : Int32} {l3 : Int32} {l4 : Int32} {l5 : Int32} {s0 : Value} (k0 : isB s0 = true) : exe X d 141 5 [Value.ref 0, dm, Value.int l2, Value.int l3, Value.int l4, Value.int l5, dm, dm] [s0] (sz, sl, sh, R, I, J) =
    ((ev X d 26 [Value.ref 0, Value.int l3] (sz, sl, sh, R, I, J)).bind fun q => exe X d 141 12 [dm, dm, Value.int l2, dm, Value.int l4, Value.int l5, s0, dm] (q.1.toList ++ []) q.2) :=
  tq ((E_astore k0 rfl f141_5)) (tq ((E_aload (v := Value.ref 0) rfl rfl f141_7)) (tq ((E_iload (x := l3) rfl f141_8)) ((tq ((E_callV pn_26 pc_26 rfl rfl (Nat.le_of_ble_eq_true rfl) f141_9)) (if_pos (zS0 hS))))))
theorem t141_12 {X : XX} {d : Nat} {sz sl : Nat} {sh : Nat → Nat × Nat} {R : Nat → Nat → Option Nat} {I : Nat → Nat → Int32} {J : Nat → Nat → Int64} {l2 : Int32} {l4 : Int32} {l5 : Int32} {l6 : Value} (h6 : isB l6 = true) {s0 : Value} (k0 : isB s0 = true) : exe X d 141 12 [dm, dm, Value.int l2, dm, Value.int l4, Value.int l5, l6, dm] [s0] (sz, sl, sh, R, I, J) =
    (nn (l6) (some (some (Value.int (-1)), (sz, sl, sh, R, I, J))) ((nn (s0) (some (some (Value.int (-1)), (sz, sl, sh, R, I, J))) ((rf (l6) fun p1 => if sh p1 = (14, 0) then ((ev X d 27 [Value.ref p1] (sz, sl, sh, R, I, J)).bind fun q => exe X d 141 31 [dm, dm, Value.int l2, dm, Value.int l4, Value.int l5, l6, s0] (q.1.toList ++ []) q.2) else none))))) :=
  tq ((E_astore k0 (okS_A (Nat.lt_of_sub_eq_succ rfl) rfl h6) f141_12)) (tq ((E_aload (v := l6) rfl (isBA h6) f141_14)) (tq ((E_ifnull f141_16)) (nn_c (tq ((E_iconst (x := (-1)) (by decide) f141_24)) ((E_iret pr_141 f141_25))) (tq ((E_aload (v := s0) rfl (isBA k0) f141_19)) (tq ((E_ifnonnull f141_21)) (nn_c (tq ((E_iconst (x := (-1)) (by decide) f141_24)) ((E_iret pr_141 f141_25))) (tq ((E_aload (v := l6) rfl (isBA h6) f141_26)) ((E_callV pn_27 pc_27 rfl rfl (Nat.le_of_ble_eq_true rfl) f141_28)))))))))
theorem t141_31 {X : XX} {d : Nat} {sz sl : Nat} {sh : Nat → Nat × Nat} {R : Nat → Nat → Option Nat} {I : Nat → Nat → Int32} {J : Nat → Nat → Int64} {l2 : Int32} {l4 : Int32} {l5 : Int32} {l6 : Value} (h6 : isB l6 = true) {l7 : Value} (h7 : isB l7 = true) {s0 : Int32} : exe X d 141 31 [dm, dm, Value.int l2, dm, Value.int l4, Value.int l5, l6, l7] [Value.int s0] (sz, sl, sh, R, I, J) =
    (if ¬ s0 = 0 then some (some (Value.int (-11)), (sz, sl, sh, R, I, J)) else (rf (l7) fun p1 => if sh p1 = (14, 0) then ((ev X d 27 [Value.ref p1] (sz, sl, sh, R, I, J)).bind fun q => exe X d 141 39 [dm, dm, Value.int l2, dm, Value.int l4, Value.int l5, l6, l7] (q.1.toList ++ []) q.2) else none)) :=
  tq ((E_if_ne f141_31)) (ite_c (tq ((E_iconst (x := (-11)) (by decide) f141_42)) ((E_iret pr_141 f141_44))) (tq ((E_aload (v := l7) rfl (isBA h7) f141_34)) ((E_callV pn_27 pc_27 rfl rfl (Nat.le_of_ble_eq_true rfl) f141_36))))
theorem t141_39 {X : XX} {d : Nat} {sz sl : Nat} {sh : Nat → Nat × Nat} {R : Nat → Nat → Option Nat} {I : Nat → Nat → Int32} {J : Nat → Nat → Int64} {l2 : Int32} {l4 : Int32} {l5 : Int32} {l6 : Value} (h6 : isB l6 = true) {l7 : Value} (h7 : isB l7 = true) {s0 : Int32} : exe X d 141 39 [dm, dm, Value.int l2, dm, Value.int l4, Value.int l5, l6, l7] [Value.int s0] (sz, sl, sh, R, I, J) =
    (if s0 = 0 then (rf (l6) fun p1 => if sh p1 = (14, 0) then ((ev X d 29 [Value.ref p1] (sz, sl, sh, R, I, J)).bind fun q => exe X d 141 50 [dm, dm, Value.int l2, dm, Value.int l4, Value.int l5, l6, l7] (q.1.toList ++ []) q.2) else none) else some (some (Value.int (-11)), (sz, sl, sh, R, I, J))) :=
  tq ((E_if_eq f141_39)) (ite_c (tq ((E_aload (v := l6) rfl (isBA h6) f141_45)) ((E_callV pn_29 pc_29 rfl rfl (Nat.le_of_ble_eq_true rfl) f141_47))) (tq ((E_iconst (x := (-11)) (by decide) f141_42)) ((E_iret pr_141 f141_44))))
theorem t141_50 {X : XX} {d : Nat} {sz sl : Nat} {sh : Nat → Nat × Nat} {R : Nat → Nat → Option Nat} {I : Nat → Nat → Int32} {J : Nat → Nat → Int64} {l2 : Int32} {l4 : Int32} {l5 : Int32} {l6 : Value} (h6 : isB l6 = true) {l7 : Value} (h7 : isB l7 = true) {s0 : Int32} : exe X d 141 50 [dm, dm, Value.int l2, dm, Value.int l4, Value.int l5, l6, l7] [Value.int s0] (sz, sl, sh, R, I, J) =
    (if s0 = 0 then some (some (Value.int (-12)), (sz, sl, sh, R, I, J)) else (rf (l7) fun p1 => if sh p1 = (14, 0) then ((ev X d 29 [Value.ref p1] (sz, sl, sh, R, I, J)).bind fun q => exe X d 141 58 [dm, dm, Value.int l2, dm, Value.int l4, Value.int l5, l6, l7] (q.1.toList ++ []) q.2) else none)) :=
  tq ((E_if_eq f141_50)) (ite_c (tq ((E_iconst (x := (-12)) (by decide) f141_74)) ((E_iret pr_141 f141_76))) (tq ((E_aload (v := l7) rfl (isBA h7) f141_53)) ((E_callV pn_29 pc_29 rfl rfl (Nat.le_of_ble_eq_true rfl) f141_55))))
theorem t141_58 {X : XX} {d : Nat} {sz sl : Nat} {sh : Nat → Nat × Nat} {R : Nat → Nat → Option Nat} {I : Nat → Nat → Int32} {J : Nat → Nat → Int64} {l2 : Int32} {l4 : Int32} {l5 : Int32} {l6 : Value} (h6 : isB l6 = true) {l7 : Value} (h7 : isB l7 = true) {s0 : Int32} : exe X d 141 58 [dm, dm, Value.int l2, dm, Value.int l4, Value.int l5, l6, l7] [Value.int s0] (sz, sl, sh, R, I, J) =
    (if s0 = 0 then some (some (Value.int (-12)), (sz, sl, sh, R, I, J)) else (rf (l6) fun p1 => if sh p1 = (14, 0) then (rf (l7) fun p2 => if sh p2 = (14, 0) then (if (I p1 4) = (I p2 4) then (rf (l6) fun p3 => if sh p3 = (14, 0) then ((ev X d 142 [Value.ref p3, Value.int l2, Value.int l5] (sz, sl, sh, R, I, J)).bind fun q => exe X d 141 85 [dm, dm, Value.int l2, dm, Value.int l4, Value.int l5, l6, l7] (q.1.toList ++ []) q.2) else none) else some (some (Value.int (-12)), (sz, sl, sh, R, I, J))) else none) else none)) :=
  tq ((E_if_eq f141_58)) (ite_c (tq ((E_iconst (x := (-12)) (by decide) f141_74)) ((E_iret pr_141 f141_76))) (tq ((E_aload (v := l6) rfl (isBA h6) f141_61)) (tq ((G7004 f141_63)) (rf_c fun p1 => ite_c (tq ((E_aload (v := l7) rfl (isBA h7) f141_66)) (tq ((G7004 f141_68)) (rf_c fun p2 => ite_c (tq ((E_ic_eq f141_71)) (ite_c (tq ((E_aload (v := l6) rfl (isBA h6) f141_77)) (tq ((E_iload (x := l2) rfl f141_79)) (tq ((E_iload (x := l5) rfl f141_80)) ((E_callV pn_142 pc_142 rfl rfl (Nat.le_of_ble_eq_true rfl) f141_82))))) (tq ((E_iconst (x := (-12)) (by decide) f141_74)) ((E_iret pr_141 f141_76))))) rfl))) rfl))))
theorem t141_85 {X : XX} {d : Nat} {sz sl : Nat} {sh : Nat → Nat × Nat} {R : Nat → Nat → Option Nat} {I : Nat → Nat → Int32} {J : Nat → Nat → Int64} {l2 : Int32} {l4 : Int32} {l5 : Int32} {l6 : Value} (h6 : isB l6 = true) {l7 : Value} (h7 : isB l7 = true) {s0 : Int32} : exe X d 141 85 [dm, dm, Value.int l2, dm, Value.int l4, Value.int l5, l6, l7] [Value.int s0] (sz, sl, sh, R, I, J) =
    (if s0 = 0 then some (some (Value.int (-13)), (sz, sl, sh, R, I, J)) else (rf (l7) fun p1 => if sh p1 = (14, 0) then ((ev X d 142 [Value.ref p1, Value.int l4, Value.int l5] (sz, sl, sh, R, I, J)).bind fun q => exe X d 141 97 [dm, dm, Value.int l2, dm, Value.int l4, Value.int l5, l6, l7] (q.1.toList ++ []) q.2) else none)) :=
  tq ((E_if_eq f141_85)) (ite_c (tq ((E_iconst (x := (-13)) (by decide) f141_100)) ((E_iret pr_141 f141_102))) (tq ((E_aload (v := l7) rfl (isBA h7) f141_88)) (tq ((E_iload (x := l4) rfl f141_90)) (tq ((E_iload (x := l5) rfl f141_92)) ((E_callV pn_142 pc_142 rfl rfl (Nat.le_of_ble_eq_true rfl) f141_94))))))
theorem t141_97 {X : XX} {d : Nat} {sz sl : Nat} {sh : Nat → Nat × Nat} {R : Nat → Nat → Option Nat} {I : Nat → Nat → Int32} {J : Nat → Nat → Int64} {l2 : Int32} {l4 : Int32} {l5 : Int32} {l6 : Value} (h6 : isB l6 = true) {l7 : Value} (h7 : isB l7 = true) {s0 : Int32} : exe X d 141 97 [dm, dm, Value.int l2, dm, Value.int l4, Value.int l5, l6, l7] [Value.int s0] (sz, sl, sh, R, I, J) =
    (if ¬ s0 = 0 then (rf (l6) fun p1 => if sh p1 = (14, 0) then (rf (l7) fun p2 => if sh p2 = (14, 0) then (rf ((rfv (R p2 0))) fun p3 => rf ((rfv (R p1 0))) fun p4 => (if ((¬ (l2 : Int32) < 0 ∧ ¬ (l4 : Int32) < 0 ∧ ¬ (l5 : Int32) < 0) ∧ l2.toNatClampNeg + l5.toNatClampNeg ≤ (sh p4).2 ∧ l4.toNatClampNeg + l5.toNatClampNeg ≤ (sh p3).2) then (if (sh p4).1 = 0 ∧ (sh p3).1 = 0 then exe X d 141 121 [dm, dm, dm, dm, dm, Value.int l5, dm, dm] [] (sz, sl, sh, R, (ur I p3 (va_cpy (I p4) (I p3) l2.toNatClampNeg l4.toNatClampNeg l5.toNatClampNeg)), J) else if (sh p4).1 = 1 ∧ (sh p3).1 = 1 then exe X d 141 121 [dm, dm, dm, dm, dm, Value.int l5, dm, dm] [] (sz, sl, sh, R, I, (ur J p3 (va_cpy (J p4) (J p3) l2.toNatClampNeg l4.toNatClampNeg l5.toNatClampNeg))) else none) else none)) else none) else none) else some (some (Value.int (-13)), (sz, sl, sh, R, I, J))) :=
  tq ((E_if_ne f141_97)) (ite_c (tq ((E_aload (v := l6) rfl (isBA h6) f141_103)) (tq ((G7000 f141_105)) (rf_c fun p1 => ite_c (tq ((E_iload (x := l2) rfl f141_108)) (tq ((E_aload (v := l7) rfl (isBA h7) f141_109)) (tq ((G7000 f141_111)) (rf_c fun p2 => ite_c (tq ((E_iload (x := l4) rfl f141_114)) (tq ((E_iload (x := l5) rfl f141_116)) ((E_copy (Nat.le_of_ble_eq_true rfl) f141_118)))) rfl)))) rfl))) (tq ((E_iconst (x := (-13)) (by decide) f141_100)) ((E_iret pr_141 f141_102))))
theorem t141_121 {X : XX} {d : Nat} {sz sl : Nat} {sh : Nat → Nat × Nat} {R : Nat → Nat → Option Nat} {I : Nat → Nat → Int32} {J : Nat → Nat → Int64} {l5 : Int32} : exe X d 141 121 [dm, dm, dm, dm, dm, Value.int l5, dm, dm] [] (sz, sl, sh, R, I, J) =
    some (some (Value.int l5), (sz, sl, sh, R, I, J)) :=
  tq ((E_iload (x := l5) rfl f141_121)) ((E_iret pr_141 f141_123))
theorem n141 {X : XX} {d : Nat} {h : HP} {a0 : Int32} {a1 : Int32} {a2 : Int32} {a3 : Int32} {a4 : Int32} : ev X (d + 1) 141 [Value.ref 0, Value.int a0, Value.int a1, Value.int a2, Value.int a3, Value.int a4] h = exe X d 141 0 [Value.ref 0, Value.int a0, Value.int a1, Value.int a2, Value.int a3, Value.int a4, dm, dm] [] h := ev_exe (Nat.le_of_ble_eq_true rfl)
theorem f142_0 : fr 142 0 = some (.iload 1, 1, [], []) := by decide +kernel
theorem f142_1 : fr 142 1 = some (.ifCond .lt 30, 3, [], [0, 1, 2]) := by decide +kernel
theorem f142_4 : fr 142 4 = some (.iload 2, 1, [], []) := by decide +kernel
theorem f142_5 : fr 142 5 = some (.ifCond .lt 30, 3, [], [0, 1, 2]) := by decide +kernel
theorem f142_8 : fr 142 8 = some (.iload 2, 1, [], []) := by decide +kernel
theorem f142_9 : fr 142 9 = some (.aload 0, 1, [], []) := by decide +kernel
theorem f142_10 : fr 142 10 = some (.getfield 7002, 3, [], []) := by decide +kernel
theorem f142_13 : fr 142 13 = some (.if_icmp .gt 30, 3, [], [0, 1, 2]) := by decide +kernel
theorem f142_16 : fr 142 16 = some (.iload 1, 1, [1], []) := by decide +kernel
theorem f142_17 : fr 142 17 = some (.aload 0, 1, [0], []) := by decide +kernel
theorem f142_18 : fr 142 18 = some (.getfield 7002, 3, [], []) := by decide +kernel
theorem f142_21 : fr 142 21 = some (.iload 2, 1, [2], []) := by decide +kernel
theorem f142_22 : fr 142 22 = some (.isub, 1, [], []) := by decide +kernel
theorem f142_23 : fr 142 23 = some (.if_icmp .gt 30, 3, [], []) := by decide +kernel
theorem f142_26 : fr 142 26 = some (.iconst 1, 1, [], []) := by decide +kernel
theorem f142_27 : fr 142 27 = some (.goto 31, 3, [], []) := by decide +kernel
theorem f142_30 : fr 142 30 = some (.iconst 0, 1, [], []) := by decide +kernel
theorem f142_31 : fr 142 31 = some (.ireturn, 1, [], []) := by decide +kernel
theorem t142_0 {X : XX} {d : Nat} {sz sl : Nat} {sh : Nat → Nat × Nat} {R : Nat → Nat → Option Nat} {I : Nat → Nat → Int32} {J : Nat → Nat → Int64} {l0 : Nat} (h0 : sh l0 = (14, 0)) {l1 : Int32} {l2 : Int32} : exe X d 142 0 [Value.ref l0, Value.int l1, Value.int l2] [] (sz, sl, sh, R, I, J) =
    (if l1 < 0 then some (some (Value.int (0)), (sz, sl, sh, R, I, J)) else (if l2 < 0 then some (some (Value.int (0)), (sz, sl, sh, R, I, J)) else (if (I l0 2) < l2 then some (some (Value.int (0)), (sz, sl, sh, R, I, J)) else (if ((I l0 2) - l2) < l1 then some (some (Value.int (0)), (sz, sl, sh, R, I, J)) else some (some (Value.int (1)), (sz, sl, sh, R, I, J)))))) :=
  tq ((E_iload (x := l1) rfl f142_0)) (tq ((E_if_lt f142_1)) (ite_c (tq ((E_iconst (x := (0)) (by decide) f142_30)) (tq (E_zret pr_142 f142_31) (if_pos (by decide)))) (tq ((E_iload (x := l2) rfl f142_4)) (tq ((E_if_lt f142_5)) (ite_c (tq ((E_iconst (x := (0)) (by decide) f142_30)) (tq (E_zret pr_142 f142_31) (if_pos (by decide)))) (tq ((E_iload (x := l2) rfl f142_8)) (tq ((E_aload (v := Value.ref l0) rfl rfl f142_9)) (tq (tq ((G7002 f142_10)) (if_pos h0)) (tq ((E_ic_gt f142_13)) (ite_c (tq ((E_iconst (x := (0)) (by decide) f142_30)) (tq (E_zret pr_142 f142_31) (if_pos (by decide)))) (tq ((E_iload (x := l1) rfl f142_16)) (tq ((E_aload (v := Value.ref l0) rfl rfl f142_17)) (tq (tq ((G7002 f142_18)) (if_pos h0)) (tq ((E_iload (x := l2) rfl f142_21)) (tq ((E_isub f142_22)) (tq ((E_ic_gt f142_23)) (ite_c (tq ((E_iconst (x := (0)) (by decide) f142_30)) (tq (E_zret pr_142 f142_31) (if_pos (by decide)))) (tq ((E_iconst (x := (1)) (by decide) f142_26)) (tq ((E_goto f142_27)) (tq (E_zret pr_142 f142_31) (if_pos (by decide))))))))))))))))))))))
theorem n142 {X : XX} {d : Nat} {h : HP} {l0 : Nat} {a0 : Int32} {a1 : Int32} : ev X (d + 1) 142 [Value.ref l0, Value.int a0, Value.int a1] h = exe X d 142 0 [Value.ref l0, Value.int a0, Value.int a1] [] h := ev_exe (Nat.le_of_ble_eq_true rfl)
theorem f143_0 : fr 143 0 = some (.aload 0, 1, [0], []) := by decide +kernel
theorem f143_1 : fr 143 1 = some (.iload 1, 1, [1], []) := by decide +kernel
theorem f143_2 : fr 143 2 = some (.invokevirtual 26, 3, [], []) := by decide +kernel
theorem f143_5 : fr 143 5 = some (.astore 3, 1, [], []) := by decide +kernel
theorem f143_6 : fr 143 6 = some (.aload 3, 1, [], []) := by decide +kernel
theorem f143_7 : fr 143 7 = some (.ifnull 17, 3, [], [2, 3]) := by decide +kernel
theorem f143_10 : fr 143 10 = some (.iload 2, 1, [], []) := by decide +kernel
theorem f143_11 : fr 143 11 = some (.invokestatic 117, 3, [], []) := by decide +kernel
theorem f143_14 : fr 143 14 = some (.ifCond .ne 19, 3, [2, 3], []) := by decide +kernel
theorem f143_17 : fr 143 17 = some (.iconst (-1), 1, [], []) := by decide +kernel
theorem f143_18 : fr 143 18 = some (.ireturn, 1, [], []) := by decide +kernel
theorem f143_19 : fr 143 19 = some (.aload 3, 1, [], []) := by decide +kernel
theorem f143_20 : fr 143 20 = some (.invokevirtual 27, 3, [], []) := by decide +kernel
theorem f143_23 : fr 143 23 = some (.ifCond .eq 29, 3, [2, 3], []) := by decide +kernel
theorem f143_26 : fr 143 26 = some (.iconst (-11), 2, [], []) := by decide +kernel
theorem f143_28 : fr 143 28 = some (.ireturn, 1, [], []) := by decide +kernel
theorem f143_29 : fr 143 29 = some (.aload 3, 1, [], []) := by decide +kernel
theorem f143_30 : fr 143 30 = some (.invokevirtual 29, 3, [], []) := by decide +kernel
theorem f143_33 : fr 143 33 = some (.ifCond .ne 47, 3, [], [2, 3]) := by decide +kernel
theorem f143_36 : fr 143 36 = some (.aload 3, 1, [], []) := by decide +kernel
theorem f143_37 : fr 143 37 = some (.getfield 7003, 3, [], []) := by decide +kernel
theorem f143_40 : fr 143 40 = some (.iload 2, 1, [2], []) := by decide +kernel
theorem f143_41 : fr 143 41 = some (.invokestatic 144, 3, [], []) := by decide +kernel
theorem f143_44 : fr 143 44 = some (.ifCond .ne 50, 3, [3], []) := by decide +kernel
theorem f143_47 : fr 143 47 = some (.iconst (-12), 2, [], []) := by decide +kernel
theorem f143_49 : fr 143 49 = some (.ireturn, 1, [], []) := by decide +kernel
theorem f143_50 : fr 143 50 = some (.aload 3, 1, [3], []) := by decide +kernel
theorem f143_51 : fr 143 51 = some (.getfield 7003, 3, [], []) := by decide +kernel
theorem f143_54 : fr 143 54 = some (.ireturn, 1, [], []) := by decide +kernel
theorem t143_0 {X : XX} {d : Nat} {sz sl : Nat} {sh : Nat → Nat × Nat} {R : Nat → Nat → Option Nat} {I : Nat → Nat → Int32} {J : Nat → Nat → Int64} (hS : SF sh R) {l1 : Int32} {l2 : Int32} : exe X d 143 0 [Value.ref 0, Value.int l1, Value.int l2, dm] [] (sz, sl, sh, R, I, J) =
    ((ev X d 26 [Value.ref 0, Value.int l1] (sz, sl, sh, R, I, J)).bind fun q => exe X d 143 5 [dm, dm, Value.int l2, dm] (q.1.toList ++ []) q.2) :=
  tq ((E_aload (v := Value.ref 0) rfl rfl f143_0)) (tq ((E_iload (x := l1) rfl f143_1)) ((tq ((E_callV pn_26 pc_26 rfl rfl (Nat.le_of_ble_eq_true rfl) f143_2)) (if_pos (zS0 hS)))))
theorem t143_5 {X : XX} {d : Nat} {sz sl : Nat} {sh : Nat → Nat × Nat} {R : Nat → Nat → Option Nat} {I : Nat → Nat → Int32} {J : Nat → Nat → Int64} {l2 : Int32} {s0 : Value} (k0 : isB s0 = true) : exe X d 143 5 [dm, dm, Value.int l2, dm] [s0] (sz, sl, sh, R, I, J) =
    (nn (s0) (some (some (Value.int (-1)), (sz, sl, sh, R, I, J))) (((ev X d 117 [Value.int l2] (sz, sl, sh, R, I, J)).bind fun q => exe X d 143 14 [dm, dm, Value.int l2, s0] (q.1.toList ++ []) q.2))) :=
  tq ((E_astore k0 rfl f143_5)) (tq ((E_aload (v := s0) rfl (isBA k0) f143_6)) (tq ((E_ifnull f143_7)) (nn_c (tq ((E_iconst (x := (-1)) (by decide) f143_17)) ((E_iret pr_143 f143_18))) (tq ((E_iload (x := l2) rfl f143_10)) ((E_callS pn_117 rfl rfl (Nat.le_of_ble_eq_true rfl) (Nat.le_of_ble_eq_true rfl) f143_11))))))
theorem t143_14 {X : XX} {d : Nat} {sz sl : Nat} {sh : Nat → Nat × Nat} {R : Nat → Nat → Option Nat} {I : Nat → Nat → Int32} {J : Nat → Nat → Int64} {l2 : Int32} {l3 : Value} (h3 : isB l3 = true) {s0 : Int32} : exe X d 143 14 [dm, dm, Value.int l2, l3] [Value.int s0] (sz, sl, sh, R, I, J) =
    (if ¬ s0 = 0 then (rf (l3) fun p1 => if sh p1 = (14, 0) then ((ev X d 27 [Value.ref p1] (sz, sl, sh, R, I, J)).bind fun q => exe X d 143 23 [dm, dm, Value.int l2, l3] (q.1.toList ++ []) q.2) else none) else some (some (Value.int (-1)), (sz, sl, sh, R, I, J))) :=
  tq ((E_if_ne f143_14)) (ite_c (tq ((E_aload (v := l3) rfl (isBA h3) f143_19)) ((E_callV pn_27 pc_27 rfl rfl (Nat.le_of_ble_eq_true rfl) f143_20))) (tq ((E_iconst (x := (-1)) (by decide) f143_17)) ((E_iret pr_143 f143_18))))
theorem t143_23 {X : XX} {d : Nat} {sz sl : Nat} {sh : Nat → Nat × Nat} {R : Nat → Nat → Option Nat} {I : Nat → Nat → Int32} {J : Nat → Nat → Int64} {l2 : Int32} {l3 : Value} (h3 : isB l3 = true) {s0 : Int32} : exe X d 143 23 [dm, dm, Value.int l2, l3] [Value.int s0] (sz, sl, sh, R, I, J) =
    (if s0 = 0 then (rf (l3) fun p1 => if sh p1 = (14, 0) then ((ev X d 29 [Value.ref p1] (sz, sl, sh, R, I, J)).bind fun q => exe X d 143 33 [dm, dm, Value.int l2, l3] (q.1.toList ++ []) q.2) else none) else some (some (Value.int (-11)), (sz, sl, sh, R, I, J))) :=
  tq ((E_if_eq f143_23)) (ite_c (tq ((E_aload (v := l3) rfl (isBA h3) f143_29)) ((E_callV pn_29 pc_29 rfl rfl (Nat.le_of_ble_eq_true rfl) f143_30))) (tq ((E_iconst (x := (-11)) (by decide) f143_26)) ((E_iret pr_143 f143_28))))
theorem t143_33 {X : XX} {d : Nat} {sz sl : Nat} {sh : Nat → Nat × Nat} {R : Nat → Nat → Option Nat} {I : Nat → Nat → Int32} {J : Nat → Nat → Int64} {l2 : Int32} {l3 : Value} (h3 : isB l3 = true) {s0 : Int32} : exe X d 143 33 [dm, dm, Value.int l2, l3] [Value.int s0] (sz, sl, sh, R, I, J) =
    (if ¬ s0 = 0 then some (some (Value.int (-12)), (sz, sl, sh, R, I, J)) else (rf (l3) fun p1 => if sh p1 = (14, 0) then ((ev X d 144 [Value.int (I p1 3), Value.int l2] (sz, sl, sh, R, I, J)).bind fun q => exe X d 143 44 [dm, dm, dm, l3] (q.1.toList ++ []) q.2) else none)) :=
  tq ((E_if_ne f143_33)) (ite_c (tq ((E_iconst (x := (-12)) (by decide) f143_47)) ((E_iret pr_143 f143_49))) (tq ((E_aload (v := l3) rfl (isBA h3) f143_36)) (tq ((G7003 f143_37)) (rf_c fun p1 => ite_c (tq ((E_iload (x := l2) rfl f143_40)) ((E_callS pn_144 rfl rfl (Nat.le_of_ble_eq_true rfl) (Nat.le_of_ble_eq_true rfl) f143_41))) rfl))))
theorem t143_44 {X : XX} {d : Nat} {sz sl : Nat} {sh : Nat → Nat × Nat} {R : Nat → Nat → Option Nat} {I : Nat → Nat → Int32} {J : Nat → Nat → Int64} {l3 : Value} (h3 : isB l3 = true) {s0 : Int32} : exe X d 143 44 [dm, dm, dm, l3] [Value.int s0] (sz, sl, sh, R, I, J) =
    (if ¬ s0 = 0 then (rf (l3) fun p1 => if sh p1 = (14, 0) then some (some (Value.int (I p1 3)), (sz, sl, sh, R, I, J)) else none) else some (some (Value.int (-12)), (sz, sl, sh, R, I, J))) :=
  tq ((E_if_ne f143_44)) (ite_c (tq ((E_aload (v := l3) rfl (isBA h3) f143_50)) (tq ((G7003 f143_51)) (rf_c fun p1 => ite_c ((E_iret pr_143 f143_54)) rfl))) (tq ((E_iconst (x := (-12)) (by decide) f143_47)) ((E_iret pr_143 f143_49))))
theorem n143 {X : XX} {d : Nat} {h : HP} {a0 : Int32} {a1 : Int32} : ev X (d + 1) 143 [Value.ref 0, Value.int a0, Value.int a1] h = exe X d 143 0 [Value.ref 0, Value.int a0, Value.int a1, dm] [] h := ev_exe (Nat.le_of_ble_eq_true rfl)
theorem f144_0 : fr 144 0 = some (.iload 0, 1, [0], []) := by decide +kernel
theorem f144_1 : fr 144 1 = some (.istore 2, 1, [], []) := by decide +kernel
theorem f144_2 : fr 144 2 = some (.iconst 0, 1, [], []) := by decide +kernel
theorem f144_3 : fr 144 3 = some (.istore 3, 1, [], []) := by decide +kernel
theorem f144_4 : fr 144 4 = some (.iload 3, 1, [], []) := by decide +kernel
theorem f144_5 : fr 144 5 = some (.iconst 8, 2, [], []) := by decide +kernel
theorem f144_7 : fr 144 7 = some (.if_icmp .ge 30, 3, [], [3]) := by decide +kernel
theorem f144_10 : fr 144 10 = some (.iload 2, 1, [], []) := by decide +kernel
theorem f144_11 : fr 144 11 = some (.ifCond .lt 30, 3, [], [3]) := by decide +kernel
theorem f144_14 : fr 144 14 = some (.iload 2, 1, [], []) := by decide +kernel
theorem f144_15 : fr 144 15 = some (.iload 1, 1, [], []) := by decide +kernel
theorem f144_16 : fr 144 16 = some (.if_icmp .eq 30, 3, [], [3]) := by decide +kernel
theorem f144_19 : fr 144 19 = some (.iload 2, 1, [2], []) := by decide +kernel
theorem f144_20 : fr 144 20 = some (.invokestatic 125, 3, [], []) := by decide +kernel
theorem f144_23 : fr 144 23 = some (.istore 2, 1, [], []) := by decide +kernel
theorem f144_24 : fr 144 24 = some (.iinc 3 1, 3, [], []) := by decide +kernel
theorem f144_27 : fr 144 27 = some (.goto 4, 3, [], []) := by decide +kernel
theorem f144_30 : fr 144 30 = some (.iload 2, 1, [2], []) := by decide +kernel
theorem f144_31 : fr 144 31 = some (.iload 1, 1, [1], []) := by decide +kernel
theorem f144_32 : fr 144 32 = some (.if_icmp .ne 39, 3, [], []) := by decide +kernel
theorem f144_35 : fr 144 35 = some (.iconst 1, 1, [], []) := by decide +kernel
theorem f144_36 : fr 144 36 = some (.goto 40, 3, [], []) := by decide +kernel
theorem f144_39 : fr 144 39 = some (.iconst 0, 1, [], []) := by decide +kernel
theorem f144_40 : fr 144 40 = some (.ireturn, 1, [], []) := by decide +kernel
theorem t144_0 {X : XX} {d : Nat} {sz sl : Nat} {sh : Nat → Nat × Nat} {R : Nat → Nat → Option Nat} {I : Nat → Nat → Int32} {J : Nat → Nat → Int64} {l0 : Int32} {l1 : Int32} : exe X d 144 0 [Value.int l0, Value.int l1, dm, dm] [] (sz, sl, sh, R, I, J) =
    exe X d 144 4 [dm, Value.int l1, Value.int l0, Value.int (0)] [] (sz, sl, sh, R, I, J) :=
  tq ((E_iload (x := l0) rfl f144_0)) (tq ((E_istore rfl f144_1)) (tq ((E_iconst (x := (0)) (by decide) f144_2)) ((E_istore rfl f144_3))))
theorem t144_4 {X : XX} {d : Nat} {sz sl : Nat} {sh : Nat → Nat × Nat} {R : Nat → Nat → Option Nat} {I : Nat → Nat → Int32} {J : Nat → Nat → Int64} {l1 : Int32} {l2 : Int32} {l3 : Int32} : exe X d 144 4 [dm, Value.int l1, Value.int l2, Value.int l3] [] (sz, sl, sh, R, I, J) =
    (if (8) ≤ l3 then exe X d 144 30 [dm, Value.int l1, Value.int l2, dm] [] (sz, sl, sh, R, I, J) else (if l2 < 0 then exe X d 144 30 [dm, Value.int l1, Value.int l2, dm] [] (sz, sl, sh, R, I, J) else (if l2 = l1 then exe X d 144 30 [dm, Value.int l1, Value.int l2, dm] [] (sz, sl, sh, R, I, J) else ((ev X d 125 [Value.int l2] (sz, sl, sh, R, I, J)).bind fun q => exe X d 144 23 [dm, Value.int l1, dm, Value.int l3] (q.1.toList ++ []) q.2)))) :=
  tq ((E_iload (x := l3) rfl f144_4)) (tq ((E_iconst (x := (8)) (by decide) f144_5)) (tq ((E_ic_ge f144_7)) (ite_c (rfl) (tq ((E_iload (x := l2) rfl f144_10)) (tq ((E_if_lt f144_11)) (ite_c (rfl) (tq ((E_iload (x := l2) rfl f144_14)) (tq ((E_iload (x := l1) rfl f144_15)) (tq ((E_ic_eq f144_16)) (ite_c (rfl) (tq ((E_iload (x := l2) rfl f144_19)) ((E_callS pn_125 rfl rfl (Nat.le_of_ble_eq_true rfl) (Nat.le_of_ble_eq_true rfl) f144_20)))))))))))))
theorem t144_23 {X : XX} {d : Nat} {sz sl : Nat} {sh : Nat → Nat × Nat} {R : Nat → Nat → Option Nat} {I : Nat → Nat → Int32} {J : Nat → Nat → Int64} {l1 : Int32} {l3 : Int32} {s0 : Int32} : exe X d 144 23 [dm, Value.int l1, dm, Value.int l3] [Value.int s0] (sz, sl, sh, R, I, J) =
    exe X d 144 4 [dm, Value.int l1, Value.int s0, Value.int (l3 + (1))] [] (sz, sl, sh, R, I, J) :=
  tq ((E_istore rfl f144_23)) (tq ((E_iinc (x := l3) (x' := (1)) rfl rfl (by decide) f144_24)) ((E_goto f144_27)))
theorem t144_30 {X : XX} {d : Nat} {sz sl : Nat} {sh : Nat → Nat × Nat} {R : Nat → Nat → Option Nat} {I : Nat → Nat → Int32} {J : Nat → Nat → Int64} {l1 : Int32} {l2 : Int32} : exe X d 144 30 [dm, Value.int l1, Value.int l2, dm] [] (sz, sl, sh, R, I, J) =
    (if ¬ l2 = l1 then some (some (Value.int (0)), (sz, sl, sh, R, I, J)) else some (some (Value.int (1)), (sz, sl, sh, R, I, J))) :=
  tq ((E_iload (x := l2) rfl f144_30)) (tq ((E_iload (x := l1) rfl f144_31)) (tq ((E_ic_ne f144_32)) (ite_c (tq ((E_iconst (x := (0)) (by decide) f144_39)) (tq (E_zret pr_144 f144_40) (if_pos (by decide)))) (tq ((E_iconst (x := (1)) (by decide) f144_35)) (tq ((E_goto f144_36)) (tq (E_zret pr_144 f144_40) (if_pos (by decide))))))))
theorem n144 {X : XX} {d : Nat} {h : HP} {a0 : Int32} {a1 : Int32} : ev X (d + 1) 144 [Value.int a0, Value.int a1] h = exe X d 144 0 [Value.int a0, Value.int a1, dm, dm] [] h := ev_exe (Nat.le_of_ble_eq_true rfl)
theorem f145_0 : fr 145 0 = some (.iload 1, 1, [1], []) := by decide +kernel
theorem f145_1 : fr 145 1 = some (.lookupswitch 103 #[(0, 48), (1, 53), (2, 58), (3, 63), (4, 71), (5, 79), (6, 87), (7, 95)], 47, [], []) := by decide +kernel
theorem f145_48 : fr 145 48 = some (.aload 0, 1, [0], []) := by decide +kernel
theorem f145_49 : fr 145 49 = some (.getfield 1, 3, [], []) := by decide +kernel
theorem f145_52 : fr 145 52 = some (.ireturn, 1, [], []) := by decide +kernel
theorem f145_53 : fr 145 53 = some (.aload 0, 1, [0], []) := by decide +kernel
theorem f145_54 : fr 145 54 = some (.getfield 4, 3, [], []) := by decide +kernel
theorem f145_57 : fr 145 57 = some (.ireturn, 1, [], []) := by decide +kernel
theorem f145_58 : fr 145 58 = some (.aload 0, 1, [0], []) := by decide +kernel
theorem f145_59 : fr 145 59 = some (.getfield 6, 3, [], []) := by decide +kernel
theorem f145_62 : fr 145 62 = some (.ireturn, 1, [], []) := by decide +kernel
theorem f145_63 : fr 145 63 = some (.aload 0, 1, [0], []) := by decide +kernel
theorem f145_64 : fr 145 64 = some (.getfield 2, 3, [], []) := by decide +kernel
theorem f145_67 : fr 145 67 = some (.getfield 4003, 3, [], []) := by decide +kernel
theorem f145_70 : fr 145 70 = some (.ireturn, 1, [], []) := by decide +kernel
theorem f145_71 : fr 145 71 = some (.aload 0, 1, [0], []) := by decide +kernel
theorem f145_72 : fr 145 72 = some (.getfield 9, 3, [], []) := by decide +kernel
theorem f145_75 : fr 145 75 = some (.getfield 2001, 3, [], []) := by decide +kernel
theorem f145_78 : fr 145 78 = some (.ireturn, 1, [], []) := by decide +kernel
theorem f145_79 : fr 145 79 = some (.aload 0, 1, [0], []) := by decide +kernel
theorem f145_80 : fr 145 80 = some (.getfield 10, 3, [], []) := by decide +kernel
theorem f145_83 : fr 145 83 = some (.getfield 1003, 3, [], []) := by decide +kernel
theorem f145_86 : fr 145 86 = some (.ireturn, 1, [], []) := by decide +kernel
theorem f145_87 : fr 145 87 = some (.aload 0, 1, [0], []) := by decide +kernel
theorem f145_88 : fr 145 88 = some (.getfield 11, 3, [], []) := by decide +kernel
theorem f145_91 : fr 145 91 = some (.getfield 10003, 3, [], []) := by decide +kernel
theorem f145_94 : fr 145 94 = some (.ireturn, 1, [], []) := by decide +kernel
theorem f145_95 : fr 145 95 = some (.aload 0, 1, [0], []) := by decide +kernel
theorem f145_96 : fr 145 96 = some (.getfield 11, 3, [], []) := by decide +kernel
theorem f145_99 : fr 145 99 = some (.getfield 10004, 3, [], []) := by decide +kernel
theorem f145_102 : fr 145 102 = some (.ireturn, 1, [], []) := by decide +kernel
theorem f145_103 : fr 145 103 = some (.iconst (-1), 1, [0], []) := by decide +kernel
theorem f145_104 : fr 145 104 = some (.ireturn, 1, [], []) := by decide +kernel
theorem t145_0 {X : XX} {d : Nat} {sz sl : Nat} {sh : Nat → Nat × Nat} {R : Nat → Nat → Option Nat} {I : Nat → Nat → Int32} {J : Nat → Nat → Int64} (hS : SF sh R) {l1 : Int32} : exe X d 145 0 [Value.ref 0, Value.int l1] [] (sz, sl, sh, R, I, J) =
    (if l1 = (0) then some (some (Value.int (I 0 1)), (sz, sl, sh, R, I, J)) else (if l1 = (1) then some (some (Value.int (I 0 4)), (sz, sl, sh, R, I, J)) else (if l1 = (2) then some (some (Value.int (I 0 6)), (sz, sl, sh, R, I, J)) else (if l1 = (3) then some (some (Value.int (I 2 3)), (sz, sl, sh, R, I, J)) else (if l1 = (4) then some (some (Value.int (I 15 1)), (sz, sl, sh, R, I, J)) else (if l1 = (5) then some (some (Value.int (I 17 3)), (sz, sl, sh, R, I, J)) else (if l1 = (6) then some (some (Value.int (I 21 3)), (sz, sl, sh, R, I, J)) else (if l1 = (7) then some (some (Value.int (I 21 4)), (sz, sl, sh, R, I, J)) else some (some (Value.int (-1)), (sz, sl, sh, R, I, J)))))))))) :=
  tq ((E_iload (x := l1) rfl f145_0)) (tq ((E_sw f145_1)) (sw_c (by decide) (tq ((E_aload (v := Value.ref 0) rfl rfl f145_48)) (tq (tq ((G1 f145_49)) (if_pos (zS0 hS))) ((E_iret pr_145 f145_52)))) (sw_c (by decide) (tq ((E_aload (v := Value.ref 0) rfl rfl f145_53)) (tq (tq ((G4 f145_54)) (if_pos (zS0 hS))) ((E_iret pr_145 f145_57)))) (sw_c (by decide) (tq ((E_aload (v := Value.ref 0) rfl rfl f145_58)) (tq (tq ((G6 f145_59)) (if_pos (zS0 hS))) ((E_iret pr_145 f145_62)))) (sw_c (by decide) (tq ((E_aload (v := Value.ref 0) rfl rfl f145_63)) (tq (tq ((G2 f145_64)) (if_pos (zS0 hS))) (tq (exe_R (zR0_2 hS)) (tq (tq ((G4003 f145_67)) (if_pos (zS2 hS))) ((E_iret pr_145 f145_70)))))) (sw_c (by decide) (tq ((E_aload (v := Value.ref 0) rfl rfl f145_71)) (tq (tq ((G9 f145_72)) (if_pos (zS0 hS))) (tq (exe_R (zR0_9 hS)) (tq (tq ((G2001 f145_75)) (if_pos (zS15 hS))) ((E_iret pr_145 f145_78)))))) (sw_c (by decide) (tq ((E_aload (v := Value.ref 0) rfl rfl f145_79)) (tq (tq ((G10 f145_80)) (if_pos (zS0 hS))) (tq (exe_R (zR0_10 hS)) (tq (tq ((G1003 f145_83)) (if_pos (zS17 hS))) ((E_iret pr_145 f145_86)))))) (sw_c (by decide) (tq ((E_aload (v := Value.ref 0) rfl rfl f145_87)) (tq (tq ((G11 f145_88)) (if_pos (zS0 hS))) (tq (exe_R (zR0_11 hS)) (tq (tq ((G10003 f145_91)) (if_pos (zS21 hS))) ((E_iret pr_145 f145_94)))))) (sw_c (by decide) (tq ((E_aload (v := Value.ref 0) rfl rfl f145_95)) (tq (tq ((G11 f145_96)) (if_pos (zS0 hS))) (tq (exe_R (zR0_11 hS)) (tq (tq ((G10004 f145_99)) (if_pos (zS21 hS))) ((E_iret pr_145 f145_102)))))) (tq ((E_iconst (x := (-1)) (by decide) f145_103)) ((E_iret pr_145 f145_104))))))))))))
theorem n145 {X : XX} {d : Nat} {h : HP} {a0 : Int32} : ev X (d + 1) 145 [Value.ref 0, Value.int a0] h = exe X d 145 0 [Value.ref 0, Value.int a0] [] h := ev_exe (Nat.le_of_ble_eq_true rfl)
theorem f146_0 : fr 146 0 = some (.aload 0, 1, [], []) := by decide +kernel
theorem f146_1 : fr 146 1 = some (.monitorexit, 3, [], []) := by decide +kernel
theorem f146_4 : fr 146 4 = some (.aload 0, 1, [], []) := by decide +kernel
theorem f146_5 : fr 146 5 = some (.iconst 40, 2, [], []) := by decide +kernel
theorem f146_7 : fr 146 7 = some (.newarray .int, 2, [], []) := by decide +kernel
theorem f146_9 : fr 146 9 = some (.putfield 11001, 3, [], []) := by decide +kernel
theorem f146_12 : fr 146 12 = some (.aload 0, 1, [], []) := by decide +kernel
theorem f146_13 : fr 146 13 = some (.iconst 40, 2, [], []) := by decide +kernel
theorem f146_15 : fr 146 15 = some (.newarray .int, 2, [], []) := by decide +kernel
theorem f146_17 : fr 146 17 = some (.putfield 11002, 3, [], []) := by decide +kernel
theorem f146_20 : fr 146 20 = some (.aload 0, 1, [], []) := by decide +kernel
theorem f146_21 : fr 146 21 = some (.iconst 40, 2, [], []) := by decide +kernel
theorem f146_23 : fr 146 23 = some (.newarray .int, 2, [], []) := by decide +kernel
theorem f146_25 : fr 146 25 = some (.putfield 11003, 3, [], []) := by decide +kernel
theorem f146_28 : fr 146 28 = some (.aload 0, 1, [], []) := by decide +kernel
theorem f146_29 : fr 146 29 = some (.iconst 40, 2, [], []) := by decide +kernel
theorem f146_31 : fr 146 31 = some (.newarray .int, 2, [], []) := by decide +kernel
theorem f146_33 : fr 146 33 = some (.putfield 11004, 3, [], []) := by decide +kernel
theorem f146_36 : fr 146 36 = some (.aload 0, 1, [], []) := by decide +kernel
theorem f146_37 : fr 146 37 = some (.iconst 320, 3, [], []) := by decide +kernel
theorem f146_40 : fr 146 40 = some (.newarray .int, 2, [], []) := by decide +kernel
theorem f146_42 : fr 146 42 = some (.putfield 11005, 3, [], []) := by decide +kernel
theorem f146_45 : fr 146 45 = some (.aload 0, 1, [], []) := by decide +kernel
theorem f146_46 : fr 146 46 = some (.iconst 320, 3, [], []) := by decide +kernel
theorem f146_49 : fr 146 49 = some (.newarray .int, 2, [], []) := by decide +kernel
theorem f146_51 : fr 146 51 = some (.putfield 11006, 3, [], []) := by decide +kernel
theorem f146_54 : fr 146 54 = some (.aload 0, 1, [], []) := by decide +kernel
theorem f146_55 : fr 146 55 = some (.iconst 40, 2, [], []) := by decide +kernel
theorem f146_57 : fr 146 57 = some (.newarray .boolean, 2, [], []) := by decide +kernel
theorem f146_59 : fr 146 59 = some (.putfield 11007, 3, [], []) := by decide +kernel
theorem f146_62 : fr 146 62 = some (.aload 0, 1, [], []) := by decide +kernel
theorem f146_63 : fr 146 63 = some (.iconst 120, 2, [], []) := by decide +kernel
theorem f146_65 : fr 146 65 = some (.newarray .int, 2, [], []) := by decide +kernel
theorem f146_67 : fr 146 67 = some (.putfield 11008, 3, [], []) := by decide +kernel
theorem f146_70 : fr 146 70 = some (.aload 0, 1, [], []) := by decide +kernel
theorem f146_71 : fr 146 71 = some (.iconst 800, 3, [], []) := by decide +kernel
theorem f146_74 : fr 146 74 = some (.newarray .int, 2, [], []) := by decide +kernel
theorem f146_76 : fr 146 76 = some (.putfield 11010, 3, [], []) := by decide +kernel
theorem f146_79 : fr 146 79 = some (.aload 0, 1, [], []) := by decide +kernel
theorem f146_80 : fr 146 80 = some (.iconst 4, 1, [], []) := by decide +kernel
theorem f146_81 : fr 146 81 = some (.newarray .int, 2, [], []) := by decide +kernel
theorem f146_83 : fr 146 83 = some (.putfield 11011, 3, [], []) := by decide +kernel
theorem f146_86 : fr 146 86 = some (.aload 0, 1, [], []) := by decide +kernel
theorem f146_87 : fr 146 87 = some (.iconst 10, 2, [], []) := by decide +kernel
theorem f146_89 : fr 146 89 = some (.newarray .int, 2, [], []) := by decide +kernel
theorem f146_91 : fr 146 91 = some (.putfield 11014, 3, [], []) := by decide +kernel
theorem f146_94 : fr 146 94 = some (.aload 0, 1, [], []) := by decide +kernel
theorem f146_95 : fr 146 95 = some (.iconst 10, 2, [], []) := by decide +kernel
theorem f146_97 : fr 146 97 = some (.newarray .int, 2, [], []) := by decide +kernel
theorem f146_99 : fr 146 99 = some (.putfield 11015, 3, [], []) := by decide +kernel
theorem f146_102 : fr 146 102 = some (.aload 0, 1, [], []) := by decide +kernel
theorem f146_103 : fr 146 103 = some (.iconst 10, 2, [], []) := by decide +kernel
theorem f146_105 : fr 146 105 = some (.newarray .int, 2, [], []) := by decide +kernel
theorem f146_107 : fr 146 107 = some (.putfield 11016, 3, [], []) := by decide +kernel
theorem f146_110 : fr 146 110 = some (.aload 0, 1, [], []) := by decide +kernel
theorem f146_111 : fr 146 111 = some (.iconst 10, 2, [], []) := by decide +kernel
theorem f146_113 : fr 146 113 = some (.newarray .int, 2, [], []) := by decide +kernel
theorem f146_115 : fr 146 115 = some (.putfield 11017, 3, [], []) := by decide +kernel
theorem f146_118 : fr 146 118 = some (.aload 0, 1, [], []) := by decide +kernel
theorem f146_119 : fr 146 119 = some (.iconst 10, 2, [], []) := by decide +kernel
theorem f146_121 : fr 146 121 = some (.newarray .int, 2, [], []) := by decide +kernel
theorem f146_123 : fr 146 123 = some (.putfield 11018, 3, [], []) := by decide +kernel
theorem f146_126 : fr 146 126 = some (.aload 0, 1, [], []) := by decide +kernel
theorem f146_127 : fr 146 127 = some (.iconst 10, 2, [], []) := by decide +kernel
theorem f146_129 : fr 146 129 = some (.newarray .int, 2, [], []) := by decide +kernel
theorem f146_131 : fr 146 131 = some (.putfield 11019, 3, [], []) := by decide +kernel
theorem f146_134 : fr 146 134 = some (.aload 0, 1, [], []) := by decide +kernel
theorem f146_135 : fr 146 135 = some (.iconst 10, 2, [], []) := by decide +kernel
theorem f146_137 : fr 146 137 = some (.newarray .int, 2, [], []) := by decide +kernel
theorem f146_139 : fr 146 139 = some (.putfield 11020, 3, [], []) := by decide +kernel
theorem f146_142 : fr 146 142 = some (.aload 0, 1, [], []) := by decide +kernel
theorem f146_143 : fr 146 143 = some (.iconst 30, 2, [], []) := by decide +kernel
theorem f146_145 : fr 146 145 = some (.newarray .int, 2, [], []) := by decide +kernel
theorem f146_147 : fr 146 147 = some (.putfield 11022, 3, [], []) := by decide +kernel
theorem f146_150 : fr 146 150 = some (.aload 0, 1, [], []) := by decide +kernel
theorem f146_151 : fr 146 151 = some (.iconst 40, 2, [], []) := by decide +kernel
theorem f146_153 : fr 146 153 = some (.newarray .int, 2, [], []) := by decide +kernel
theorem f146_155 : fr 146 155 = some (.putfield 11023, 3, [], []) := by decide +kernel
theorem f146_158 : fr 146 158 = some (.aload 0, 1, [], []) := by decide +kernel
theorem f146_159 : fr 146 159 = some (.iconst 40, 2, [], []) := by decide +kernel
theorem f146_161 : fr 146 161 = some (.newarray .int, 2, [], []) := by decide +kernel
theorem f146_163 : fr 146 163 = some (.putfield 11024, 3, [], []) := by decide +kernel
theorem f146_166 : fr 146 166 = some (.aload 0, 1, [], []) := by decide +kernel
theorem f146_167 : fr 146 167 = some (.iconst 40, 2, [], []) := by decide +kernel
theorem f146_169 : fr 146 169 = some (.newarray .int, 2, [], []) := by decide +kernel
theorem f146_171 : fr 146 171 = some (.putfield 11025, 3, [], []) := by decide +kernel
theorem f146_174 : fr 146 174 = some (.aload 0, 1, [], []) := by decide +kernel
theorem f146_175 : fr 146 175 = some (.iconst 50, 2, [], []) := by decide +kernel
theorem f146_177 : fr 146 177 = some (.newarray .int, 2, [], []) := by decide +kernel
theorem f146_179 : fr 146 179 = some (.putfield 11029, 3, [], []) := by decide +kernel
theorem f146_182 : fr 146 182 = some (.aload 0, 1, [], []) := by decide +kernel
theorem f146_183 : fr 146 183 = some (.iconst 24, 2, [], []) := by decide +kernel
theorem f146_185 : fr 146 185 = some (.newarray .int, 2, [], []) := by decide +kernel
theorem f146_187 : fr 146 187 = some (.putfield 11031, 3, [], []) := by decide +kernel
theorem f146_190 : fr 146 190 = some (.aload 0, 1, [], []) := by decide +kernel
theorem f146_191 : fr 146 191 = some (.iconst 6, 2, [], []) := by decide +kernel
theorem f146_193 : fr 146 193 = some (.newarray .int, 2, [], []) := by decide +kernel
theorem f146_195 : fr 146 195 = some (.dup, 1, [], []) := by decide +kernel
theorem f146_196 : fr 146 196 = some (.iconst 0, 1, [], []) := by decide +kernel
theorem f146_197 : fr 146 197 = some (.iconst (-1), 1, [], []) := by decide +kernel
theorem f146_198 : fr 146 198 = some (.iastore, 1, [], []) := by decide +kernel
theorem f146_199 : fr 146 199 = some (.dup, 1, [], []) := by decide +kernel
theorem f146_200 : fr 146 200 = some (.iconst 1, 1, [], []) := by decide +kernel
theorem f146_201 : fr 146 201 = some (.iconst (-1), 1, [], []) := by decide +kernel
theorem f146_202 : fr 146 202 = some (.iastore, 1, [], []) := by decide +kernel
theorem f146_203 : fr 146 203 = some (.dup, 1, [], []) := by decide +kernel
theorem f146_204 : fr 146 204 = some (.iconst 2, 1, [], []) := by decide +kernel
theorem f146_205 : fr 146 205 = some (.iconst (-1), 1, [], []) := by decide +kernel
theorem f146_206 : fr 146 206 = some (.iastore, 1, [], []) := by decide +kernel
theorem f146_207 : fr 146 207 = some (.dup, 1, [], []) := by decide +kernel
theorem f146_208 : fr 146 208 = some (.iconst 3, 1, [], []) := by decide +kernel
theorem f146_209 : fr 146 209 = some (.iconst (-1), 1, [], []) := by decide +kernel
theorem f146_210 : fr 146 210 = some (.iastore, 1, [], []) := by decide +kernel
theorem f146_211 : fr 146 211 = some (.dup, 1, [], []) := by decide +kernel
theorem f146_212 : fr 146 212 = some (.iconst 4, 1, [], []) := by decide +kernel
theorem f146_213 : fr 146 213 = some (.iconst (-1), 1, [], []) := by decide +kernel
theorem f146_214 : fr 146 214 = some (.iastore, 1, [], []) := by decide +kernel
theorem f146_215 : fr 146 215 = some (.dup, 1, [], []) := by decide +kernel
theorem f146_216 : fr 146 216 = some (.iconst 5, 1, [], []) := by decide +kernel
theorem f146_217 : fr 146 217 = some (.iconst (-1), 1, [], []) := by decide +kernel
theorem f146_218 : fr 146 218 = some (.iastore, 1, [], []) := by decide +kernel
theorem f146_219 : fr 146 219 = some (.putfield 11032, 3, [], []) := by decide +kernel
theorem f146_222 : fr 146 222 = some (.aload 0, 1, [], []) := by decide +kernel
theorem f146_223 : fr 146 223 = some (.iconst 6, 2, [], []) := by decide +kernel
theorem f146_225 : fr 146 225 = some (.newarray .int, 2, [], []) := by decide +kernel
theorem f146_227 : fr 146 227 = some (.putfield 11033, 3, [], []) := by decide +kernel
theorem f146_230 : fr 146 230 = some (.aload 0, 1, [], []) := by decide +kernel
theorem f146_231 : fr 146 231 = some (.iconst 6, 2, [], []) := by decide +kernel
theorem f146_233 : fr 146 233 = some (.newarray .int, 2, [], []) := by decide +kernel
theorem f146_235 : fr 146 235 = some (.putfield 11034, 3, [], []) := by decide +kernel
theorem f146_238 : fr 146 238 = some (.aload 0, 1, [], []) := by decide +kernel
theorem f146_239 : fr 146 239 = some (.iconst 360, 3, [], []) := by decide +kernel
theorem f146_242 : fr 146 242 = some (.newarray .long, 2, [], []) := by decide +kernel
theorem f146_244 : fr 146 244 = some (.putfield 11035, 3, [], []) := by decide +kernel
theorem f146_247 : fr 146 247 = some (.aload 0, 1, [], []) := by decide +kernel
theorem f146_248 : fr 146 248 = some (.iconst 8, 2, [], []) := by decide +kernel
theorem f146_250 : fr 146 250 = some (.newarray .int, 2, [], []) := by decide +kernel
theorem f146_252 : fr 146 252 = some (.putfield 11040, 3, [], []) := by decide +kernel
theorem f146_255 : fr 146 255 = some (.aload 0, 1, [], []) := by decide +kernel
theorem f146_256 : fr 146 256 = some (.iconst 130, 3, [], []) := by decide +kernel
theorem f146_259 : fr 146 259 = some (.newarray .int, 2, [], []) := by decide +kernel
theorem f146_261 : fr 146 261 = some (.putfield 11041, 3, [], []) := by decide +kernel
theorem f146_264 : fr 146 264 = some (.aload 0, 1, [], []) := by decide +kernel
theorem f146_265 : fr 146 265 = some (.iconst 8, 2, [], []) := by decide +kernel
theorem f146_267 : fr 146 267 = some (.newarray .int, 2, [], []) := by decide +kernel
theorem f146_269 : fr 146 269 = some (.putfield 11045, 3, [], []) := by decide +kernel
theorem f146_272 : fr 146 272 = some (.aload 0, 1, [], []) := by decide +kernel
theorem f146_273 : fr 146 273 = some (.iconst 8, 2, [], []) := by decide +kernel
theorem f146_275 : fr 146 275 = some (.newarray .int, 2, [], []) := by decide +kernel
theorem f146_277 : fr 146 277 = some (.putfield 11046, 3, [], []) := by decide +kernel
theorem f146_280 : fr 146 280 = some (.aload 0, 1, [], []) := by decide +kernel
theorem f146_281 : fr 146 281 = some (.iconst 3200, 3, [], []) := by decide +kernel
theorem f146_284 : fr 146 284 = some (.newarray .long, 2, [], []) := by decide +kernel
theorem f146_286 : fr 146 286 = some (.putfield 11047, 3, [], []) := by decide +kernel
theorem f146_289 : fr 146 289 = some (.aload 0, 1, [0], []) := by decide +kernel
theorem f146_290 : fr 146 290 = some (.iconst 60, 2, [], []) := by decide +kernel
theorem f146_292 : fr 146 292 = some (.newarray .long, 2, [], []) := by decide +kernel
theorem f146_294 : fr 146 294 = some (.putfield 11049, 3, [], []) := by decide +kernel
theorem f146_297 : fr 146 297 = some (.return_, 1, [], []) := by decide +kernel
theorem f147_0 : fr 147 0 = some (.iload 1, 1, [], []) := by decide +kernel
theorem f147_1 : fr 147 1 = some (.ifCond .lt 46, 3, [], [0, 1, 2, 3]) := by decide +kernel
theorem f147_4 : fr 147 4 = some (.iload 1, 1, [], []) := by decide +kernel
theorem f147_5 : fr 147 5 = some (.iconst 10, 2, [], []) := by decide +kernel
theorem f147_7 : fr 147 7 = some (.idiv, 1, [], []) := by decide +kernel
theorem f147_8 : fr 147 8 = some (.iconst 1, 1, [], []) := by decide +kernel
theorem f147_9 : fr 147 9 = some (.iconst 9, 2, [], []) := by decide +kernel
theorem f147_11 : fr 147 11 = some (.invokestatic 148, 3, [], []) := by decide +kernel
theorem f147_14 : fr 147 14 = some (.ifCond .eq 46, 3, [], [0, 1, 2, 3]) := by decide +kernel
theorem f147_17 : fr 147 17 = some (.iload 1, 1, [], []) := by decide +kernel
theorem f147_18 : fr 147 18 = some (.iconst 10, 2, [], []) := by decide +kernel
theorem f147_20 : fr 147 20 = some (.irem, 1, [], []) := by decide +kernel
theorem f147_21 : fr 147 21 = some (.iconst 1, 1, [], []) := by decide +kernel
theorem f147_22 : fr 147 22 = some (.if_icmp .gt 46, 3, [], [0, 1, 2, 3]) := by decide +kernel
theorem f147_25 : fr 147 25 = some (.iload 2, 1, [], []) := by decide +kernel
theorem f147_26 : fr 147 26 = some (.iconst 0, 1, [], []) := by decide +kernel
theorem f147_27 : fr 147 27 = some (.iconst 2000, 3, [], []) := by decide +kernel
theorem f147_30 : fr 147 30 = some (.invokestatic 148, 3, [], []) := by decide +kernel
theorem f147_33 : fr 147 33 = some (.ifCond .eq 46, 3, [], [0, 1, 2, 3]) := by decide +kernel
theorem f147_36 : fr 147 36 = some (.iload 3, 1, [], []) := by decide +kernel
theorem f147_37 : fr 147 37 = some (.iconst 1, 1, [], []) := by decide +kernel
theorem f147_38 : fr 147 38 = some (.iconst 99, 2, [], []) := by decide +kernel
theorem f147_40 : fr 147 40 = some (.invokestatic 148, 3, [], []) := by decide +kernel
theorem f147_43 : fr 147 43 = some (.ifCond .ne 48, 3, [0, 1, 2, 3], []) := by decide +kernel
theorem f147_46 : fr 147 46 = some (.iconst (-1), 1, [], []) := by decide +kernel
theorem f147_47 : fr 147 47 = some (.ireturn, 1, [], []) := by decide +kernel
theorem f147_48 : fr 147 48 = some (.aload 0, 1, [], []) := by decide +kernel
theorem f147_49 : fr 147 49 = some (.getfield 11000, 3, [], []) := by decide +kernel
theorem f147_52 : fr 147 52 = some (.iconst 40, 2, [], []) := by decide +kernel
theorem f147_54 : fr 147 54 = some (.if_icmp .ne 60, 3, [0, 1, 2, 3], []) := by decide +kernel
theorem f147_57 : fr 147 57 = some (.iconst (-3), 2, [], []) := by decide +kernel
theorem f147_59 : fr 147 59 = some (.ireturn, 1, [], []) := by decide +kernel
theorem f147_60 : fr 147 60 = some (.aload 0, 1, [], []) := by decide +kernel
theorem f147_61 : fr 147 61 = some (.getfield 11001, 3, [], []) := by decide +kernel
theorem f147_64 : fr 147 64 = some (.aload 0, 1, [], []) := by decide +kernel
theorem f147_65 : fr 147 65 = some (.getfield 11000, 3, [], []) := by decide +kernel
theorem f147_68 : fr 147 68 = some (.iload 1, 1, [], []) := by decide +kernel
theorem f147_69 : fr 147 69 = some (.iconst 10, 2, [], []) := by decide +kernel
theorem f147_71 : fr 147 71 = some (.idiv, 1, [], []) := by decide +kernel
theorem f147_72 : fr 147 72 = some (.iastore, 1, [], []) := by decide +kernel
theorem f147_73 : fr 147 73 = some (.aload 0, 1, [], []) := by decide +kernel
theorem f147_74 : fr 147 74 = some (.getfield 11002, 3, [], []) := by decide +kernel
theorem f147_77 : fr 147 77 = some (.aload 0, 1, [], []) := by decide +kernel
theorem f147_78 : fr 147 78 = some (.getfield 11000, 3, [], []) := by decide +kernel
theorem f147_81 : fr 147 81 = some (.iload 1, 1, [1], []) := by decide +kernel
theorem f147_82 : fr 147 82 = some (.iconst 10, 2, [], []) := by decide +kernel
theorem f147_84 : fr 147 84 = some (.irem, 1, [], []) := by decide +kernel
theorem f147_85 : fr 147 85 = some (.iastore, 1, [], []) := by decide +kernel
theorem f147_86 : fr 147 86 = some (.aload 0, 1, [], []) := by decide +kernel
theorem f147_87 : fr 147 87 = some (.getfield 11003, 3, [], []) := by decide +kernel
theorem f147_90 : fr 147 90 = some (.aload 0, 1, [], []) := by decide +kernel
theorem f147_91 : fr 147 91 = some (.getfield 11000, 3, [], []) := by decide +kernel
theorem f147_94 : fr 147 94 = some (.iload 2, 1, [2], []) := by decide +kernel
theorem f147_95 : fr 147 95 = some (.iastore, 1, [], []) := by decide +kernel
theorem f147_96 : fr 147 96 = some (.aload 0, 1, [], []) := by decide +kernel
theorem f147_97 : fr 147 97 = some (.getfield 11004, 3, [], []) := by decide +kernel
theorem f147_100 : fr 147 100 = some (.aload 0, 1, [], []) := by decide +kernel
theorem f147_101 : fr 147 101 = some (.getfield 11000, 3, [], []) := by decide +kernel
theorem f147_104 : fr 147 104 = some (.iload 3, 1, [3], []) := by decide +kernel
theorem f147_105 : fr 147 105 = some (.iastore, 1, [], []) := by decide +kernel
theorem f147_106 : fr 147 106 = some (.aload 0, 1, [], []) := by decide +kernel
theorem f147_107 : fr 147 107 = some (.dup, 1, [], []) := by decide +kernel
theorem f147_108 : fr 147 108 = some (.getfield 11000, 3, [], []) := by decide +kernel
theorem f147_111 : fr 147 111 = some (.iconst 1, 1, [], []) := by decide +kernel
theorem f147_112 : fr 147 112 = some (.iadd, 1, [], []) := by decide +kernel
theorem f147_113 : fr 147 113 = some (.putfield 11000, 3, [], []) := by decide +kernel
theorem f147_116 : fr 147 116 = some (.aload 0, 1, [0], []) := by decide +kernel
theorem f147_117 : fr 147 117 = some (.getfield 11000, 3, [], []) := by decide +kernel
theorem f147_120 : fr 147 120 = some (.iconst 1, 1, [], []) := by decide +kernel
theorem f147_121 : fr 147 121 = some (.isub, 1, [], []) := by decide +kernel
theorem f147_122 : fr 147 122 = some (.ireturn, 1, [], []) := by decide +kernel
theorem t147_0 {X : XX} {d : Nat} {sz sl : Nat} {sh : Nat → Nat × Nat} {R : Nat → Nat → Option Nat} {I : Nat → Nat → Int32} {J : Nat → Nat → Int64} {l1 : Int32} {l2 : Int32} {l3 : Int32} : exe X d 147 0 [Value.ref 37, Value.int l1, Value.int l2, Value.int l3] [] (sz, sl, sh, R, I, J) =
    (if l1 < 0 then some (some (Value.int (-1)), (sz, sl, sh, R, I, J)) else ((ev X d 148 [Value.int (l1 / (10)), Value.int (1), Value.int (9)] (sz, sl, sh, R, I, J)).bind fun q => exe X d 147 14 [Value.ref 37, Value.int l1, Value.int l2, Value.int l3] (q.1.toList ++ []) q.2)) :=
  tq ((E_iload (x := l1) rfl f147_0)) (tq ((E_if_lt f147_1)) (ite_c (tq ((E_iconst (x := (-1)) (by decide) f147_46)) ((E_iret pr_147 f147_47))) (tq ((E_iload (x := l1) rfl f147_4)) (tq ((E_iconst (x := (10)) (by decide) f147_5)) (tq ((E_idiv (by decide) f147_7)) (tq ((E_iconst (x := (1)) (by decide) f147_8)) (tq ((E_iconst (x := (9)) (by decide) f147_9)) ((E_callS pn_148 rfl rfl (Nat.le_of_ble_eq_true rfl) (Nat.le_of_ble_eq_true rfl) f147_11)))))))))
theorem t147_14 {X : XX} {d : Nat} {sz sl : Nat} {sh : Nat → Nat × Nat} {R : Nat → Nat → Option Nat} {I : Nat → Nat → Int32} {J : Nat → Nat → Int64} {l1 : Int32} {l2 : Int32} {l3 : Int32} {s0 : Int32} : exe X d 147 14 [Value.ref 37, Value.int l1, Value.int l2, Value.int l3] [Value.int s0] (sz, sl, sh, R, I, J) =
    (if s0 = 0 then some (some (Value.int (-1)), (sz, sl, sh, R, I, J)) else (if (1) < (l1 - l1 / (10) * (10)) then some (some (Value.int (-1)), (sz, sl, sh, R, I, J)) else ((ev X d 148 [Value.int l2, Value.int (0), Value.int (2000)] (sz, sl, sh, R, I, J)).bind fun q => exe X d 147 33 [Value.ref 37, Value.int l1, Value.int l2, Value.int l3] (q.1.toList ++ []) q.2))) :=
  tq ((E_if_eq f147_14)) (ite_c (tq ((E_iconst (x := (-1)) (by decide) f147_46)) ((E_iret pr_147 f147_47))) (tq ((E_iload (x := l1) rfl f147_17)) (tq ((E_iconst (x := (10)) (by decide) f147_18)) (tq ((E_irem (by decide) f147_20)) (tq ((E_iconst (x := (1)) (by decide) f147_21)) (tq ((E_ic_gt f147_22)) (ite_c (tq ((E_iconst (x := (-1)) (by decide) f147_46)) ((E_iret pr_147 f147_47))) (tq ((E_iload (x := l2) rfl f147_25)) (tq ((E_iconst (x := (0)) (by decide) f147_26)) (tq ((E_iconst (x := (2000)) (by decide) f147_27)) ((E_callS pn_148 rfl rfl (Nat.le_of_ble_eq_true rfl) (Nat.le_of_ble_eq_true rfl) f147_30))))))))))))
theorem t147_33 {X : XX} {d : Nat} {sz sl : Nat} {sh : Nat → Nat × Nat} {R : Nat → Nat → Option Nat} {I : Nat → Nat → Int32} {J : Nat → Nat → Int64} {l1 : Int32} {l2 : Int32} {l3 : Int32} {s0 : Int32} : exe X d 147 33 [Value.ref 37, Value.int l1, Value.int l2, Value.int l3] [Value.int s0] (sz, sl, sh, R, I, J) =
    (if s0 = 0 then some (some (Value.int (-1)), (sz, sl, sh, R, I, J)) else ((ev X d 148 [Value.int l3, Value.int (1), Value.int (99)] (sz, sl, sh, R, I, J)).bind fun q => exe X d 147 43 [Value.ref 37, Value.int l1, Value.int l2, Value.int l3] (q.1.toList ++ []) q.2)) :=
  tq ((E_if_eq f147_33)) (ite_c (tq ((E_iconst (x := (-1)) (by decide) f147_46)) ((E_iret pr_147 f147_47))) (tq ((E_iload (x := l3) rfl f147_36)) (tq ((E_iconst (x := (1)) (by decide) f147_37)) (tq ((E_iconst (x := (99)) (by decide) f147_38)) ((E_callS pn_148 rfl rfl (Nat.le_of_ble_eq_true rfl) (Nat.le_of_ble_eq_true rfl) f147_40))))))
theorem t147_43 {X : XX} {d : Nat} {sz sl : Nat} {sh : Nat → Nat × Nat} {R : Nat → Nat → Option Nat} {I : Nat → Nat → Int32} {J : Nat → Nat → Int64} (hS : SF sh R) {l1 : Int32} {l2 : Int32} {l3 : Int32} {s0 : Int32} : exe X d 147 43 [Value.ref 37, Value.int l1, Value.int l2, Value.int l3] [Value.int s0] (sz, sl, sh, R, I, J) =
    (if ¬ s0 = 0 then (if ¬ (I 37 0) = (40) then (if inb (I 37 0) 40 then (if inb (I 37 0) 40 then (if inb (I 37 0) 40 then (if inb (I 37 0) 40 then some (some (Value.int (((I 37 0) + (1)) - (1))), (sz, sl, sh, R, (u2 (u2 (u2 (u2 (u2 I 38 (I 37 0).toNatClampNeg (l1 / (10))) 39 (I 37 0).toNatClampNeg (l1 - l1 / (10) * (10))) 40 (I 37 0).toNatClampNeg l2) 41 (I 37 0).toNatClampNeg l3) 37 0 ((I 37 0) + (1))), J)) else none) else none) else none) else none) else some (some (Value.int (-3)), (sz, sl, sh, R, I, J))) else some (some (Value.int (-1)), (sz, sl, sh, R, I, J))) :=
  tq ((E_if_ne f147_43)) (ite_c (tq ((E_aload (v := Value.ref 37) rfl rfl f147_48)) (tq (tq ((G11000 f147_49)) (if_pos (zS37 hS))) (tq ((E_iconst (x := (40)) (by decide) f147_52)) (tq ((E_ic_ne f147_54)) (ite_c (tq ((E_aload (v := Value.ref 37) rfl rfl f147_60)) (tq (tq ((G11001 f147_61)) (if_pos (zS37 hS))) (tq (exe_R (zR37_1 hS)) (tq ((E_aload (v := Value.ref 37) rfl rfl f147_64)) (tq (tq ((G11000 f147_65)) (if_pos (zS37 hS))) (tq ((E_iload (x := l1) rfl f147_68)) (tq ((E_iconst (x := (10)) (by decide) f147_69)) (tq ((E_idiv (by decide) f147_71)) (tq (tq ((E_iast f147_72)) (ite_ar (zS38 hS))) (ite_c (tq ((E_aload (v := Value.ref 37) rfl rfl f147_73)) (tq (tq ((G11002 f147_74)) (if_pos (zS37 hS))) (tq (exe_R (zR37_2 hS)) (tq ((E_aload (v := Value.ref 37) rfl rfl f147_77)) (tq (tq (tq ((G11000 f147_78)) (if_pos (zS37 hS))) (exe_i (u2_pa (by decide)))) (tq ((E_iload (x := l1) rfl f147_81)) (tq ((E_iconst (x := (10)) (by decide) f147_82)) (tq ((E_irem (by decide) f147_84)) (tq (tq ((E_iast f147_85)) (ite_ar (zS39 hS))) (ite_c (tq ((E_aload (v := Value.ref 37) rfl rfl f147_86)) (tq (tq ((G11003 f147_87)) (if_pos (zS37 hS))) (tq (exe_R (zR37_3 hS)) (tq ((E_aload (v := Value.ref 37) rfl rfl f147_90)) (tq (tq (tq ((G11000 f147_91)) (if_pos (zS37 hS))) (exe_i (tq (u2_pa (by decide)) (u2_pa (by decide))))) (tq ((E_iload (x := l2) rfl f147_94)) (tq (tq ((E_iast f147_95)) (ite_ar (zS40 hS))) (ite_c (tq ((E_aload (v := Value.ref 37) rfl rfl f147_96)) (tq (tq ((G11004 f147_97)) (if_pos (zS37 hS))) (tq (exe_R (zR37_4 hS)) (tq ((E_aload (v := Value.ref 37) rfl rfl f147_100)) (tq (tq (tq ((G11000 f147_101)) (if_pos (zS37 hS))) (exe_i (tq (u2_pa (by decide)) (tq (u2_pa (by decide)) (u2_pa (by decide)))))) (tq ((E_iload (x := l3) rfl f147_104)) (tq (tq ((E_iast f147_105)) (ite_ar (zS41 hS))) (ite_c (tq ((E_aload (v := Value.ref 37) rfl rfl f147_106)) (tq ((E_dup rfl f147_107)) (tq (tq (tq ((G11000 f147_108)) (if_pos (zS37 hS))) (exe_i (tq (u2_pa (by decide)) (tq (u2_pa (by decide)) (tq (u2_pa (by decide)) (u2_pa (by decide))))))) (tq ((E_iconst (x := (1)) (by decide) f147_111)) (tq ((E_iadd f147_112)) (tq (tq ((P11000 f147_113)) (if_pos (zS37 hS))) (tq ((E_aload (v := Value.ref 37) rfl rfl f147_116)) (tq (tq (tq ((G11000 f147_117)) (if_pos (zS37 hS))) (exe_i (u2_at0))) (tq ((E_iconst (x := (1)) (by decide) f147_120)) (tq ((E_isub f147_121)) ((E_iret pr_147 f147_122)))))))))))) rfl)))))))) rfl)))))))) rfl)))))))))) rfl)))))))))) (tq ((E_iconst (x := (-3)) (by decide) f147_57)) ((E_iret pr_147 f147_59)))))))) (tq ((E_iconst (x := (-1)) (by decide) f147_46)) ((E_iret pr_147 f147_47))))
theorem n147 {X : XX} {d : Nat} {h : HP} {a0 : Int32} {a1 : Int32} {a2 : Int32} : ev X (d + 1) 147 [Value.ref 37, Value.int a0, Value.int a1, Value.int a2] h = exe X d 147 0 [Value.ref 37, Value.int a0, Value.int a1, Value.int a2] [] h := ev_exe (Nat.le_of_ble_eq_true rfl)
theorem f148_0 : fr 148 0 = some (.iload 0, 1, [], []) := by decide +kernel
theorem f148_1 : fr 148 1 = some (.iload 1, 1, [1], []) := by decide +kernel
theorem f148_2 : fr 148 2 = some (.if_icmp .lt 14, 3, [], [0, 2]) := by decide +kernel
theorem f148_5 : fr 148 5 = some (.iload 0, 1, [0], []) := by decide +kernel
theorem f148_6 : fr 148 6 = some (.iload 2, 1, [2], []) := by decide +kernel
theorem f148_7 : fr 148 7 = some (.if_icmp .gt 14, 3, [], []) := by decide +kernel
theorem f148_10 : fr 148 10 = some (.iconst 1, 1, [], []) := by decide +kernel
theorem f148_11 : fr 148 11 = some (.goto 15, 3, [], []) := by decide +kernel
theorem f148_14 : fr 148 14 = some (.iconst 0, 1, [], []) := by decide +kernel
theorem f148_15 : fr 148 15 = some (.ireturn, 1, [], []) := by decide +kernel
theorem t148_0 {X : XX} {d : Nat} {sz sl : Nat} {sh : Nat → Nat × Nat} {R : Nat → Nat → Option Nat} {I : Nat → Nat → Int32} {J : Nat → Nat → Int64} {l0 : Int32} {l1 : Int32} {l2 : Int32} : exe X d 148 0 [Value.int l0, Value.int l1, Value.int l2] [] (sz, sl, sh, R, I, J) =
    (if l0 < l1 then some (some (Value.int (0)), (sz, sl, sh, R, I, J)) else (if l2 < l0 then some (some (Value.int (0)), (sz, sl, sh, R, I, J)) else some (some (Value.int (1)), (sz, sl, sh, R, I, J)))) :=
  tq ((E_iload (x := l0) rfl f148_0)) (tq ((E_iload (x := l1) rfl f148_1)) (tq ((E_ic_lt f148_2)) (ite_c (tq ((E_iconst (x := (0)) (by decide) f148_14)) (tq (E_zret pr_148 f148_15) (if_pos (by decide)))) (tq ((E_iload (x := l0) rfl f148_5)) (tq ((E_iload (x := l2) rfl f148_6)) (tq ((E_ic_gt f148_7)) (ite_c (tq ((E_iconst (x := (0)) (by decide) f148_14)) (tq (E_zret pr_148 f148_15) (if_pos (by decide)))) (tq ((E_iconst (x := (1)) (by decide) f148_10)) (tq ((E_goto f148_11)) (tq (E_zret pr_148 f148_15) (if_pos (by decide))))))))))))
theorem n148 {X : XX} {d : Nat} {h : HP} {a0 : Int32} {a1 : Int32} {a2 : Int32} : ev X (d + 1) 148 [Value.int a0, Value.int a1, Value.int a2] h = exe X d 148 0 [Value.int a0, Value.int a1, Value.int a2] [] h := ev_exe (Nat.le_of_ble_eq_true rfl)
theorem f149_0 : fr 149 0 = some (.aload 0, 1, [], []) := by decide +kernel
theorem f149_1 : fr 149 1 = some (.iload 1, 1, [], []) := by decide +kernel
theorem f149_2 : fr 149 2 = some (.invokevirtual 150, 3, [], []) := by decide +kernel
theorem f149_5 : fr 149 5 = some (.ifCond .ne 10, 3, [0, 1, 2], []) := by decide +kernel
theorem f149_8 : fr 149 8 = some (.iconst (-1), 1, [], []) := by decide +kernel
theorem f149_9 : fr 149 9 = some (.ireturn, 1, [], []) := by decide +kernel
theorem f149_10 : fr 149 10 = some (.iload 2, 1, [], []) := by decide +kernel
theorem f149_11 : fr 149 11 = some (.iconst 10, 2, [], []) := by decide +kernel
theorem f149_13 : fr 149 13 = some (.iconst 17, 2, [], []) := by decide +kernel
theorem f149_15 : fr 149 15 = some (.invokestatic 148, 3, [], []) := by decide +kernel
theorem f149_18 : fr 149 18 = some (.ifCond .eq 36, 3, [], []) := by decide +kernel
theorem f149_21 : fr 149 21 = some (.aload 0, 1, [0], []) := by decide +kernel
theorem f149_22 : fr 149 22 = some (.getfield 11005, 3, [], []) := by decide +kernel
theorem f149_25 : fr 149 25 = some (.iconst 8, 2, [], []) := by decide +kernel
theorem f149_27 : fr 149 27 = some (.iload 1, 1, [1], []) := by decide +kernel
theorem f149_28 : fr 149 28 = some (.imul, 1, [], []) := by decide +kernel
theorem f149_29 : fr 149 29 = some (.iload 2, 1, [2], []) := by decide +kernel
theorem f149_30 : fr 149 30 = some (.iadd, 1, [], []) := by decide +kernel
theorem f149_31 : fr 149 31 = some (.iconst 10, 2, [], []) := by decide +kernel
theorem f149_33 : fr 149 33 = some (.isub, 1, [], []) := by decide +kernel
theorem f149_34 : fr 149 34 = some (.iaload, 1, [], []) := by decide +kernel
theorem f149_35 : fr 149 35 = some (.ireturn, 1, [], []) := by decide +kernel
theorem f149_36 : fr 149 36 = some (.iload 2, 1, [2], []) := by decide +kernel
theorem f149_37 : fr 149 37 = some (.lookupswitch 125 #[(0, 76), (1, 83), (2, 90), (3, 97), (4, 104), (5, 110)], 39, [], []) := by decide +kernel
theorem f149_76 : fr 149 76 = some (.aload 0, 1, [0], []) := by decide +kernel
theorem f149_77 : fr 149 77 = some (.getfield 11001, 3, [], []) := by decide +kernel
theorem f149_80 : fr 149 80 = some (.iload 1, 1, [1], []) := by decide +kernel
theorem f149_81 : fr 149 81 = some (.iaload, 1, [], []) := by decide +kernel
theorem f149_82 : fr 149 82 = some (.ireturn, 1, [], []) := by decide +kernel
theorem f149_83 : fr 149 83 = some (.aload 0, 1, [0], []) := by decide +kernel
theorem f149_84 : fr 149 84 = some (.getfield 11002, 3, [], []) := by decide +kernel
theorem f149_87 : fr 149 87 = some (.iload 1, 1, [1], []) := by decide +kernel
theorem f149_88 : fr 149 88 = some (.iaload, 1, [], []) := by decide +kernel
theorem f149_89 : fr 149 89 = some (.ireturn, 1, [], []) := by decide +kernel
theorem f149_90 : fr 149 90 = some (.aload 0, 1, [0], []) := by decide +kernel
theorem f149_91 : fr 149 91 = some (.getfield 11003, 3, [], []) := by decide +kernel
theorem f149_94 : fr 149 94 = some (.iload 1, 1, [1], []) := by decide +kernel
theorem f149_95 : fr 149 95 = some (.iaload, 1, [], []) := by decide +kernel
theorem f149_96 : fr 149 96 = some (.ireturn, 1, [], []) := by decide +kernel
theorem f149_97 : fr 149 97 = some (.aload 0, 1, [0], []) := by decide +kernel
theorem f149_98 : fr 149 98 = some (.getfield 11004, 3, [], []) := by decide +kernel
theorem f149_101 : fr 149 101 = some (.iload 1, 1, [1], []) := by decide +kernel
theorem f149_102 : fr 149 102 = some (.iaload, 1, [], []) := by decide +kernel
theorem f149_103 : fr 149 103 = some (.ireturn, 1, [], []) := by decide +kernel
theorem f149_104 : fr 149 104 = some (.aload 0, 1, [0], []) := by decide +kernel
theorem f149_105 : fr 149 105 = some (.iload 1, 1, [1], []) := by decide +kernel
theorem f149_106 : fr 149 106 = some (.invokevirtual 151, 3, [], []) := by decide +kernel
theorem f149_109 : fr 149 109 = some (.ireturn, 1, [], []) := by decide +kernel
theorem f149_110 : fr 149 110 = some (.aload 0, 1, [0], []) := by decide +kernel
theorem f149_111 : fr 149 111 = some (.getfield 11007, 3, [], []) := by decide +kernel
theorem f149_114 : fr 149 114 = some (.iload 1, 1, [1], []) := by decide +kernel
theorem f149_115 : fr 149 115 = some (.baload, 1, [], []) := by decide +kernel
theorem f149_116 : fr 149 116 = some (.ifCond .eq 123, 3, [], []) := by decide +kernel
theorem f149_119 : fr 149 119 = some (.iconst 1, 1, [], []) := by decide +kernel
theorem f149_120 : fr 149 120 = some (.goto 124, 3, [], []) := by decide +kernel
theorem f149_123 : fr 149 123 = some (.iconst 0, 1, [], []) := by decide +kernel
theorem f149_124 : fr 149 124 = some (.ireturn, 1, [], []) := by decide +kernel
theorem f149_125 : fr 149 125 = some (.iconst (-1), 1, [0, 1], []) := by decide +kernel
theorem f149_126 : fr 149 126 = some (.ireturn, 1, [], []) := by decide +kernel
theorem t149_0 {X : XX} {d : Nat} {sz sl : Nat} {sh : Nat → Nat × Nat} {R : Nat → Nat → Option Nat} {I : Nat → Nat → Int32} {J : Nat → Nat → Int64} (hS : SF sh R) {l1 : Int32} {l2 : Int32} : exe X d 149 0 [Value.ref 37, Value.int l1, Value.int l2] [] (sz, sl, sh, R, I, J) =
    ((ev X d 150 [Value.ref 37, Value.int l1] (sz, sl, sh, R, I, J)).bind fun q => exe X d 149 5 [Value.ref 37, Value.int l1, Value.int l2] (q.1.toList ++ []) q.2) :=
  tq ((E_aload (v := Value.ref 37) rfl rfl f149_0)) (tq ((E_iload (x := l1) rfl f149_1)) ((tq ((E_callV pn_150 pc_150 rfl rfl (Nat.le_of_ble_eq_true rfl) f149_2)) (if_pos (zS37 hS)))))
theorem t149_5 {X : XX} {d : Nat} {sz sl : Nat} {sh : Nat → Nat × Nat} {R : Nat → Nat → Option Nat} {I : Nat → Nat → Int32} {J : Nat → Nat → Int64} {l1 : Int32} {l2 : Int32} {s0 : Int32} : exe X d 149 5 [Value.ref 37, Value.int l1, Value.int l2] [Value.int s0] (sz, sl, sh, R, I, J) =
    (if ¬ s0 = 0 then ((ev X d 148 [Value.int l2, Value.int (10), Value.int (17)] (sz, sl, sh, R, I, J)).bind fun q => exe X d 149 18 [Value.ref 37, Value.int l1, Value.int l2] (q.1.toList ++ []) q.2) else some (some (Value.int (-1)), (sz, sl, sh, R, I, J))) :=
  tq ((E_if_ne f149_5)) (ite_c (tq ((E_iload (x := l2) rfl f149_10)) (tq ((E_iconst (x := (10)) (by decide) f149_11)) (tq ((E_iconst (x := (17)) (by decide) f149_13)) ((E_callS pn_148 rfl rfl (Nat.le_of_ble_eq_true rfl) (Nat.le_of_ble_eq_true rfl) f149_15))))) (tq ((E_iconst (x := (-1)) (by decide) f149_8)) ((E_iret pr_149 f149_9))))
theorem t149_18 {X : XX} {d : Nat} {sz sl : Nat} {sh : Nat → Nat × Nat} {R : Nat → Nat → Option Nat} {I : Nat → Nat → Int32} {J : Nat → Nat → Int64} (hS : SF sh R) {l1 : Int32} {l2 : Int32} {s0 : Int32} : exe X d 149 18 [Value.ref 37, Value.int l1, Value.int l2] [Value.int s0] (sz, sl, sh, R, I, J) =
    (if s0 = 0 then (if l2 = (0) then (if inb l1 40 then some (some (Value.int (I 38 l1.toNatClampNeg)), (sz, sl, sh, R, I, J)) else none) else (if l2 = (1) then (if inb l1 40 then some (some (Value.int (I 39 l1.toNatClampNeg)), (sz, sl, sh, R, I, J)) else none) else (if l2 = (2) then (if inb l1 40 then some (some (Value.int (I 40 l1.toNatClampNeg)), (sz, sl, sh, R, I, J)) else none) else (if l2 = (3) then (if inb l1 40 then some (some (Value.int (I 41 l1.toNatClampNeg)), (sz, sl, sh, R, I, J)) else none) else (if l2 = (4) then ((ev X d 151 [Value.ref 37, Value.int l1] (sz, sl, sh, R, I, J)).bind fun q => exe X d 149 109 [dm, dm, dm] (q.1.toList ++ []) q.2) else (if l2 = (5) then (if inb l1 40 then (if (I 44 l1.toNatClampNeg) = 0 then some (some (Value.int (0)), (sz, sl, sh, R, I, J)) else some (some (Value.int (1)), (sz, sl, sh, R, I, J))) else none) else some (some (Value.int (-1)), (sz, sl, sh, R, I, J)))))))) else (if inb ((((8) * l1) + l2) - (10)) 320 then some (some (Value.int (I 42 ((((8) * l1) + l2) - (10)).toNatClampNeg)), (sz, sl, sh, R, I, J)) else none)) :=
  tq ((E_if_eq f149_18)) (ite_c (tq ((E_iload (x := l2) rfl f149_36)) (tq ((E_sw f149_37)) (sw_c (by decide) (tq ((E_aload (v := Value.ref 37) rfl rfl f149_76)) (tq (tq ((G11001 f149_77)) (if_pos (zS37 hS))) (tq (exe_R (zR37_1 hS)) (tq ((E_iload (x := l1) rfl f149_80)) (tq (tq ((E_iald f149_81)) (ite_ar (zS38 hS))) (ite_c ((E_iret pr_149 f149_82)) rfl)))))) (sw_c (by decide) (tq ((E_aload (v := Value.ref 37) rfl rfl f149_83)) (tq (tq ((G11002 f149_84)) (if_pos (zS37 hS))) (tq (exe_R (zR37_2 hS)) (tq ((E_iload (x := l1) rfl f149_87)) (tq (tq ((E_iald f149_88)) (ite_ar (zS39 hS))) (ite_c ((E_iret pr_149 f149_89)) rfl)))))) (sw_c (by decide) (tq ((E_aload (v := Value.ref 37) rfl rfl f149_90)) (tq (tq ((G11003 f149_91)) (if_pos (zS37 hS))) (tq (exe_R (zR37_3 hS)) (tq ((E_iload (x := l1) rfl f149_94)) (tq (tq ((E_iald f149_95)) (ite_ar (zS40 hS))) (ite_c ((E_iret pr_149 f149_96)) rfl)))))) (sw_c (by decide) (tq ((E_aload (v := Value.ref 37) rfl rfl f149_97)) (tq (tq ((G11004 f149_98)) (if_pos (zS37 hS))) (tq (exe_R (zR37_4 hS)) (tq ((E_iload (x := l1) rfl f149_101)) (tq (tq ((E_iald f149_102)) (ite_ar (zS41 hS))) (ite_c ((E_iret pr_149 f149_103)) rfl)))))) (sw_c (by decide) (tq ((E_aload (v := Value.ref 37) rfl rfl f149_104)) (tq ((E_iload (x := l1) rfl f149_105)) ((tq ((E_callV pn_151 pc_151 rfl rfl (Nat.le_of_ble_eq_true rfl) f149_106)) (if_pos (zS37 hS)))))) (sw_c (by decide) (tq ((E_aload (v := Value.ref 37) rfl rfl f149_110)) (tq (tq ((G11007 f149_111)) (if_pos (zS37 hS))) (tq (exe_R (zR37_7 hS)) (tq ((E_iload (x := l1) rfl f149_114)) (tq (tq ((E_zald f149_115)) (ite_ar (zS44 hS))) (ite_c (tq ((E_if_eq f149_116)) (ite_c (tq ((E_iconst (x := (0)) (by decide) f149_123)) ((E_iret pr_149 f149_124))) (tq ((E_iconst (x := (1)) (by decide) f149_119)) (tq ((E_goto f149_120)) ((E_iret pr_149 f149_124)))))) rfl)))))) (tq ((E_iconst (x := (-1)) (by decide) f149_125)) ((E_iret pr_149 f149_126))))))))))) (tq ((E_aload (v := Value.ref 37) rfl rfl f149_21)) (tq (tq ((G11005 f149_22)) (if_pos (zS37 hS))) (tq (exe_R (zR37_5 hS)) (tq ((E_iconst (x := (8)) (by decide) f149_25)) (tq ((E_iload (x := l1) rfl f149_27)) (tq ((E_imul f149_28)) (tq ((E_iload (x := l2) rfl f149_29)) (tq ((E_iadd f149_30)) (tq ((E_iconst (x := (10)) (by decide) f149_31)) (tq ((E_isub f149_33)) (tq (tq ((E_iald f149_34)) (ite_ar (zS42 hS))) (ite_c ((E_iret pr_149 f149_35)) rfl)))))))))))))
theorem t149_109 {X : XX} {d : Nat} {sz sl : Nat} {sh : Nat → Nat × Nat} {R : Nat → Nat → Option Nat} {I : Nat → Nat → Int32} {J : Nat → Nat → Int64} {s0 : Int32} : exe X d 149 109 [dm, dm, dm] [Value.int s0] (sz, sl, sh, R, I, J) =
    some (some (Value.int s0), (sz, sl, sh, R, I, J)) :=
  (E_iret pr_149 f149_109)
theorem n149 {X : XX} {d : Nat} {h : HP} {a0 : Int32} {a1 : Int32} : ev X (d + 1) 149 [Value.ref 37, Value.int a0, Value.int a1] h = exe X d 149 0 [Value.ref 37, Value.int a0, Value.int a1] [] h := ev_exe (Nat.le_of_ble_eq_true rfl)
theorem f150_0 : fr 150 0 = some (.iload 1, 1, [1], []) := by decide +kernel
theorem f150_1 : fr 150 1 = some (.iconst 0, 1, [], []) := by decide +kernel
theorem f150_2 : fr 150 2 = some (.aload 0, 1, [0], []) := by decide +kernel
theorem f150_3 : fr 150 3 = some (.getfield 11000, 3, [], []) := by decide +kernel
theorem f150_6 : fr 150 6 = some (.iconst 1, 1, [], []) := by decide +kernel
theorem f150_7 : fr 150 7 = some (.isub, 1, [], []) := by decide +kernel
theorem f150_8 : fr 150 8 = some (.invokestatic 148, 3, [], []) := by decide +kernel
theorem f150_11 : fr 150 11 = some (.ireturn, 1, [], []) := by decide +kernel
theorem t150_0 {X : XX} {d : Nat} {sz sl : Nat} {sh : Nat → Nat × Nat} {R : Nat → Nat → Option Nat} {I : Nat → Nat → Int32} {J : Nat → Nat → Int64} (hS : SF sh R) {l1 : Int32} : exe X d 150 0 [Value.ref 37, Value.int l1] [] (sz, sl, sh, R, I, J) =
    ((ev X d 148 [Value.int l1, Value.int (0), Value.int ((I 37 0) - (1))] (sz, sl, sh, R, I, J)).bind fun q => exe X d 150 11 [dm, dm] (q.1.toList ++ []) q.2) :=
  tq ((E_iload (x := l1) rfl f150_0)) (tq ((E_iconst (x := (0)) (by decide) f150_1)) (tq ((E_aload (v := Value.ref 37) rfl rfl f150_2)) (tq (tq ((G11000 f150_3)) (if_pos (zS37 hS))) (tq ((E_iconst (x := (1)) (by decide) f150_6)) (tq ((E_isub f150_7)) ((E_callS pn_148 rfl rfl (Nat.le_of_ble_eq_true rfl) (Nat.le_of_ble_eq_true rfl) f150_8)))))))
theorem t150_11 {X : XX} {d : Nat} {sz sl : Nat} {sh : Nat → Nat × Nat} {R : Nat → Nat → Option Nat} {I : Nat → Nat → Int32} {J : Nat → Nat → Int64} {s0 : Int32} : exe X d 150 11 [dm, dm] [Value.int s0] (sz, sl, sh, R, I, J) =
    (if s0 = 0 ∨ s0 = 1 then some (some (Value.int s0), (sz, sl, sh, R, I, J)) else none) :=
  (E_zret pr_150 f150_11)
theorem n150 {X : XX} {d : Nat} {h : HP} {a0 : Int32} : ev X (d + 1) 150 [Value.ref 37, Value.int a0] h = exe X d 150 0 [Value.ref 37, Value.int a0] [] h := ev_exe (Nat.le_of_ble_eq_true rfl)
theorem f151_0 : fr 151 0 = some (.iload 1, 1, [], []) := by decide +kernel
theorem f151_1 : fr 151 1 = some (.ifCond .ne 8, 3, [0, 1], []) := by decide +kernel
theorem f151_4 : fr 151 4 = some (.iconst 0, 1, [], []) := by decide +kernel
theorem f151_5 : fr 151 5 = some (.goto 28, 3, [], []) := by decide +kernel
theorem f151_8 : fr 151 8 = some (.aload 0, 1, [], []) := by decide +kernel
theorem f151_9 : fr 151 9 = some (.getfield 11004, 3, [], []) := by decide +kernel
theorem f151_12 : fr 151 12 = some (.iload 1, 1, [], []) := by decide +kernel
theorem f151_13 : fr 151 13 = some (.iaload, 1, [], []) := by decide +kernel
theorem f151_14 : fr 151 14 = some (.aload 0, 1, [0], []) := by decide +kernel
theorem f151_15 : fr 151 15 = some (.getfield 11004, 3, [], []) := by decide +kernel
theorem f151_18 : fr 151 18 = some (.iload 1, 1, [1], []) := by decide +kernel
theorem f151_19 : fr 151 19 = some (.iconst 1, 1, [], []) := by decide +kernel
theorem f151_20 : fr 151 20 = some (.isub, 1, [], []) := by decide +kernel
theorem f151_21 : fr 151 21 = some (.iaload, 1, [], []) := by decide +kernel
theorem f151_22 : fr 151 22 = some (.isub, 1, [], []) := by decide +kernel
theorem f151_23 : fr 151 23 = some (.i2l, 1, [], []) := by decide +kernel
theorem f151_24 : fr 151 24 = some (.invokestatic 152, 3, [], []) := by decide +kernel
theorem f151_27 : fr 151 27 = some (.l2i, 1, [], []) := by decide +kernel
theorem f151_28 : fr 151 28 = some (.ireturn, 1, [], []) := by decide +kernel
theorem t151_0 {X : XX} {d : Nat} {sz sl : Nat} {sh : Nat → Nat × Nat} {R : Nat → Nat → Option Nat} {I : Nat → Nat → Int32} {J : Nat → Nat → Int64} (hS : SF sh R) {l1 : Int32} : exe X d 151 0 [Value.ref 37, Value.int l1] [] (sz, sl, sh, R, I, J) =
    (if ¬ l1 = 0 then (if inb l1 40 then (if inb (l1 - (1)) 40 then ((ev X d 152 [Value.long (Int32.toInt64 ((I 41 l1.toNatClampNeg) - (I 41 (l1 - (1)).toNatClampNeg)))] (sz, sl, sh, R, I, J)).bind fun q => exe X d 151 27 [dm, dm] (q.1.toList ++ []) q.2) else none) else none) else some (some (Value.int (0)), (sz, sl, sh, R, I, J))) :=
  tq ((E_iload (x := l1) rfl f151_0)) (tq ((E_if_ne f151_1)) (ite_c (tq ((E_aload (v := Value.ref 37) rfl rfl f151_8)) (tq (tq ((G11004 f151_9)) (if_pos (zS37 hS))) (tq (exe_R (zR37_4 hS)) (tq ((E_iload (x := l1) rfl f151_12)) (tq (tq ((E_iald f151_13)) (ite_ar (zS41 hS))) (ite_c (tq ((E_aload (v := Value.ref 37) rfl rfl f151_14)) (tq (tq ((G11004 f151_15)) (if_pos (zS37 hS))) (tq (exe_R (zR37_4 hS)) (tq ((E_iload (x := l1) rfl f151_18)) (tq ((E_iconst (x := (1)) (by decide) f151_19)) (tq ((E_isub f151_20)) (tq (tq ((E_iald f151_21)) (ite_ar (zS41 hS))) (ite_c (tq ((E_isub f151_22)) (tq ((E_i2l f151_23)) ((E_callS pn_152 rfl rfl (Nat.le_of_ble_eq_true rfl) (Nat.le_of_ble_eq_true rfl) f151_24)))) rfl)))))))) rfl)))))) (tq ((E_iconst (x := (0)) (by decide) f151_4)) (tq ((E_goto f151_5)) ((E_iret pr_151 f151_28))))))
theorem t151_27 {X : XX} {d : Nat} {sz sl : Nat} {sh : Nat → Nat × Nat} {R : Nat → Nat → Option Nat} {I : Nat → Nat → Int32} {J : Nat → Nat → Int64} {s0 : Int64} : exe X d 151 27 [dm, dm] [Value.long s0] (sz, sl, sh, R, I, J) =
    some (some (Value.int (Int64.toInt32 s0)), (sz, sl, sh, R, I, J)) :=
  tq ((E_l2i f151_27)) ((E_iret pr_151 f151_28))
theorem n151 {X : XX} {d : Nat} {h : HP} {a0 : Int32} : ev X (d + 1) 151 [Value.ref 37, Value.int a0] h = exe X d 151 0 [Value.ref 37, Value.int a0] [] h := ev_exe (Nat.le_of_ble_eq_true rfl)
theorem f152_0 : fr 152 0 = some (.lload 0, 1, [], []) := by decide +kernel
theorem f152_1 : fr 152 1 = some (.jsr_w 0, 1, [], []) := by decide +kernel
theorem f152_2 : fr 152 2 = some (.lcmp, 1, [], []) := by decide +kernel
theorem f152_3 : fr 152 3 = some (.ifCond .ge 11, 3, [], []) := by decide +kernel
theorem f152_6 : fr 152 6 = some (.lload 0, 1, [0], []) := by decide +kernel
theorem f152_7 : fr 152 7 = some (.lneg, 1, [], []) := by decide +kernel
theorem f152_8 : fr 152 8 = some (.goto 12, 3, [], []) := by decide +kernel
theorem f152_11 : fr 152 11 = some (.lload 0, 1, [0], []) := by decide +kernel
theorem f152_12 : fr 152 12 = some (.lreturn, 1, [], []) := by decide +kernel
theorem t152_0 {X : XX} {d : Nat} {sz sl : Nat} {sh : Nat → Nat × Nat} {R : Nat → Nat → Option Nat} {I : Nat → Nat → Int32} {J : Nat → Nat → Int64} {l0 : Int64} : exe X d 152 0 [Value.long l0, dm] [] (sz, sl, sh, R, I, J) =
    (if 0 ≤ (lg_cmp l0 (0)) then some (some (Value.long l0), (sz, sl, sh, R, I, J)) else some (some (Value.long (-l0)), (sz, sl, sh, R, I, J))) :=
  tq ((E_lload (x := l0) rfl f152_0)) (tq ((E_lconst (x := (0)) (by decide) f152_1)) (tq ((E_lcmp f152_2)) (tq ((E_if_ge f152_3)) (ite_c (tq ((E_lload (x := l0) rfl f152_11)) ((E_lret pr_152 f152_12))) (tq ((E_lload (x := l0) rfl f152_6)) (tq ((E_lneg f152_7)) (tq ((E_goto f152_8)) ((E_lret pr_152 f152_12)))))))))
theorem n152 {X : XX} {d : Nat} {h : HP} {a0 : Int64} : ev X (d + 1) 152 [Value.long a0] h = exe X d 152 0 [Value.long a0, dm] [] h := ev_exe (Nat.le_of_ble_eq_true rfl)
theorem f153_0 : fr 153 0 = some (.aload 0, 1, [], []) := by decide +kernel
theorem f153_1 : fr 153 1 = some (.iload 1, 1, [], []) := by decide +kernel
theorem f153_2 : fr 153 2 = some (.invokevirtual 154, 3, [], []) := by decide +kernel
theorem f153_5 : fr 153 5 = some (.ifCond .eq 27, 3, [], [0, 1, 2]) := by decide +kernel
theorem f153_8 : fr 153 8 = some (.iload 2, 1, [], []) := by decide +kernel
theorem f153_9 : fr 153 9 = some (.iconst 0, 1, [], []) := by decide +kernel
theorem f153_10 : fr 153 10 = some (.iconst 99999, 2, [], []) := by decide +kernel
theorem f153_12 : fr 153 12 = some (.invokestatic 148, 3, [], []) := by decide +kernel
theorem f153_15 : fr 153 15 = some (.ifCond .eq 27, 3, [], [0, 1, 2]) := by decide +kernel
theorem f153_18 : fr 153 18 = some (.aload 0, 1, [0], []) := by decide +kernel
theorem f153_19 : fr 153 19 = some (.iload 1, 1, [1], []) := by decide +kernel
theorem f153_20 : fr 153 20 = some (.iload 2, 1, [2], []) := by decide +kernel
theorem f153_21 : fr 153 21 = some (.invokevirtual 155, 3, [], []) := by decide +kernel
theorem f153_24 : fr 153 24 = some (.goto 28, 3, [], []) := by decide +kernel
theorem f153_27 : fr 153 27 = some (.iconst (-1), 1, [], []) := by decide +kernel
theorem f153_28 : fr 153 28 = some (.ireturn, 1, [], []) := by decide +kernel
theorem t153_0 {X : XX} {d : Nat} {sz sl : Nat} {sh : Nat → Nat × Nat} {R : Nat → Nat → Option Nat} {I : Nat → Nat → Int32} {J : Nat → Nat → Int64} (hS : SF sh R) {l1 : Int32} {l2 : Int32} : exe X d 153 0 [Value.ref 37, Value.int l1, Value.int l2] [] (sz, sl, sh, R, I, J) =
    ((ev X d 154 [Value.ref 37, Value.int l1] (sz, sl, sh, R, I, J)).bind fun q => exe X d 153 5 [Value.ref 37, Value.int l1, Value.int l2] (q.1.toList ++ []) q.2) :=
  tq ((E_aload (v := Value.ref 37) rfl rfl f153_0)) (tq ((E_iload (x := l1) rfl f153_1)) ((tq ((E_callV pn_154 pc_154 rfl rfl (Nat.le_of_ble_eq_true rfl) f153_2)) (if_pos (zS37 hS)))))
theorem t153_5 {X : XX} {d : Nat} {sz sl : Nat} {sh : Nat → Nat × Nat} {R : Nat → Nat → Option Nat} {I : Nat → Nat → Int32} {J : Nat → Nat → Int64} {l1 : Int32} {l2 : Int32} {s0 : Int32} : exe X d 153 5 [Value.ref 37, Value.int l1, Value.int l2] [Value.int s0] (sz, sl, sh, R, I, J) =
    (if s0 = 0 then some (some (Value.int (-1)), (sz, sl, sh, R, I, J)) else ((ev X d 148 [Value.int l2, Value.int (0), Value.int (99999)] (sz, sl, sh, R, I, J)).bind fun q => exe X d 153 15 [Value.ref 37, Value.int l1, Value.int l2] (q.1.toList ++ []) q.2)) :=
  tq ((E_if_eq f153_5)) (ite_c (tq ((E_iconst (x := (-1)) (by decide) f153_27)) ((E_iret pr_153 f153_28))) (tq ((E_iload (x := l2) rfl f153_8)) (tq ((E_iconst (x := (0)) (by decide) f153_9)) (tq ((E_iconst (x := (99999)) (by decide) f153_10)) ((E_callS pn_148 rfl rfl (Nat.le_of_ble_eq_true rfl) (Nat.le_of_ble_eq_true rfl) f153_12))))))
theorem t153_15 {X : XX} {d : Nat} {sz sl : Nat} {sh : Nat → Nat × Nat} {R : Nat → Nat → Option Nat} {I : Nat → Nat → Int32} {J : Nat → Nat → Int64} (hS : SF sh R) {l1 : Int32} {l2 : Int32} {s0 : Int32} : exe X d 153 15 [Value.ref 37, Value.int l1, Value.int l2] [Value.int s0] (sz, sl, sh, R, I, J) =
    (if s0 = 0 then some (some (Value.int (-1)), (sz, sl, sh, R, I, J)) else ((ev X d 155 [Value.ref 37, Value.int l1, Value.int l2] (sz, sl, sh, R, I, J)).bind fun q => exe X d 153 24 [dm, dm, dm] (q.1.toList ++ []) q.2)) :=
  tq ((E_if_eq f153_15)) (ite_c (tq ((E_iconst (x := (-1)) (by decide) f153_27)) ((E_iret pr_153 f153_28))) (tq ((E_aload (v := Value.ref 37) rfl rfl f153_18)) (tq ((E_iload (x := l1) rfl f153_19)) (tq ((E_iload (x := l2) rfl f153_20)) ((tq ((E_callV pn_155 pc_155 rfl rfl (Nat.le_of_ble_eq_true rfl) f153_21)) (if_pos (zS37 hS))))))))
theorem t153_24 {X : XX} {d : Nat} {sz sl : Nat} {sh : Nat → Nat × Nat} {R : Nat → Nat → Option Nat} {I : Nat → Nat → Int32} {J : Nat → Nat → Int64} {s0 : Int32} : exe X d 153 24 [dm, dm, dm] [Value.int s0] (sz, sl, sh, R, I, J) =
    some (some (Value.int s0), (sz, sl, sh, R, I, J)) :=
  tq ((E_goto f153_24)) ((E_iret pr_153 f153_28))
theorem n153 {X : XX} {d : Nat} {h : HP} {a0 : Int32} {a1 : Int32} : ev X (d + 1) 153 [Value.ref 37, Value.int a0, Value.int a1] h = exe X d 153 0 [Value.ref 37, Value.int a0, Value.int a1] [] h := ev_exe (Nat.le_of_ble_eq_true rfl)
theorem f154_0 : fr 154 0 = some (.iload 1, 1, [], []) := by decide +kernel
theorem f154_1 : fr 154 1 = some (.ifCond .lt 28, 3, [], [0, 1]) := by decide +kernel
theorem f154_4 : fr 154 4 = some (.aload 0, 1, [0], []) := by decide +kernel
theorem f154_5 : fr 154 5 = some (.iload 1, 1, [], []) := by decide +kernel
theorem f154_6 : fr 154 6 = some (.iconst 10, 2, [], []) := by decide +kernel
theorem f154_8 : fr 154 8 = some (.idiv, 1, [], []) := by decide +kernel
theorem f154_9 : fr 154 9 = some (.invokevirtual 150, 3, [], []) := by decide +kernel
theorem f154_12 : fr 154 12 = some (.ifCond .eq 28, 3, [], [1]) := by decide +kernel
theorem f154_15 : fr 154 15 = some (.iload 1, 1, [1], []) := by decide +kernel
theorem f154_16 : fr 154 16 = some (.iconst 10, 2, [], []) := by decide +kernel
theorem f154_18 : fr 154 18 = some (.irem, 1, [], []) := by decide +kernel
theorem f154_19 : fr 154 19 = some (.iconst 8, 2, [], []) := by decide +kernel
theorem f154_21 : fr 154 21 = some (.if_icmp .ge 28, 3, [], []) := by decide +kernel
theorem f154_24 : fr 154 24 = some (.iconst 1, 1, [], []) := by decide +kernel
theorem f154_25 : fr 154 25 = some (.goto 29, 3, [], []) := by decide +kernel
theorem f154_28 : fr 154 28 = some (.iconst 0, 1, [], []) := by decide +kernel
theorem f154_29 : fr 154 29 = some (.ireturn, 1, [], []) := by decide +kernel
theorem t154_0 {X : XX} {d : Nat} {sz sl : Nat} {sh : Nat → Nat × Nat} {R : Nat → Nat → Option Nat} {I : Nat → Nat → Int32} {J : Nat → Nat → Int64} (hS : SF sh R) {l1 : Int32} : exe X d 154 0 [Value.ref 37, Value.int l1] [] (sz, sl, sh, R, I, J) =
    (if l1 < 0 then some (some (Value.int (0)), (sz, sl, sh, R, I, J)) else ((ev X d 150 [Value.ref 37, Value.int (l1 / (10))] (sz, sl, sh, R, I, J)).bind fun q => exe X d 154 12 [dm, Value.int l1] (q.1.toList ++ []) q.2)) :=
  tq ((E_iload (x := l1) rfl f154_0)) (tq ((E_if_lt f154_1)) (ite_c (tq ((E_iconst (x := (0)) (by decide) f154_28)) (tq (E_zret pr_154 f154_29) (if_pos (by decide)))) (tq ((E_aload (v := Value.ref 37) rfl rfl f154_4)) (tq ((E_iload (x := l1) rfl f154_5)) (tq ((E_iconst (x := (10)) (by decide) f154_6)) (tq ((E_idiv (by decide) f154_8)) ((tq ((E_callV pn_150 pc_150 rfl rfl (Nat.le_of_ble_eq_true rfl) f154_9)) (if_pos (zS37 hS))))))))))
theorem t154_12 {X : XX} {d : Nat} {sz sl : Nat} {sh : Nat → Nat × Nat} {R : Nat → Nat → Option Nat} {I : Nat → Nat → Int32} {J : Nat → Nat → Int64} {l1 : Int32} {s0 : Int32} : exe X d 154 12 [dm, Value.int l1] [Value.int s0] (sz, sl, sh, R, I, J) =
    (if s0 = 0 then some (some (Value.int (0)), (sz, sl, sh, R, I, J)) else (if (8) ≤ (l1 - l1 / (10) * (10)) then some (some (Value.int (0)), (sz, sl, sh, R, I, J)) else some (some (Value.int (1)), (sz, sl, sh, R, I, J)))) :=
  tq ((E_if_eq f154_12)) (ite_c (tq ((E_iconst (x := (0)) (by decide) f154_28)) (tq (E_zret pr_154 f154_29) (if_pos (by decide)))) (tq ((E_iload (x := l1) rfl f154_15)) (tq ((E_iconst (x := (10)) (by decide) f154_16)) (tq ((E_irem (by decide) f154_18)) (tq ((E_iconst (x := (8)) (by decide) f154_19)) (tq ((E_ic_ge f154_21)) (ite_c (tq ((E_iconst (x := (0)) (by decide) f154_28)) (tq (E_zret pr_154 f154_29) (if_pos (by decide)))) (tq ((E_iconst (x := (1)) (by decide) f154_24)) (tq ((E_goto f154_25)) (tq (E_zret pr_154 f154_29) (if_pos (by decide))))))))))))
theorem n154 {X : XX} {d : Nat} {h : HP} {a0 : Int32} : ev X (d + 1) 154 [Value.ref 37, Value.int a0] h = exe X d 154 0 [Value.ref 37, Value.int a0] [] h := ev_exe (Nat.le_of_ble_eq_true rfl)
theorem f155_0 : fr 155 0 = some (.aload 0, 1, [], []) := by decide +kernel
theorem f155_1 : fr 155 1 = some (.iload 1, 1, [], []) := by decide +kernel
theorem f155_2 : fr 155 2 = some (.invokevirtual 156, 3, [], []) := by decide +kernel
theorem f155_5 : fr 155 5 = some (.istore 3, 1, [], []) := by decide +kernel
theorem f155_6 : fr 155 6 = some (.iload 3, 1, [], []) := by decide +kernel
theorem f155_7 : fr 155 7 = some (.iload 2, 1, [], []) := by decide +kernel
theorem f155_8 : fr 155 8 = some (.if_icmp .ne 13, 3, [0, 1, 2], []) := by decide +kernel
theorem f155_11 : fr 155 11 = some (.iload 3, 1, [3], []) := by decide +kernel
theorem f155_12 : fr 155 12 = some (.ireturn, 1, [], []) := by decide +kernel
theorem f155_13 : fr 155 13 = some (.aload 0, 1, [], []) := by decide +kernel
theorem f155_14 : fr 155 14 = some (.getfield 11027, 3, [], []) := by decide +kernel
theorem f155_17 : fr 155 17 = some (.iconst 40, 2, [], []) := by decide +kernel
theorem f155_19 : fr 155 19 = some (.if_icmp .ne 96, 3, [], []) := by decide +kernel
theorem f155_22 : fr 155 22 = some (.iconst 1, 1, [], []) := by decide +kernel
theorem f155_23 : fr 155 23 = some (.istore 4, 2, [], []) := by decide +kernel
theorem f155_25 : fr 155 25 = some (.iload 4, 2, [], []) := by decide +kernel
theorem f155_27 : fr 155 27 = some (.iconst 40, 2, [], []) := by decide +kernel
theorem f155_29 : fr 155 29 = some (.if_icmp .ge 86, 3, [], [4]) := by decide +kernel
theorem f155_32 : fr 155 32 = some (.aload 0, 1, [], []) := by decide +kernel
theorem f155_33 : fr 155 33 = some (.getfield 11023, 3, [], []) := by decide +kernel
theorem f155_36 : fr 155 36 = some (.iload 4, 2, [], []) := by decide +kernel
theorem f155_38 : fr 155 38 = some (.iconst 1, 1, [], []) := by decide +kernel
theorem f155_39 : fr 155 39 = some (.isub, 1, [], []) := by decide +kernel
theorem f155_40 : fr 155 40 = some (.aload 0, 1, [], []) := by decide +kernel
theorem f155_41 : fr 155 41 = some (.getfield 11023, 3, [], []) := by decide +kernel
theorem f155_44 : fr 155 44 = some (.iload 4, 2, [], []) := by decide +kernel
theorem f155_46 : fr 155 46 = some (.iaload, 1, [], []) := by decide +kernel
theorem f155_47 : fr 155 47 = some (.iastore, 1, [], []) := by decide +kernel
theorem f155_48 : fr 155 48 = some (.aload 0, 1, [], []) := by decide +kernel
theorem f155_49 : fr 155 49 = some (.getfield 11024, 3, [], []) := by decide +kernel
theorem f155_52 : fr 155 52 = some (.iload 4, 2, [], []) := by decide +kernel
theorem f155_54 : fr 155 54 = some (.iconst 1, 1, [], []) := by decide +kernel
theorem f155_55 : fr 155 55 = some (.isub, 1, [], []) := by decide +kernel
theorem f155_56 : fr 155 56 = some (.aload 0, 1, [], []) := by decide +kernel
theorem f155_57 : fr 155 57 = some (.getfield 11024, 3, [], []) := by decide +kernel
theorem f155_60 : fr 155 60 = some (.iload 4, 2, [], []) := by decide +kernel
theorem f155_62 : fr 155 62 = some (.iaload, 1, [], []) := by decide +kernel
theorem f155_63 : fr 155 63 = some (.iastore, 1, [], []) := by decide +kernel
theorem f155_64 : fr 155 64 = some (.aload 0, 1, [], []) := by decide +kernel
theorem f155_65 : fr 155 65 = some (.getfield 11025, 3, [], []) := by decide +kernel
theorem f155_68 : fr 155 68 = some (.iload 4, 2, [], []) := by decide +kernel
theorem f155_70 : fr 155 70 = some (.iconst 1, 1, [], []) := by decide +kernel
theorem f155_71 : fr 155 71 = some (.isub, 1, [], []) := by decide +kernel
theorem f155_72 : fr 155 72 = some (.aload 0, 1, [], []) := by decide +kernel
theorem f155_73 : fr 155 73 = some (.getfield 11025, 3, [], []) := by decide +kernel
theorem f155_76 : fr 155 76 = some (.iload 4, 2, [], []) := by decide +kernel
theorem f155_78 : fr 155 78 = some (.iaload, 1, [], []) := by decide +kernel
theorem f155_79 : fr 155 79 = some (.iastore, 1, [], []) := by decide +kernel
theorem f155_80 : fr 155 80 = some (.iinc 4 1, 3, [], []) := by decide +kernel
theorem f155_83 : fr 155 83 = some (.goto 25, 3, [], []) := by decide +kernel
theorem f155_86 : fr 155 86 = some (.aload 0, 1, [], []) := by decide +kernel
theorem f155_87 : fr 155 87 = some (.dup, 1, [], []) := by decide +kernel
theorem f155_88 : fr 155 88 = some (.getfield 11027, 3, [], []) := by decide +kernel
theorem f155_91 : fr 155 91 = some (.iconst 1, 1, [], []) := by decide +kernel
theorem f155_92 : fr 155 92 = some (.isub, 1, [], []) := by decide +kernel
theorem f155_93 : fr 155 93 = some (.putfield 11027, 3, [], []) := by decide +kernel
theorem f155_96 : fr 155 96 = some (.aload 0, 1, [], []) := by decide +kernel
theorem f155_97 : fr 155 97 = some (.getfield 11023, 3, [], []) := by decide +kernel
theorem f155_100 : fr 155 100 = some (.aload 0, 1, [], []) := by decide +kernel
theorem f155_101 : fr 155 101 = some (.getfield 11027, 3, [], []) := by decide +kernel
theorem f155_104 : fr 155 104 = some (.iload 1, 1, [], []) := by decide +kernel
theorem f155_105 : fr 155 105 = some (.iastore, 1, [], []) := by decide +kernel
theorem f155_106 : fr 155 106 = some (.aload 0, 1, [], []) := by decide +kernel
theorem f155_107 : fr 155 107 = some (.getfield 11024, 3, [], []) := by decide +kernel
theorem f155_110 : fr 155 110 = some (.aload 0, 1, [], []) := by decide +kernel
theorem f155_111 : fr 155 111 = some (.getfield 11027, 3, [], []) := by decide +kernel
theorem f155_114 : fr 155 114 = some (.iload 3, 1, [], []) := by decide +kernel
theorem f155_115 : fr 155 115 = some (.iastore, 1, [], []) := by decide +kernel
theorem f155_116 : fr 155 116 = some (.aload 0, 1, [], []) := by decide +kernel
theorem f155_117 : fr 155 117 = some (.getfield 11025, 3, [], []) := by decide +kernel
theorem f155_120 : fr 155 120 = some (.aload 0, 1, [], []) := by decide +kernel
theorem f155_121 : fr 155 121 = some (.getfield 11027, 3, [], []) := by decide +kernel
theorem f155_124 : fr 155 124 = some (.iload 2, 1, [], []) := by decide +kernel
theorem f155_125 : fr 155 125 = some (.iastore, 1, [], []) := by decide +kernel
theorem f155_126 : fr 155 126 = some (.aload 0, 1, [], []) := by decide +kernel
theorem f155_127 : fr 155 127 = some (.dup, 1, [], []) := by decide +kernel
theorem f155_128 : fr 155 128 = some (.getfield 11027, 3, [], []) := by decide +kernel
theorem f155_131 : fr 155 131 = some (.iconst 1, 1, [], []) := by decide +kernel
theorem f155_132 : fr 155 132 = some (.iadd, 1, [], []) := by decide +kernel
theorem f155_133 : fr 155 133 = some (.putfield 11027, 3, [], []) := by decide +kernel
theorem f155_136 : fr 155 136 = some (.aload 0, 1, [], []) := by decide +kernel
theorem f155_137 : fr 155 137 = some (.aload 0, 1, [], []) := by decide +kernel
theorem f155_138 : fr 155 138 = some (.getfield 11027, 3, [], []) := by decide +kernel
theorem f155_141 : fr 155 141 = some (.putfield 11026, 3, [], []) := by decide +kernel
theorem f155_144 : fr 155 144 = some (.aload 0, 1, [0], []) := by decide +kernel
theorem f155_145 : fr 155 145 = some (.iload 1, 1, [1], []) := by decide +kernel
theorem f155_146 : fr 155 146 = some (.iload 2, 1, [2], []) := by decide +kernel
theorem f155_147 : fr 155 147 = some (.invokevirtual 157, 3, [], []) := by decide +kernel
theorem f155_150 : fr 155 150 = some (.iload 3, 1, [3], []) := by decide +kernel
theorem f155_151 : fr 155 151 = some (.ireturn, 1, [], []) := by decide +kernel
theorem t155_0 {X : XX} {d : Nat} {sz sl : Nat} {sh : Nat → Nat × Nat} {R : Nat → Nat → Option Nat} {I : Nat → Nat → Int32} {J : Nat → Nat → Int64} (hS : SF sh R) {l1 : Int32} {l2 : Int32} : exe X d 155 0 [Value.ref 37, Value.int l1, Value.int l2, dm, dm] [] (sz, sl, sh, R, I, J) =
    ((ev X d 156 [Value.ref 37, Value.int l1] (sz, sl, sh, R, I, J)).bind fun q => exe X d 155 5 [Value.ref 37, Value.int l1, Value.int l2, dm, dm] (q.1.toList ++ []) q.2) :=
  tq ((E_aload (v := Value.ref 37) rfl rfl f155_0)) (tq ((E_iload (x := l1) rfl f155_1)) ((tq ((E_callV pn_156 pc_156 rfl rfl (Nat.le_of_ble_eq_true rfl) f155_2)) (if_pos (zS37 hS)))))
theorem t155_5 {X : XX} {d : Nat} {sz sl : Nat} {sh : Nat → Nat × Nat} {R : Nat → Nat → Option Nat} {I : Nat → Nat → Int32} {J : Nat → Nat → Int64} (hS : SF sh R) {l1 : Int32} {l2 : Int32} {s0 : Int32} : exe X d 155 5 [Value.ref 37, Value.int l1, Value.int l2, dm, dm] [Value.int s0] (sz, sl, sh, R, I, J) =
    (if ¬ s0 = l2 then (if ¬ (I 37 27) = (40) then exe X d 155 96 [Value.ref 37, Value.int l1, Value.int l2, Value.int s0, dm] [] (sz, sl, sh, R, I, J) else exe X d 155 25 [Value.ref 37, Value.int l1, Value.int l2, Value.int s0, Value.int (1)] [] (sz, sl, sh, R, I, J)) else some (some (Value.int s0), (sz, sl, sh, R, I, J))) :=
  tq ((E_istore rfl f155_5)) (tq ((E_iload (x := s0) rfl f155_6)) (tq ((E_iload (x := l2) rfl f155_7)) (tq ((E_ic_ne f155_8)) (ite_c (tq ((E_aload (v := Value.ref 37) rfl rfl f155_13)) (tq (tq ((G11027 f155_14)) (if_pos (zS37 hS))) (tq ((E_iconst (x := (40)) (by decide) f155_17)) (tq ((E_ic_ne f155_19)) (ite_c (rfl) (tq ((E_iconst (x := (1)) (by decide) f155_22)) ((E_istore rfl f155_23)))))))) (tq ((E_iload (x := s0) rfl f155_11)) ((E_iret pr_155 f155_12)))))))
theorem t155_25 {X : XX} {d : Nat} {sz sl : Nat} {sh : Nat → Nat × Nat} {R : Nat → Nat → Option Nat} {I : Nat → Nat → Int32} {J : Nat → Nat → Int64} (hS : SF sh R) {l1 : Int32} {l2 : Int32} {l3 : Int32} {l4 : Int32} : exe X d 155 25 [Value.ref 37, Value.int l1, Value.int l2, Value.int l3, Value.int l4] [] (sz, sl, sh, R, I, J) =
    (if (40) ≤ l4 then exe X d 155 96 [Value.ref 37, Value.int l1, Value.int l2, Value.int l3, dm] [] (sz, sl, sh, R, (u2 I 37 27 ((I 37 27) - (1))), J) else (if inb l4 40 then (if inb (l4 - (1)) 40 then (if inb l4 40 then (if inb (l4 - (1)) 40 then (if inb l4 40 then (if inb (l4 - (1)) 40 then exe X d 155 25 [Value.ref 37, Value.int l1, Value.int l2, Value.int l3, Value.int (l4 + (1))] [] (sz, sl, sh, R, (u2 (u2 (u2 I 56 (l4 - (1)).toNatClampNeg (I 56 l4.toNatClampNeg)) 57 (l4 - (1)).toNatClampNeg ((u2 I 56 (l4 - (1)).toNatClampNeg (I 56 l4.toNatClampNeg)) 57 l4.toNatClampNeg)) 58 (l4 - (1)).toNatClampNeg ((u2 (u2 I 56 (l4 - (1)).toNatClampNeg (I 56 l4.toNatClampNeg)) 57 (l4 - (1)).toNatClampNeg ((u2 I 56 (l4 - (1)).toNatClampNeg (I 56 l4.toNatClampNeg)) 57 l4.toNatClampNeg)) 58 l4.toNatClampNeg)), J) else none) else none) else none) else none) else none) else none)) :=
  tq ((E_iload (x := l4) rfl f155_25)) (tq ((E_iconst (x := (40)) (by decide) f155_27)) (tq ((E_ic_ge f155_29)) (ite_c (tq ((E_aload (v := Value.ref 37) rfl rfl f155_86)) (tq ((E_dup rfl f155_87)) (tq (tq ((G11027 f155_88)) (if_pos (zS37 hS))) (tq ((E_iconst (x := (1)) (by decide) f155_91)) (tq ((E_isub f155_92)) (tq (tq ((P11027 f155_93)) (if_pos (zS37 hS))) (rfl))))))) (tq ((E_aload (v := Value.ref 37) rfl rfl f155_32)) (tq (tq ((G11023 f155_33)) (if_pos (zS37 hS))) (tq (exe_R (zR37_23 hS)) (tq ((E_iload (x := l4) rfl f155_36)) (tq ((E_iconst (x := (1)) (by decide) f155_38)) (tq ((E_isub f155_39)) (tq ((E_aload (v := Value.ref 37) rfl rfl f155_40)) (tq (tq ((G11023 f155_41)) (if_pos (zS37 hS))) (tq (exe_R (zR37_23 hS)) (tq ((E_iload (x := l4) rfl f155_44)) (tq (tq ((E_iald f155_46)) (ite_ar (zS56 hS))) (ite_c (tq (tq ((E_iast f155_47)) (ite_ar (zS56 hS))) (ite_c (tq ((E_aload (v := Value.ref 37) rfl rfl f155_48)) (tq (tq ((G11024 f155_49)) (if_pos (zS37 hS))) (tq (exe_R (zR37_24 hS)) (tq ((E_iload (x := l4) rfl f155_52)) (tq ((E_iconst (x := (1)) (by decide) f155_54)) (tq ((E_isub f155_55)) (tq ((E_aload (v := Value.ref 37) rfl rfl f155_56)) (tq (tq ((G11024 f155_57)) (if_pos (zS37 hS))) (tq (exe_R (zR37_24 hS)) (tq ((E_iload (x := l4) rfl f155_60)) (tq (tq ((E_iald f155_62)) (ite_ar (zS57 hS))) (ite_c (tq (tq ((E_iast f155_63)) (ite_ar (zS57 hS))) (ite_c (tq ((E_aload (v := Value.ref 37) rfl rfl f155_64)) (tq (tq ((G11025 f155_65)) (if_pos (zS37 hS))) (tq (exe_R (zR37_25 hS)) (tq ((E_iload (x := l4) rfl f155_68)) (tq ((E_iconst (x := (1)) (by decide) f155_70)) (tq ((E_isub f155_71)) (tq ((E_aload (v := Value.ref 37) rfl rfl f155_72)) (tq (tq ((G11025 f155_73)) (if_pos (zS37 hS))) (tq (exe_R (zR37_25 hS)) (tq ((E_iload (x := l4) rfl f155_76)) (tq (tq ((E_iald f155_78)) (ite_ar (zS58 hS))) (ite_c (tq (tq ((E_iast f155_79)) (ite_ar (zS58 hS))) (ite_c (tq ((E_iinc (x := l4) (x' := (1)) rfl rfl (by decide) f155_80)) ((E_goto f155_83))) rfl)) rfl)))))))))))) rfl)) rfl)))))))))))) rfl)) rfl)))))))))))))))
theorem t155_96 {X : XX} {d : Nat} {sz sl : Nat} {sh : Nat → Nat × Nat} {R : Nat → Nat → Option Nat} {I : Nat → Nat → Int32} {J : Nat → Nat → Int64} (hS : SF sh R) {l1 : Int32} {l2 : Int32} {l3 : Int32} : exe X d 155 96 [Value.ref 37, Value.int l1, Value.int l2, Value.int l3, dm] [] (sz, sl, sh, R, I, J) =
    (if inb (I 37 27) 40 then (if inb (I 37 27) 40 then (if inb (I 37 27) 40 then ((ev X d 157 [Value.ref 37, Value.int l1, Value.int l2] (sz, sl, sh, R, (u2 (u2 (u2 (u2 (u2 I 56 (I 37 27).toNatClampNeg l1) 57 (I 37 27).toNatClampNeg l3) 58 (I 37 27).toNatClampNeg l2) 37 27 ((I 37 27) + (1))) 37 26 ((I 37 27) + (1))), J)).bind fun q => exe X d 155 150 [dm, dm, dm, Value.int l3, dm] (q.1.toList ++ []) q.2) else none) else none) else none) :=
  tq ((E_aload (v := Value.ref 37) rfl rfl f155_96)) (tq (tq ((G11023 f155_97)) (if_pos (zS37 hS))) (tq (exe_R (zR37_23 hS)) (tq ((E_aload (v := Value.ref 37) rfl rfl f155_100)) (tq (tq ((G11027 f155_101)) (if_pos (zS37 hS))) (tq ((E_iload (x := l1) rfl f155_104)) (tq (tq ((E_iast f155_105)) (ite_ar (zS56 hS))) (ite_c (tq ((E_aload (v := Value.ref 37) rfl rfl f155_106)) (tq (tq ((G11024 f155_107)) (if_pos (zS37 hS))) (tq (exe_R (zR37_24 hS)) (tq ((E_aload (v := Value.ref 37) rfl rfl f155_110)) (tq (tq (tq ((G11027 f155_111)) (if_pos (zS37 hS))) (exe_i (u2_pa (by decide)))) (tq ((E_iload (x := l3) rfl f155_114)) (tq (tq ((E_iast f155_115)) (ite_ar (zS57 hS))) (ite_c (tq ((E_aload (v := Value.ref 37) rfl rfl f155_116)) (tq (tq ((G11025 f155_117)) (if_pos (zS37 hS))) (tq (exe_R (zR37_25 hS)) (tq ((E_aload (v := Value.ref 37) rfl rfl f155_120)) (tq (tq (tq ((G11027 f155_121)) (if_pos (zS37 hS))) (exe_i (tq (u2_pa (by decide)) (u2_pa (by decide))))) (tq ((E_iload (x := l2) rfl f155_124)) (tq (tq ((E_iast f155_125)) (ite_ar (zS58 hS))) (ite_c (tq ((E_aload (v := Value.ref 37) rfl rfl f155_126)) (tq ((E_dup rfl f155_127)) (tq (tq (tq ((G11027 f155_128)) (if_pos (zS37 hS))) (exe_i (tq (u2_pa (by decide)) (tq (u2_pa (by decide)) (u2_pa (by decide)))))) (tq ((E_iconst (x := (1)) (by decide) f155_131)) (tq ((E_iadd f155_132)) (tq (tq ((P11027 f155_133)) (if_pos (zS37 hS))) (tq ((E_aload (v := Value.ref 37) rfl rfl f155_136)) (tq ((E_aload (v := Value.ref 37) rfl rfl f155_137)) (tq (tq (tq ((G11027 f155_138)) (if_pos (zS37 hS))) (exe_i (u2_at0))) (tq (tq ((P11026 f155_141)) (if_pos (zS37 hS))) (tq ((E_aload (v := Value.ref 37) rfl rfl f155_144)) (tq ((E_iload (x := l1) rfl f155_145)) (tq ((E_iload (x := l2) rfl f155_146)) ((tq ((E_callV pn_157 pc_157 rfl rfl (Nat.le_of_ble_eq_true rfl) f155_147)) (if_pos (zS37 hS))))))))))))))))) rfl)))))))) rfl)))))))) rfl)))))))
theorem t155_150 {X : XX} {d : Nat} {sz sl : Nat} {sh : Nat → Nat × Nat} {R : Nat → Nat → Option Nat} {I : Nat → Nat → Int32} {J : Nat → Nat → Int64} {l3 : Int32} : exe X d 155 150 [dm, dm, dm, Value.int l3, dm] [] (sz, sl, sh, R, I, J) =
    some (some (Value.int l3), (sz, sl, sh, R, I, J)) :=
  tq ((E_iload (x := l3) rfl f155_150)) ((E_iret pr_155 f155_151))
theorem n155 {X : XX} {d : Nat} {h : HP} {a0 : Int32} {a1 : Int32} : ev X (d + 1) 155 [Value.ref 37, Value.int a0, Value.int a1] h = exe X d 155 0 [Value.ref 37, Value.int a0, Value.int a1, dm, dm] [] h := ev_exe (Nat.le_of_ble_eq_true rfl)
theorem f156_0 : fr 156 0 = some (.iload 1, 1, [], []) := by decide +kernel
theorem f156_1 : fr 156 1 = some (.iconst 10, 2, [], []) := by decide +kernel
theorem f156_3 : fr 156 3 = some (.idiv, 1, [], []) := by decide +kernel
theorem f156_4 : fr 156 4 = some (.istore 2, 1, [], []) := by decide +kernel
theorem f156_5 : fr 156 5 = some (.iload 1, 1, [1], []) := by decide +kernel
theorem f156_6 : fr 156 6 = some (.iconst 10, 2, [], []) := by decide +kernel
theorem f156_8 : fr 156 8 = some (.irem, 1, [], []) := by decide +kernel
theorem f156_9 : fr 156 9 = some (.istore 3, 1, [], []) := by decide +kernel
theorem f156_10 : fr 156 10 = some (.iload 3, 1, [], []) := by decide +kernel
theorem f156_11 : fr 156 11 = some (.iconst 8, 2, [], []) := by decide +kernel
theorem f156_13 : fr 156 13 = some (.if_icmp .ge 30, 3, [], []) := by decide +kernel
theorem f156_16 : fr 156 16 = some (.aload 0, 1, [0], []) := by decide +kernel
theorem f156_17 : fr 156 17 = some (.getfield 11005, 3, [], []) := by decide +kernel
theorem f156_20 : fr 156 20 = some (.iconst 8, 2, [], []) := by decide +kernel
theorem f156_22 : fr 156 22 = some (.iload 2, 1, [2], []) := by decide +kernel
theorem f156_23 : fr 156 23 = some (.imul, 1, [], []) := by decide +kernel
theorem f156_24 : fr 156 24 = some (.iload 3, 1, [3], []) := by decide +kernel
theorem f156_25 : fr 156 25 = some (.iadd, 1, [], []) := by decide +kernel
theorem f156_26 : fr 156 26 = some (.iaload, 1, [], []) := by decide +kernel
theorem f156_27 : fr 156 27 = some (.goto 51, 3, [], []) := by decide +kernel
theorem f156_30 : fr 156 30 = some (.iload 3, 1, [3], []) := by decide +kernel
theorem f156_31 : fr 156 31 = some (.iconst 8, 2, [], []) := by decide +kernel
theorem f156_33 : fr 156 33 = some (.if_icmp .ne 45, 3, [], []) := by decide +kernel
theorem f156_36 : fr 156 36 = some (.aload 0, 1, [0], []) := by decide +kernel
theorem f156_37 : fr 156 37 = some (.getfield 11001, 3, [], []) := by decide +kernel
theorem f156_40 : fr 156 40 = some (.iload 2, 1, [2], []) := by decide +kernel
theorem f156_41 : fr 156 41 = some (.iaload, 1, [], []) := by decide +kernel
theorem f156_42 : fr 156 42 = some (.goto 51, 3, [], []) := by decide +kernel
theorem f156_45 : fr 156 45 = some (.aload 0, 1, [0], []) := by decide +kernel
theorem f156_46 : fr 156 46 = some (.getfield 11004, 3, [], []) := by decide +kernel
theorem f156_49 : fr 156 49 = some (.iload 2, 1, [2], []) := by decide +kernel
theorem f156_50 : fr 156 50 = some (.iaload, 1, [], []) := by decide +kernel
theorem f156_51 : fr 156 51 = some (.ireturn, 1, [], []) := by decide +kernel
theorem t156_0 {X : XX} {d : Nat} {sz sl : Nat} {sh : Nat → Nat × Nat} {R : Nat → Nat → Option Nat} {I : Nat → Nat → Int32} {J : Nat → Nat → Int64} (hS : SF sh R) {l1 : Int32} : exe X d 156 0 [Value.ref 37, Value.int l1, dm, dm] [] (sz, sl, sh, R, I, J) =
    (if (8) ≤ (l1 - l1 / (10) * (10)) then (if ¬ (l1 - l1 / (10) * (10)) = (8) then (if inb (l1 / (10)) 40 then some (some (Value.int (I 41 (l1 / (10)).toNatClampNeg)), (sz, sl, sh, R, I, J)) else none) else (if inb (l1 / (10)) 40 then some (some (Value.int (I 38 (l1 / (10)).toNatClampNeg)), (sz, sl, sh, R, I, J)) else none)) else (if inb (((8) * (l1 / (10))) + (l1 - l1 / (10) * (10))) 320 then some (some (Value.int (I 42 (((8) * (l1 / (10))) + (l1 - l1 / (10) * (10))).toNatClampNeg)), (sz, sl, sh, R, I, J)) else none)) :=
  tq ((E_iload (x := l1) rfl f156_0)) (tq ((E_iconst (x := (10)) (by decide) f156_1)) (tq ((E_idiv (by decide) f156_3)) (tq ((E_istore rfl f156_4)) (tq ((E_iload (x := l1) rfl f156_5)) (tq ((E_iconst (x := (10)) (by decide) f156_6)) (tq ((E_irem (by decide) f156_8)) (tq ((E_istore rfl f156_9)) (tq ((E_iload (x := (l1 - l1 / (10) * (10))) rfl f156_10)) (tq ((E_iconst (x := (8)) (by decide) f156_11)) (tq ((E_ic_ge f156_13)) (ite_c (tq ((E_iload (x := (l1 - l1 / (10) * (10))) rfl f156_30)) (tq ((E_iconst (x := (8)) (by decide) f156_31)) (tq ((E_ic_ne f156_33)) (ite_c (tq ((E_aload (v := Value.ref 37) rfl rfl f156_45)) (tq (tq ((G11004 f156_46)) (if_pos (zS37 hS))) (tq (exe_R (zR37_4 hS)) (tq ((E_iload (x := (l1 / (10))) rfl f156_49)) (tq (tq ((E_iald f156_50)) (ite_ar (zS41 hS))) (ite_c ((E_iret pr_156 f156_51)) rfl)))))) (tq ((E_aload (v := Value.ref 37) rfl rfl f156_36)) (tq (tq ((G11001 f156_37)) (if_pos (zS37 hS))) (tq (exe_R (zR37_1 hS)) (tq ((E_iload (x := (l1 / (10))) rfl f156_40)) (tq (tq ((E_iald f156_41)) (ite_ar (zS38 hS))) (ite_c (tq ((E_goto f156_42)) ((E_iret pr_156 f156_51))) rfl)))))))))) (tq ((E_aload (v := Value.ref 37) rfl rfl f156_16)) (tq (tq ((G11005 f156_17)) (if_pos (zS37 hS))) (tq (exe_R (zR37_5 hS)) (tq ((E_iconst (x := (8)) (by decide) f156_20)) (tq ((E_iload (x := (l1 / (10))) rfl f156_22)) (tq ((E_imul f156_23)) (tq ((E_iload (x := (l1 - l1 / (10) * (10))) rfl f156_24)) (tq ((E_iadd f156_25)) (tq (tq ((E_iald f156_26)) (ite_ar (zS42 hS))) (ite_c (tq ((E_goto f156_27)) ((E_iret pr_156 f156_51))) rfl)))))))))))))))))))))
theorem n156 {X : XX} {d : Nat} {h : HP} {a0 : Int32} : ev X (d + 1) 156 [Value.ref 37, Value.int a0] h = exe X d 156 0 [Value.ref 37, Value.int a0, dm, dm] [] h := ev_exe (Nat.le_of_ble_eq_true rfl)
theorem f157_0 : fr 157 0 = some (.iload 1, 1, [], []) := by decide +kernel
theorem f157_1 : fr 157 1 = some (.iconst 10, 2, [], []) := by decide +kernel
theorem f157_3 : fr 157 3 = some (.idiv, 1, [], []) := by decide +kernel
theorem f157_4 : fr 157 4 = some (.istore 3, 1, [], []) := by decide +kernel
theorem f157_5 : fr 157 5 = some (.iload 1, 1, [1], []) := by decide +kernel
theorem f157_6 : fr 157 6 = some (.iconst 10, 2, [], []) := by decide +kernel
theorem f157_8 : fr 157 8 = some (.irem, 1, [], []) := by decide +kernel
theorem f157_9 : fr 157 9 = some (.istore 4, 2, [], []) := by decide +kernel
theorem f157_11 : fr 157 11 = some (.iload 4, 2, [], []) := by decide +kernel
theorem f157_13 : fr 157 13 = some (.iconst 8, 2, [], []) := by decide +kernel
theorem f157_15 : fr 157 15 = some (.if_icmp .ge 34, 3, [], []) := by decide +kernel
theorem f157_18 : fr 157 18 = some (.aload 0, 1, [0], []) := by decide +kernel
theorem f157_19 : fr 157 19 = some (.getfield 11005, 3, [], []) := by decide +kernel
theorem f157_22 : fr 157 22 = some (.iconst 8, 2, [], []) := by decide +kernel
theorem f157_24 : fr 157 24 = some (.iload 3, 1, [3], []) := by decide +kernel
theorem f157_25 : fr 157 25 = some (.imul, 1, [], []) := by decide +kernel
theorem f157_26 : fr 157 26 = some (.iload 4, 2, [4], []) := by decide +kernel
theorem f157_28 : fr 157 28 = some (.iadd, 1, [], []) := by decide +kernel
theorem f157_29 : fr 157 29 = some (.iload 2, 1, [2], []) := by decide +kernel
theorem f157_30 : fr 157 30 = some (.iastore, 1, [], []) := by decide +kernel
theorem f157_31 : fr 157 31 = some (.goto 58, 3, [], []) := by decide +kernel
theorem f157_34 : fr 157 34 = some (.iload 4, 2, [4], []) := by decide +kernel
theorem f157_36 : fr 157 36 = some (.iconst 8, 2, [], []) := by decide +kernel
theorem f157_38 : fr 157 38 = some (.if_icmp .ne 51, 3, [], []) := by decide +kernel
theorem f157_41 : fr 157 41 = some (.aload 0, 1, [0], []) := by decide +kernel
theorem f157_42 : fr 157 42 = some (.getfield 11001, 3, [], []) := by decide +kernel
theorem f157_45 : fr 157 45 = some (.iload 3, 1, [3], []) := by decide +kernel
theorem f157_46 : fr 157 46 = some (.iload 2, 1, [2], []) := by decide +kernel
theorem f157_47 : fr 157 47 = some (.iastore, 1, [], []) := by decide +kernel
theorem f157_48 : fr 157 48 = some (.goto 58, 3, [], []) := by decide +kernel
theorem f157_51 : fr 157 51 = some (.aload 0, 1, [0], []) := by decide +kernel
theorem f157_52 : fr 157 52 = some (.getfield 11004, 3, [], []) := by decide +kernel
theorem f157_55 : fr 157 55 = some (.iload 3, 1, [3], []) := by decide +kernel
theorem f157_56 : fr 157 56 = some (.iload 2, 1, [2], []) := by decide +kernel
theorem f157_57 : fr 157 57 = some (.iastore, 1, [], []) := by decide +kernel
theorem f157_58 : fr 157 58 = some (.return_, 1, [], []) := by decide +kernel
theorem t157_0 {X : XX} {d : Nat} {sz sl : Nat} {sh : Nat → Nat × Nat} {R : Nat → Nat → Option Nat} {I : Nat → Nat → Int32} {J : Nat → Nat → Int64} (hS : SF sh R) {l1 : Int32} {l2 : Int32} : exe X d 157 0 [Value.ref 37, Value.int l1, Value.int l2, dm, dm] [] (sz, sl, sh, R, I, J) =
    (if (8) ≤ (l1 - l1 / (10) * (10)) then (if ¬ (l1 - l1 / (10) * (10)) = (8) then (if inb (l1 / (10)) 40 then some (none, (sz, sl, sh, R, (u2 I 41 (l1 / (10)).toNatClampNeg l2), J)) else none) else (if inb (l1 / (10)) 40 then some (none, (sz, sl, sh, R, (u2 I 38 (l1 / (10)).toNatClampNeg l2), J)) else none)) else (if inb (((8) * (l1 / (10))) + (l1 - l1 / (10) * (10))) 320 then some (none, (sz, sl, sh, R, (u2 I 42 (((8) * (l1 / (10))) + (l1 - l1 / (10) * (10))).toNatClampNeg l2), J)) else none)) :=
  tq ((E_iload (x := l1) rfl f157_0)) (tq ((E_iconst (x := (10)) (by decide) f157_1)) (tq ((E_idiv (by decide) f157_3)) (tq ((E_istore rfl f157_4)) (tq ((E_iload (x := l1) rfl f157_5)) (tq ((E_iconst (x := (10)) (by decide) f157_6)) (tq ((E_irem (by decide) f157_8)) (tq ((E_istore rfl f157_9)) (tq ((E_iload (x := (l1 - l1 / (10) * (10))) rfl f157_11)) (tq ((E_iconst (x := (8)) (by decide) f157_13)) (tq ((E_ic_ge f157_15)) (ite_c (tq ((E_iload (x := (l1 - l1 / (10) * (10))) rfl f157_34)) (tq ((E_iconst (x := (8)) (by decide) f157_36)) (tq ((E_ic_ne f157_38)) (ite_c (tq ((E_aload (v := Value.ref 37) rfl rfl f157_51)) (tq (tq ((G11004 f157_52)) (if_pos (zS37 hS))) (tq (exe_R (zR37_4 hS)) (tq ((E_iload (x := (l1 / (10))) rfl f157_55)) (tq ((E_iload (x := l2) rfl f157_56)) (tq (tq ((E_iast f157_57)) (ite_ar (zS41 hS))) (ite_c ((E_vret pr_157 f157_58)) rfl))))))) (tq ((E_aload (v := Value.ref 37) rfl rfl f157_41)) (tq (tq ((G11001 f157_42)) (if_pos (zS37 hS))) (tq (exe_R (zR37_1 hS)) (tq ((E_iload (x := (l1 / (10))) rfl f157_45)) (tq ((E_iload (x := l2) rfl f157_46)) (tq (tq ((E_iast f157_47)) (ite_ar (zS38 hS))) (ite_c (tq ((E_goto f157_48)) ((E_vret pr_157 f157_58))) rfl))))))))))) (tq ((E_aload (v := Value.ref 37) rfl rfl f157_18)) (tq (tq ((G11005 f157_19)) (if_pos (zS37 hS))) (tq (exe_R (zR37_5 hS)) (tq ((E_iconst (x := (8)) (by decide) f157_22)) (tq ((E_iload (x := (l1 / (10))) rfl f157_24)) (tq ((E_imul f157_25)) (tq ((E_iload (x := (l1 - l1 / (10) * (10))) rfl f157_26)) (tq ((E_iadd f157_28)) (tq ((E_iload (x := l2) rfl f157_29)) (tq (tq ((E_iast f157_30)) (ite_ar (zS42 hS))) (ite_c (tq ((E_goto f157_31)) ((E_vret pr_157 f157_58))) rfl))))))))))))))))))))))
theorem n157 {X : XX} {d : Nat} {h : HP} {a0 : Int32} {a1 : Int32} : ev X (d + 1) 157 [Value.ref 37, Value.int a0, Value.int a1] h = exe X d 157 0 [Value.ref 37, Value.int a0, Value.int a1, dm, dm] [] h := ev_exe (Nat.le_of_ble_eq_true rfl)
theorem f158_0 : fr 158 0 = some (.aload 0, 1, [], []) := by decide +kernel
theorem f158_1 : fr 158 1 = some (.iload 1, 1, [], []) := by decide +kernel
theorem f158_2 : fr 158 2 = some (.invokevirtual 150, 3, [], []) := by decide +kernel
theorem f158_5 : fr 158 5 = some (.ifCond .eq 36, 3, [], [0, 1, 2, 3]) := by decide +kernel
theorem f158_8 : fr 158 8 = some (.iload 2, 1, [], []) := by decide +kernel
theorem f158_9 : fr 158 9 = some (.iconst 0, 1, [], []) := by decide +kernel
theorem f158_10 : fr 158 10 = some (.iconst 1, 1, [], []) := by decide +kernel
theorem f158_11 : fr 158 11 = some (.invokestatic 148, 3, [], []) := by decide +kernel
theorem f158_14 : fr 158 14 = some (.ifCond .eq 36, 3, [], [0, 1, 2, 3]) := by decide +kernel
theorem f158_17 : fr 158 17 = some (.iload 3, 1, [], []) := by decide +kernel
theorem f158_18 : fr 158 18 = some (.iconst 1, 1, [], []) := by decide +kernel
theorem f158_19 : fr 158 19 = some (.iload 2, 1, [], []) := by decide +kernel
theorem f158_20 : fr 158 20 = some (.ifCond .ne 28, 3, [], []) := by decide +kernel
theorem f158_23 : fr 158 23 = some (.iconst 9, 2, [], []) := by decide +kernel
theorem f158_25 : fr 158 25 = some (.goto 30, 3, [], []) := by decide +kernel
theorem f158_28 : fr 158 28 = some (.iconst 99, 2, [], []) := by decide +kernel
theorem f158_30 : fr 158 30 = some (.invokestatic 148, 3, [], []) := by decide +kernel
theorem f158_33 : fr 158 33 = some (.ifCond .ne 38, 3, [0, 1, 2, 3], []) := by decide +kernel
theorem f158_36 : fr 158 36 = some (.iconst (-1), 1, [], []) := by decide +kernel
theorem f158_37 : fr 158 37 = some (.ireturn, 1, [], []) := by decide +kernel
theorem f158_38 : fr 158 38 = some (.aload 0, 1, [0], []) := by decide +kernel
theorem f158_39 : fr 158 39 = some (.iconst 10, 2, [], []) := by decide +kernel
theorem f158_41 : fr 158 41 = some (.iload 1, 1, [1], []) := by decide +kernel
theorem f158_42 : fr 158 42 = some (.imul, 1, [], []) := by decide +kernel
theorem f158_43 : fr 158 43 = some (.iconst 8, 2, [], []) := by decide +kernel
theorem f158_45 : fr 158 45 = some (.iadd, 1, [], []) := by decide +kernel
theorem f158_46 : fr 158 46 = some (.iload 2, 1, [2], []) := by decide +kernel
theorem f158_47 : fr 158 47 = some (.iadd, 1, [], []) := by decide +kernel
theorem f158_48 : fr 158 48 = some (.iload 3, 1, [3], []) := by decide +kernel
theorem f158_49 : fr 158 49 = some (.invokevirtual 155, 3, [], []) := by decide +kernel
theorem f158_52 : fr 158 52 = some (.ireturn, 1, [], []) := by decide +kernel
theorem t158_0 {X : XX} {d : Nat} {sz sl : Nat} {sh : Nat → Nat × Nat} {R : Nat → Nat → Option Nat} {I : Nat → Nat → Int32} {J : Nat → Nat → Int64} (hS : SF sh R) {l1 : Int32} {l2 : Int32} {l3 : Int32} : exe X d 158 0 [Value.ref 37, Value.int l1, Value.int l2, Value.int l3] [] (sz, sl, sh, R, I, J) =
    ((ev X d 150 [Value.ref 37, Value.int l1] (sz, sl, sh, R, I, J)).bind fun q => exe X d 158 5 [Value.ref 37, Value.int l1, Value.int l2, Value.int l3] (q.1.toList ++ []) q.2) :=
  tq ((E_aload (v := Value.ref 37) rfl rfl f158_0)) (tq ((E_iload (x := l1) rfl f158_1)) ((tq ((E_callV pn_150 pc_150 rfl rfl (Nat.le_of_ble_eq_true rfl) f158_2)) (if_pos (zS37 hS)))))
theorem t158_5 {X : XX} {d : Nat} {sz sl : Nat} {sh : Nat → Nat × Nat} {R : Nat → Nat → Option Nat} {I : Nat → Nat → Int32} {J : Nat → Nat → Int64} {l1 : Int32} {l2 : Int32} {l3 : Int32} {s0 : Int32} : exe X d 158 5 [Value.ref 37, Value.int l1, Value.int l2, Value.int l3] [Value.int s0] (sz, sl, sh, R, I, J) =
    (if s0 = 0 then some (some (Value.int (-1)), (sz, sl, sh, R, I, J)) else ((ev X d 148 [Value.int l2, Value.int (0), Value.int (1)] (sz, sl, sh, R, I, J)).bind fun q => exe X d 158 14 [Value.ref 37, Value.int l1, Value.int l2, Value.int l3] (q.1.toList ++ []) q.2)) :=
  tq ((E_if_eq f158_5)) (ite_c (tq ((E_iconst (x := (-1)) (by decide) f158_36)) ((E_iret pr_158 f158_37))) (tq ((E_iload (x := l2) rfl f158_8)) (tq ((E_iconst (x := (0)) (by decide) f158_9)) (tq ((E_iconst (x := (1)) (by decide) f158_10)) ((E_callS pn_148 rfl rfl (Nat.le_of_ble_eq_true rfl) (Nat.le_of_ble_eq_true rfl) f158_11))))))
theorem t158_14 {X : XX} {d : Nat} {sz sl : Nat} {sh : Nat → Nat × Nat} {R : Nat → Nat → Option Nat} {I : Nat → Nat → Int32} {J : Nat → Nat → Int64} {l1 : Int32} {l2 : Int32} {l3 : Int32} {s0 : Int32} : exe X d 158 14 [Value.ref 37, Value.int l1, Value.int l2, Value.int l3] [Value.int s0] (sz, sl, sh, R, I, J) =
    (if s0 = 0 then some (some (Value.int (-1)), (sz, sl, sh, R, I, J)) else (if ¬ l2 = 0 then ((ev X d 148 [Value.int l3, Value.int (1), Value.int (99)] (sz, sl, sh, R, I, J)).bind fun q => exe X d 158 33 [Value.ref 37, Value.int l1, Value.int l2, Value.int l3] (q.1.toList ++ []) q.2) else ((ev X d 148 [Value.int l3, Value.int (1), Value.int (9)] (sz, sl, sh, R, I, J)).bind fun q => exe X d 158 33 [Value.ref 37, Value.int l1, Value.int l2, Value.int l3] (q.1.toList ++ []) q.2))) :=
  tq ((E_if_eq f158_14)) (ite_c (tq ((E_iconst (x := (-1)) (by decide) f158_36)) ((E_iret pr_158 f158_37))) (tq ((E_iload (x := l3) rfl f158_17)) (tq ((E_iconst (x := (1)) (by decide) f158_18)) (tq ((E_iload (x := l2) rfl f158_19)) (tq ((E_if_ne f158_20)) (ite_c (tq ((E_iconst (x := (99)) (by decide) f158_28)) ((E_callS pn_148 rfl rfl (Nat.le_of_ble_eq_true rfl) (Nat.le_of_ble_eq_true rfl) f158_30))) (tq ((E_iconst (x := (9)) (by decide) f158_23)) (tq ((E_goto f158_25)) ((E_callS pn_148 rfl rfl (Nat.le_of_ble_eq_true rfl) (Nat.le_of_ble_eq_true rfl) f158_30))))))))))
theorem t158_33 {X : XX} {d : Nat} {sz sl : Nat} {sh : Nat → Nat × Nat} {R : Nat → Nat → Option Nat} {I : Nat → Nat → Int32} {J : Nat → Nat → Int64} (hS : SF sh R) {l1 : Int32} {l2 : Int32} {l3 : Int32} {s0 : Int32} : exe X d 158 33 [Value.ref 37, Value.int l1, Value.int l2, Value.int l3] [Value.int s0] (sz, sl, sh, R, I, J) =
    (if ¬ s0 = 0 then ((ev X d 155 [Value.ref 37, Value.int ((((10) * l1) + (8)) + l2), Value.int l3] (sz, sl, sh, R, I, J)).bind fun q => exe X d 158 52 [dm, dm, dm, dm] (q.1.toList ++ []) q.2) else some (some (Value.int (-1)), (sz, sl, sh, R, I, J))) :=
  tq ((E_if_ne f158_33)) (ite_c (tq ((E_aload (v := Value.ref 37) rfl rfl f158_38)) (tq ((E_iconst (x := (10)) (by decide) f158_39)) (tq ((E_iload (x := l1) rfl f158_41)) (tq ((E_imul f158_42)) (tq ((E_iconst (x := (8)) (by decide) f158_43)) (tq ((E_iadd f158_45)) (tq ((E_iload (x := l2) rfl f158_46)) (tq ((E_iadd f158_47)) (tq ((E_iload (x := l3) rfl f158_48)) ((tq ((E_callV pn_155 pc_155 rfl rfl (Nat.le_of_ble_eq_true rfl) f158_49)) (if_pos (zS37 hS))))))))))))) (tq ((E_iconst (x := (-1)) (by decide) f158_36)) ((E_iret pr_158 f158_37))))
theorem t158_52 {X : XX} {d : Nat} {sz sl : Nat} {sh : Nat → Nat × Nat} {R : Nat → Nat → Option Nat} {I : Nat → Nat → Int32} {J : Nat → Nat → Int64} {s0 : Int32} : exe X d 158 52 [dm, dm, dm, dm] [Value.int s0] (sz, sl, sh, R, I, J) =
    some (some (Value.int s0), (sz, sl, sh, R, I, J)) :=
  (E_iret pr_158 f158_52)
theorem n158 {X : XX} {d : Nat} {h : HP} {a0 : Int32} {a1 : Int32} {a2 : Int32} : ev X (d + 1) 158 [Value.ref 37, Value.int a0, Value.int a1, Value.int a2] h = exe X d 158 0 [Value.ref 37, Value.int a0, Value.int a1, Value.int a2] [] h := ev_exe (Nat.le_of_ble_eq_true rfl)
theorem f159_0 : fr 159 0 = some (.aload 0, 1, [], []) := by decide +kernel
theorem f159_1 : fr 159 1 = some (.iload 1, 1, [], []) := by decide +kernel
theorem f159_2 : fr 159 2 = some (.invokevirtual 150, 3, [], []) := by decide +kernel
theorem f159_5 : fr 159 5 = some (.ifCond .eq 26, 3, [], [0, 1, 2, 3, 4]) := by decide +kernel
theorem f159_8 : fr 159 8 = some (.iload 2, 1, [], []) := by decide +kernel
theorem f159_9 : fr 159 9 = some (.invokestatic 160, 3, [], []) := by decide +kernel
theorem f159_12 : fr 159 12 = some (.ifCond .eq 26, 3, [], [0, 1, 2, 3, 4]) := by decide +kernel
theorem f159_15 : fr 159 15 = some (.iload 4, 2, [], []) := by decide +kernel
theorem f159_17 : fr 159 17 = some (.iconst 1, 1, [], []) := by decide +kernel
theorem f159_18 : fr 159 18 = some (.iconst 8, 2, [], []) := by decide +kernel
theorem f159_20 : fr 159 20 = some (.invokestatic 148, 3, [], []) := by decide +kernel
theorem f159_23 : fr 159 23 = some (.ifCond .ne 28, 3, [0, 1, 2, 3, 4], []) := by decide +kernel
theorem f159_26 : fr 159 26 = some (.iconst (-1), 1, [], []) := by decide +kernel
theorem f159_27 : fr 159 27 = some (.ireturn, 1, [], []) := by decide +kernel
theorem f159_28 : fr 159 28 = some (.aload 0, 1, [], []) := by decide +kernel
theorem f159_29 : fr 159 29 = some (.getfield 11032, 3, [], []) := by decide +kernel
theorem f159_32 : fr 159 32 = some (.iload 2, 1, [], []) := by decide +kernel
theorem f159_33 : fr 159 33 = some (.iaload, 1, [], []) := by decide +kernel
theorem f159_34 : fr 159 34 = some (.iconst (-1), 1, [], []) := by decide +kernel
theorem f159_35 : fr 159 35 = some (.if_icmp .ne 40, 3, [0, 1, 2, 3, 4], []) := by decide +kernel
theorem f159_38 : fr 159 38 = some (.iconst 0, 1, [], []) := by decide +kernel
theorem f159_39 : fr 159 39 = some (.ireturn, 1, [], []) := by decide +kernel
theorem f159_40 : fr 159 40 = some (.aload 0, 1, [], []) := by decide +kernel
theorem f159_41 : fr 159 41 = some (.getfield 11032, 3, [], []) := by decide +kernel
theorem f159_44 : fr 159 44 = some (.iload 2, 1, [], []) := by decide +kernel
theorem f159_45 : fr 159 45 = some (.iaload, 1, [], []) := by decide +kernel
theorem f159_46 : fr 159 46 = some (.iconst (-2), 2, [], []) := by decide +kernel
theorem f159_48 : fr 159 48 = some (.if_icmp .ne 61, 3, [], [0, 1, 2, 3, 4]) := by decide +kernel
theorem f159_51 : fr 159 51 = some (.aload 0, 1, [], []) := by decide +kernel
theorem f159_52 : fr 159 52 = some (.getfield 11033, 3, [], []) := by decide +kernel
theorem f159_55 : fr 159 55 = some (.iload 2, 1, [], []) := by decide +kernel
theorem f159_56 : fr 159 56 = some (.iaload, 1, [], []) := by decide +kernel
theorem f159_57 : fr 159 57 = some (.iconst 2, 1, [], []) := by decide +kernel
theorem f159_58 : fr 159 58 = some (.if_icmp .eq 64, 3, [0, 1, 2, 3, 4], []) := by decide +kernel
theorem f159_61 : fr 159 61 = some (.iconst (-12), 2, [], []) := by decide +kernel
theorem f159_63 : fr 159 63 = some (.ireturn, 1, [], []) := by decide +kernel
theorem f159_64 : fr 159 64 = some (.iconst 0, 1, [], []) := by decide +kernel
theorem f159_65 : fr 159 65 = some (.istore 5, 2, [], []) := by decide +kernel
theorem f159_67 : fr 159 67 = some (.iload 3, 1, [3], []) := by decide +kernel
theorem f159_68 : fr 159 68 = some (.istore 6, 2, [], []) := by decide +kernel
theorem f159_70 : fr 159 70 = some (.iload 5, 2, [], []) := by decide +kernel
theorem f159_72 : fr 159 72 = some (.iload 4, 2, [], []) := by decide +kernel
theorem f159_74 : fr 159 74 = some (.if_icmp .ge 149, 3, [], [0, 1, 2, 4, 6]) := by decide +kernel
theorem f159_77 : fr 159 77 = some (.iload 6, 2, [], []) := by decide +kernel
theorem f159_79 : fr 159 79 = some (.ifCond .lt 149, 3, [], [0, 1, 2, 4, 6]) := by decide +kernel
theorem f159_82 : fr 159 82 = some (.iload 6, 2, [], []) := by decide +kernel
theorem f159_84 : fr 159 84 = some (.aload 0, 1, [], []) := by decide +kernel
theorem f159_85 : fr 159 85 = some (.getfield 11034, 3, [], []) := by decide +kernel
theorem f159_88 : fr 159 88 = some (.iload 2, 1, [], []) := by decide +kernel
theorem f159_89 : fr 159 89 = some (.iaload, 1, [], []) := by decide +kernel
theorem f159_90 : fr 159 90 = some (.if_icmp .ge 149, 3, [], [0, 1, 2, 4, 6]) := by decide +kernel
theorem f159_93 : fr 159 93 = some (.aload 0, 1, [], []) := by decide +kernel
theorem f159_94 : fr 159 94 = some (.getfield 11035, 3, [], []) := by decide +kernel
theorem f159_97 : fr 159 97 = some (.iconst 60, 2, [], []) := by decide +kernel
theorem f159_99 : fr 159 99 = some (.iload 2, 1, [], []) := by decide +kernel
theorem f159_100 : fr 159 100 = some (.imul, 1, [], []) := by decide +kernel
theorem f159_101 : fr 159 101 = some (.iload 6, 2, [], []) := by decide +kernel
theorem f159_103 : fr 159 103 = some (.iadd, 1, [], []) := by decide +kernel
theorem f159_104 : fr 159 104 = some (.laload, 1, [], []) := by decide +kernel
theorem f159_105 : fr 159 105 = some (.l2i, 1, [], []) := by decide +kernel
theorem f159_106 : fr 159 106 = some (.iconst 0, 1, [], []) := by decide +kernel
theorem f159_107 : fr 159 107 = some (.iconst 99999, 2, [], []) := by decide +kernel
theorem f159_109 : fr 159 109 = some (.invokestatic 148, 3, [], []) := by decide +kernel
theorem f159_112 : fr 159 112 = some (.ifCond .eq 149, 3, [], [0, 1, 2, 4, 6]) := by decide +kernel
theorem f159_115 : fr 159 115 = some (.aload 0, 1, [], []) := by decide +kernel
theorem f159_116 : fr 159 116 = some (.getfield 11005, 3, [], []) := by decide +kernel
theorem f159_119 : fr 159 119 = some (.iconst 8, 2, [], []) := by decide +kernel
theorem f159_121 : fr 159 121 = some (.iload 1, 1, [], []) := by decide +kernel
theorem f159_122 : fr 159 122 = some (.imul, 1, [], []) := by decide +kernel
theorem f159_123 : fr 159 123 = some (.iload 5, 2, [], []) := by decide +kernel
theorem f159_125 : fr 159 125 = some (.iadd, 1, [], []) := by decide +kernel
theorem f159_126 : fr 159 126 = some (.aload 0, 1, [], []) := by decide +kernel
theorem f159_127 : fr 159 127 = some (.getfield 11035, 3, [], []) := by decide +kernel
theorem f159_130 : fr 159 130 = some (.iconst 60, 2, [], []) := by decide +kernel
theorem f159_132 : fr 159 132 = some (.iload 2, 1, [], []) := by decide +kernel
theorem f159_133 : fr 159 133 = some (.imul, 1, [], []) := by decide +kernel
theorem f159_134 : fr 159 134 = some (.iload 6, 2, [], []) := by decide +kernel
theorem f159_136 : fr 159 136 = some (.iadd, 1, [], []) := by decide +kernel
theorem f159_137 : fr 159 137 = some (.laload, 1, [], []) := by decide +kernel
theorem f159_138 : fr 159 138 = some (.l2i, 1, [], []) := by decide +kernel
theorem f159_139 : fr 159 139 = some (.iastore, 1, [], []) := by decide +kernel
theorem f159_140 : fr 159 140 = some (.iinc 5 1, 3, [], []) := by decide +kernel
theorem f159_143 : fr 159 143 = some (.iinc 6 1, 3, [], []) := by decide +kernel
theorem f159_146 : fr 159 146 = some (.goto 70, 3, [], []) := by decide +kernel
theorem f159_149 : fr 159 149 = some (.iload 5, 2, [5], []) := by decide +kernel
theorem f159_151 : fr 159 151 = some (.ireturn, 1, [], []) := by decide +kernel
theorem t159_0 {X : XX} {d : Nat} {sz sl : Nat} {sh : Nat → Nat × Nat} {R : Nat → Nat → Option Nat} {I : Nat → Nat → Int32} {J : Nat → Nat → Int64} (hS : SF sh R) {l1 : Int32} {l2 : Int32} {l3 : Int32} {l4 : Int32} : exe X d 159 0 [Value.ref 37, Value.int l1, Value.int l2, Value.int l3, Value.int l4, dm, dm] [] (sz, sl, sh, R, I, J) =
    ((ev X d 150 [Value.ref 37, Value.int l1] (sz, sl, sh, R, I, J)).bind fun q => exe X d 159 5 [Value.ref 37, Value.int l1, Value.int l2, Value.int l3, Value.int l4, dm, dm] (q.1.toList ++ []) q.2) :=
  tq ((E_aload (v := Value.ref 37) rfl rfl f159_0)) (tq ((E_iload (x := l1) rfl f159_1)) ((tq ((E_callV pn_150 pc_150 rfl rfl (Nat.le_of_ble_eq_true rfl) f159_2)) (if_pos (zS37 hS)))))
theorem t159_5 {X : XX} {d : Nat} {sz sl : Nat} {sh : Nat → Nat × Nat} {R : Nat → Nat → Option Nat} {I : Nat → Nat → Int32} {J : Nat → Nat → Int64} {l1 : Int32} {l2 : Int32} {l3 : Int32} {l4 : Int32} {s0 : Int32} : exe X d 159 5 [Value.ref 37, Value.int l1, Value.int l2, Value.int l3, Value.int l4, dm, dm] [Value.int s0] (sz, sl, sh, R, I, J) =
    (if s0 = 0 then some (some (Value.int (-1)), (sz, sl, sh, R, I, J)) else ((ev X d 160 [Value.int l2] (sz, sl, sh, R, I, J)).bind fun q => exe X d 159 12 [Value.ref 37, Value.int l1, Value.int l2, Value.int l3, Value.int l4, dm, dm] (q.1.toList ++ []) q.2)) :=
  tq ((E_if_eq f159_5)) (ite_c (tq ((E_iconst (x := (-1)) (by decide) f159_26)) ((E_iret pr_159 f159_27))) (tq ((E_iload (x := l2) rfl f159_8)) ((E_callS pn_160 rfl rfl (Nat.le_of_ble_eq_true rfl) (Nat.le_of_ble_eq_true rfl) f159_9))))
theorem t159_12 {X : XX} {d : Nat} {sz sl : Nat} {sh : Nat → Nat × Nat} {R : Nat → Nat → Option Nat} {I : Nat → Nat → Int32} {J : Nat → Nat → Int64} {l1 : Int32} {l2 : Int32} {l3 : Int32} {l4 : Int32} {s0 : Int32} : exe X d 159 12 [Value.ref 37, Value.int l1, Value.int l2, Value.int l3, Value.int l4, dm, dm] [Value.int s0] (sz, sl, sh, R, I, J) =
    (if s0 = 0 then some (some (Value.int (-1)), (sz, sl, sh, R, I, J)) else ((ev X d 148 [Value.int l4, Value.int (1), Value.int (8)] (sz, sl, sh, R, I, J)).bind fun q => exe X d 159 23 [Value.ref 37, Value.int l1, Value.int l2, Value.int l3, Value.int l4, dm, dm] (q.1.toList ++ []) q.2)) :=
  tq ((E_if_eq f159_12)) (ite_c (tq ((E_iconst (x := (-1)) (by decide) f159_26)) ((E_iret pr_159 f159_27))) (tq ((E_iload (x := l4) rfl f159_15)) (tq ((E_iconst (x := (1)) (by decide) f159_17)) (tq ((E_iconst (x := (8)) (by decide) f159_18)) ((E_callS pn_148 rfl rfl (Nat.le_of_ble_eq_true rfl) (Nat.le_of_ble_eq_true rfl) f159_20))))))
theorem t159_23 {X : XX} {d : Nat} {sz sl : Nat} {sh : Nat → Nat × Nat} {R : Nat → Nat → Option Nat} {I : Nat → Nat → Int32} {J : Nat → Nat → Int64} (hS : SF sh R) {l1 : Int32} {l2 : Int32} {l3 : Int32} {l4 : Int32} {s0 : Int32} : exe X d 159 23 [Value.ref 37, Value.int l1, Value.int l2, Value.int l3, Value.int l4, dm, dm] [Value.int s0] (sz, sl, sh, R, I, J) =
    (if ¬ s0 = 0 then (if inb l2 6 then (if ¬ (I 61 l2.toNatClampNeg) = (-1) then (if inb l2 6 then (if ¬ (I 61 l2.toNatClampNeg) = (-2) then some (some (Value.int (-12)), (sz, sl, sh, R, I, J)) else (if inb l2 6 then (if (I 62 l2.toNatClampNeg) = (2) then exe X d 159 70 [Value.ref 37, Value.int l1, Value.int l2, dm, Value.int l4, Value.int (0), Value.int l3] [] (sz, sl, sh, R, I, J) else some (some (Value.int (-12)), (sz, sl, sh, R, I, J))) else none)) else none) else some (some (Value.int (0)), (sz, sl, sh, R, I, J))) else none) else some (some (Value.int (-1)), (sz, sl, sh, R, I, J))) :=
  tq ((E_if_ne f159_23)) (ite_c (tq ((E_aload (v := Value.ref 37) rfl rfl f159_28)) (tq (tq ((G11032 f159_29)) (if_pos (zS37 hS))) (tq (exe_R (zR37_32 hS)) (tq ((E_iload (x := l2) rfl f159_32)) (tq (tq ((E_iald f159_33)) (ite_ar (zS61 hS))) (ite_c (tq ((E_iconst (x := (-1)) (by decide) f159_34)) (tq ((E_ic_ne f159_35)) (ite_c (tq ((E_aload (v := Value.ref 37) rfl rfl f159_40)) (tq (tq ((G11032 f159_41)) (if_pos (zS37 hS))) (tq (exe_R (zR37_32 hS)) (tq ((E_iload (x := l2) rfl f159_44)) (tq (tq ((E_iald f159_45)) (ite_ar (zS61 hS))) (ite_c (tq ((E_iconst (x := (-2)) (by decide) f159_46)) (tq ((E_ic_ne f159_48)) (ite_c (tq ((E_iconst (x := (-12)) (by decide) f159_61)) ((E_iret pr_159 f159_63))) (tq ((E_aload (v := Value.ref 37) rfl rfl f159_51)) (tq (tq ((G11033 f159_52)) (if_pos (zS37 hS))) (tq (exe_R (zR37_33 hS)) (tq ((E_iload (x := l2) rfl f159_55)) (tq (tq ((E_iald f159_56)) (ite_ar (zS62 hS))) (ite_c (tq ((E_iconst (x := (2)) (by decide) f159_57)) (tq ((E_ic_eq f159_58)) (ite_c (tq ((E_iconst (x := (0)) (by decide) f159_64)) (tq ((E_istore rfl f159_65)) (tq ((E_iload (x := l3) rfl f159_67)) ((E_istore rfl f159_68))))) (tq ((E_iconst (x := (-12)) (by decide) f159_61)) ((E_iret pr_159 f159_63)))))) rfl))))))))) rfl)))))) (tq ((E_iconst (x := (0)) (by decide) f159_38)) ((E_iret pr_159 f159_39)))))) rfl)))))) (tq ((E_iconst (x := (-1)) (by decide) f159_26)) ((E_iret pr_159 f159_27))))
theorem t159_70 {X : XX} {d : Nat} {sz sl : Nat} {sh : Nat → Nat × Nat} {R : Nat → Nat → Option Nat} {I : Nat → Nat → Int32} {J : Nat → Nat → Int64} (hS : SF sh R) {l1 : Int32} {l2 : Int32} {l4 : Int32} {l5 : Int32} {l6 : Int32} : exe X d 159 70 [Value.ref 37, Value.int l1, Value.int l2, dm, Value.int l4, Value.int l5, Value.int l6] [] (sz, sl, sh, R, I, J) =
    (if l4 ≤ l5 then some (some (Value.int l5), (sz, sl, sh, R, I, J)) else (if l6 < 0 then some (some (Value.int l5), (sz, sl, sh, R, I, J)) else (if inb l2 6 then (if (I 63 l2.toNatClampNeg) ≤ l6 then some (some (Value.int l5), (sz, sl, sh, R, I, J)) else (if inb (((60) * l2) + l6) 360 then ((ev X d 148 [Value.int (Int64.toInt32 (J 64 (((60) * l2) + l6).toNatClampNeg)), Value.int (0), Value.int (99999)] (sz, sl, sh, R, I, J)).bind fun q => exe X d 159 112 [Value.ref 37, Value.int l1, Value.int l2, dm, Value.int l4, Value.int l5, Value.int l6] (q.1.toList ++ []) q.2) else none)) else none))) :=
  tq ((E_iload (x := l5) rfl f159_70)) (tq ((E_iload (x := l4) rfl f159_72)) (tq ((E_ic_ge f159_74)) (ite_c (tq ((E_iload (x := l5) rfl f159_149)) ((E_iret pr_159 f159_151))) (tq ((E_iload (x := l6) rfl f159_77)) (tq ((E_if_lt f159_79)) (ite_c (tq ((E_iload (x := l5) rfl f159_149)) ((E_iret pr_159 f159_151))) (tq ((E_iload (x := l6) rfl f159_82)) (tq ((E_aload (v := Value.ref 37) rfl rfl f159_84)) (tq (tq ((G11034 f159_85)) (if_pos (zS37 hS))) (tq (exe_R (zR37_34 hS)) (tq ((E_iload (x := l2) rfl f159_88)) (tq (tq ((E_iald f159_89)) (ite_ar (zS63 hS))) (ite_c (tq ((E_ic_ge f159_90)) (ite_c (tq ((E_iload (x := l5) rfl f159_149)) ((E_iret pr_159 f159_151))) (tq ((E_aload (v := Value.ref 37) rfl rfl f159_93)) (tq (tq ((G11035 f159_94)) (if_pos (zS37 hS))) (tq (exe_R (zR37_35 hS)) (tq ((E_iconst (x := (60)) (by decide) f159_97)) (tq ((E_iload (x := l2) rfl f159_99)) (tq ((E_imul f159_100)) (tq ((E_iload (x := l6) rfl f159_101)) (tq ((E_iadd f159_103)) (tq (tq ((E_lald f159_104)) (ite_ar (zS64 hS))) (ite_c (tq ((E_l2i f159_105)) (tq ((E_iconst (x := (0)) (by decide) f159_106)) (tq ((E_iconst (x := (99999)) (by decide) f159_107)) ((E_callS pn_148 rfl rfl (Nat.le_of_ble_eq_true rfl) (Nat.le_of_ble_eq_true rfl) f159_109))))) rfl)))))))))))) rfl)))))))))))))
theorem t159_112 {X : XX} {d : Nat} {sz sl : Nat} {sh : Nat → Nat × Nat} {R : Nat → Nat → Option Nat} {I : Nat → Nat → Int32} {J : Nat → Nat → Int64} (hS : SF sh R) {l1 : Int32} {l2 : Int32} {l4 : Int32} {l5 : Int32} {l6 : Int32} {s0 : Int32} : exe X d 159 112 [Value.ref 37, Value.int l1, Value.int l2, dm, Value.int l4, Value.int l5, Value.int l6] [Value.int s0] (sz, sl, sh, R, I, J) =
    (if s0 = 0 then some (some (Value.int l5), (sz, sl, sh, R, I, J)) else (if inb (((60) * l2) + l6) 360 then (if inb (((8) * l1) + l5) 320 then exe X d 159 70 [Value.ref 37, Value.int l1, Value.int l2, dm, Value.int l4, Value.int (l5 + (1)), Value.int (l6 + (1))] [] (sz, sl, sh, R, (u2 I 42 (((8) * l1) + l5).toNatClampNeg (Int64.toInt32 (J 64 (((60) * l2) + l6).toNatClampNeg))), J) else none) else none)) :=
  tq ((E_if_eq f159_112)) (ite_c (tq ((E_iload (x := l5) rfl f159_149)) ((E_iret pr_159 f159_151))) (tq ((E_aload (v := Value.ref 37) rfl rfl f159_115)) (tq (tq ((G11005 f159_116)) (if_pos (zS37 hS))) (tq (exe_R (zR37_5 hS)) (tq ((E_iconst (x := (8)) (by decide) f159_119)) (tq ((E_iload (x := l1) rfl f159_121)) (tq ((E_imul f159_122)) (tq ((E_iload (x := l5) rfl f159_123)) (tq ((E_iadd f159_125)) (tq ((E_aload (v := Value.ref 37) rfl rfl f159_126)) (tq (tq ((G11035 f159_127)) (if_pos (zS37 hS))) (tq (exe_R (zR37_35 hS)) (tq ((E_iconst (x := (60)) (by decide) f159_130)) (tq ((E_iload (x := l2) rfl f159_132)) (tq ((E_imul f159_133)) (tq ((E_iload (x := l6) rfl f159_134)) (tq ((E_iadd f159_136)) (tq (tq ((E_lald f159_137)) (ite_ar (zS64 hS))) (ite_c (tq ((E_l2i f159_138)) (tq (tq ((E_iast f159_139)) (ite_ar (zS42 hS))) (ite_c (tq ((E_iinc (x := l5) (x' := (1)) rfl rfl (by decide) f159_140)) (tq ((E_iinc (x := l6) (x' := (1)) rfl rfl (by decide) f159_143)) ((E_goto f159_146)))) rfl))) rfl)))))))))))))))))))
theorem n159 {X : XX} {d : Nat} {h : HP} {a0 : Int32} {a1 : Int32} {a2 : Int32} {a3 : Int32} : ev X (d + 1) 159 [Value.ref 37, Value.int a0, Value.int a1, Value.int a2, Value.int a3] h = exe X d 159 0 [Value.ref 37, Value.int a0, Value.int a1, Value.int a2, Value.int a3, dm, dm] [] h := ev_exe (Nat.le_of_ble_eq_true rfl)
theorem f160_0 : fr 160 0 = some (.iload 0, 1, [0], []) := by decide +kernel
theorem f160_1 : fr 160 1 = some (.iconst 0, 1, [], []) := by decide +kernel
theorem f160_2 : fr 160 2 = some (.iconst 5, 1, [], []) := by decide +kernel
theorem f160_3 : fr 160 3 = some (.invokestatic 148, 3, [], []) := by decide +kernel
theorem f160_6 : fr 160 6 = some (.ireturn, 1, [], []) := by decide +kernel
theorem t160_0 {X : XX} {d : Nat} {sz sl : Nat} {sh : Nat → Nat × Nat} {R : Nat → Nat → Option Nat} {I : Nat → Nat → Int32} {J : Nat → Nat → Int64} {l0 : Int32} : exe X d 160 0 [Value.int l0] [] (sz, sl, sh, R, I, J) =
    ((ev X d 148 [Value.int l0, Value.int (0), Value.int (5)] (sz, sl, sh, R, I, J)).bind fun q => exe X d 160 6 [dm] (q.1.toList ++ []) q.2) :=
  tq ((E_iload (x := l0) rfl f160_0)) (tq ((E_iconst (x := (0)) (by decide) f160_1)) (tq ((E_iconst (x := (5)) (by decide) f160_2)) ((E_callS pn_148 rfl rfl (Nat.le_of_ble_eq_true rfl) (Nat.le_of_ble_eq_true rfl) f160_3))))
theorem t160_6 {X : XX} {d : Nat} {sz sl : Nat} {sh : Nat → Nat × Nat} {R : Nat → Nat → Option Nat} {I : Nat → Nat → Int32} {J : Nat → Nat → Int64} {s0 : Int32} : exe X d 160 6 [dm] [Value.int s0] (sz, sl, sh, R, I, J) =
    (if s0 = 0 ∨ s0 = 1 then some (some (Value.int s0), (sz, sl, sh, R, I, J)) else none) :=
  (E_zret pr_160 f160_6)
theorem n160 {X : XX} {d : Nat} {h : HP} {a0 : Int32} : ev X (d + 1) 160 [Value.int a0] h = exe X d 160 0 [Value.int a0] [] h := ev_exe (Nat.le_of_ble_eq_true rfl)
theorem f161_0 : fr 161 0 = some (.aload 0, 1, [], []) := by decide +kernel
theorem f161_1 : fr 161 1 = some (.iload 1, 1, [], []) := by decide +kernel
theorem f161_2 : fr 161 2 = some (.invokevirtual 150, 3, [], []) := by decide +kernel
theorem f161_5 : fr 161 5 = some (.ifCond .eq 36, 3, [], [0, 1, 2]) := by decide +kernel
theorem f161_8 : fr 161 8 = some (.iload 2, 1, [], []) := by decide +kernel
theorem f161_9 : fr 161 9 = some (.aload 0, 1, [], []) := by decide +kernel
theorem f161_10 : fr 161 10 = some (.getfield 11003, 3, [], []) := by decide +kernel
theorem f161_13 : fr 161 13 = some (.aload 0, 1, [], []) := by decide +kernel
theorem f161_14 : fr 161 14 = some (.iload 1, 1, [], []) := by decide +kernel
theorem f161_15 : fr 161 15 = some (.invokevirtual 150, 3, [], []) := by decide +kernel
theorem f161_18 : fr 161 18 = some (.ifCond .eq 25, 3, [], []) := by decide +kernel
theorem f161_21 : fr 161 21 = some (.iload 1, 1, [], []) := by decide +kernel
theorem f161_22 : fr 161 22 = some (.goto 26, 3, [], []) := by decide +kernel
theorem f161_25 : fr 161 25 = some (.iconst 0, 1, [], []) := by decide +kernel
theorem f161_26 : fr 161 26 = some (.iaload, 1, [], []) := by decide +kernel
theorem f161_27 : fr 161 27 = some (.iconst 2000, 3, [], []) := by decide +kernel
theorem f161_30 : fr 161 30 = some (.invokestatic 148, 3, [], []) := by decide +kernel
theorem f161_33 : fr 161 33 = some (.ifCond .ne 38, 3, [0, 1, 2], []) := by decide +kernel
theorem f161_36 : fr 161 36 = some (.iconst (-1), 1, [], []) := by decide +kernel
theorem f161_37 : fr 161 37 = some (.ireturn, 1, [], []) := by decide +kernel
theorem f161_38 : fr 161 38 = some (.aload 0, 1, [], []) := by decide +kernel
theorem f161_39 : fr 161 39 = some (.iload 1, 1, [], []) := by decide +kernel
theorem f161_40 : fr 161 40 = some (.invokevirtual 162, 3, [], []) := by decide +kernel
theorem f161_43 : fr 161 43 = some (.istore 3, 1, [], []) := by decide +kernel
theorem f161_44 : fr 161 44 = some (.iconst 8, 2, [], []) := by decide +kernel
theorem f161_46 : fr 161 46 = some (.iload 1, 1, [], []) := by decide +kernel
theorem f161_47 : fr 161 47 = some (.imul, 1, [], []) := by decide +kernel
theorem f161_48 : fr 161 48 = some (.istore 4, 2, [], []) := by decide +kernel
theorem f161_50 : fr 161 50 = some (.iload 4, 2, [], []) := by decide +kernel
theorem f161_52 : fr 161 52 = some (.iconst 8, 2, [], []) := by decide +kernel
theorem f161_54 : fr 161 54 = some (.iload 1, 1, [], []) := by decide +kernel
theorem f161_55 : fr 161 55 = some (.imul, 1, [], []) := by decide +kernel
theorem f161_56 : fr 161 56 = some (.iconst 8, 2, [], []) := by decide +kernel
theorem f161_58 : fr 161 58 = some (.iadd, 1, [], []) := by decide +kernel
theorem f161_59 : fr 161 59 = some (.if_icmp .ge 113, 3, [], [4]) := by decide +kernel
theorem f161_62 : fr 161 62 = some (.aload 0, 1, [], []) := by decide +kernel
theorem f161_63 : fr 161 63 = some (.getfield 11007, 3, [], []) := by decide +kernel
theorem f161_66 : fr 161 66 = some (.iload 1, 1, [], []) := by decide +kernel
theorem f161_67 : fr 161 67 = some (.baload, 1, [], []) := by decide +kernel
theorem f161_68 : fr 161 68 = some (.ifCond .eq 81, 3, [], []) := by decide +kernel
theorem f161_71 : fr 161 71 = some (.aload 0, 1, [], []) := by decide +kernel
theorem f161_72 : fr 161 72 = some (.getfield 11006, 3, [], []) := by decide +kernel
theorem f161_75 : fr 161 75 = some (.iload 4, 2, [], []) := by decide +kernel
theorem f161_77 : fr 161 77 = some (.iaload, 1, [], []) := by decide +kernel
theorem f161_78 : fr 161 78 = some (.goto 82, 3, [], []) := by decide +kernel
theorem f161_81 : fr 161 81 = some (.iconst 0, 1, [], []) := by decide +kernel
theorem f161_82 : fr 161 82 = some (.istore 5, 2, [], []) := by decide +kernel
theorem f161_84 : fr 161 84 = some (.aload 0, 1, [], []) := by decide +kernel
theorem f161_85 : fr 161 85 = some (.getfield 11006, 3, [], []) := by decide +kernel
theorem f161_88 : fr 161 88 = some (.iload 4, 2, [], []) := by decide +kernel
theorem f161_90 : fr 161 90 = some (.aload 0, 1, [], []) := by decide +kernel
theorem f161_91 : fr 161 91 = some (.getfield 11005, 3, [], []) := by decide +kernel
theorem f161_94 : fr 161 94 = some (.iload 4, 2, [], []) := by decide +kernel
theorem f161_96 : fr 161 96 = some (.iaload, 1, [], []) := by decide +kernel
theorem f161_97 : fr 161 97 = some (.iastore, 1, [], []) := by decide +kernel
theorem f161_98 : fr 161 98 = some (.aload 0, 1, [], []) := by decide +kernel
theorem f161_99 : fr 161 99 = some (.getfield 11005, 3, [], []) := by decide +kernel
theorem f161_102 : fr 161 102 = some (.iload 4, 2, [], []) := by decide +kernel
theorem f161_104 : fr 161 104 = some (.iload 5, 2, [5], []) := by decide +kernel
theorem f161_106 : fr 161 106 = some (.iastore, 1, [], []) := by decide +kernel
theorem f161_107 : fr 161 107 = some (.iinc 4 1, 3, [], []) := by decide +kernel
theorem f161_110 : fr 161 110 = some (.goto 50, 3, [], []) := by decide +kernel
theorem f161_113 : fr 161 113 = some (.aload 0, 1, [], []) := by decide +kernel
theorem f161_114 : fr 161 114 = some (.getfield 11007, 3, [], []) := by decide +kernel
theorem f161_117 : fr 161 117 = some (.iload 1, 1, [], []) := by decide +kernel
theorem f161_118 : fr 161 118 = some (.iconst 1, 1, [], []) := by decide +kernel
theorem f161_119 : fr 161 119 = some (.bastore, 1, [], []) := by decide +kernel
theorem f161_120 : fr 161 120 = some (.aload 0, 1, [0], []) := by decide +kernel
theorem f161_121 : fr 161 121 = some (.getfield 11003, 3, [], []) := by decide +kernel
theorem f161_124 : fr 161 124 = some (.iload 1, 1, [1], []) := by decide +kernel
theorem f161_125 : fr 161 125 = some (.iload 2, 1, [2], []) := by decide +kernel
theorem f161_126 : fr 161 126 = some (.iastore, 1, [], []) := by decide +kernel
theorem f161_127 : fr 161 127 = some (.iload 3, 1, [3], []) := by decide +kernel
theorem f161_128 : fr 161 128 = some (.ireturn, 1, [], []) := by decide +kernel
theorem t161_0 {X : XX} {d : Nat} {sz sl : Nat} {sh : Nat → Nat × Nat} {R : Nat → Nat → Option Nat} {I : Nat → Nat → Int32} {J : Nat → Nat → Int64} (hS : SF sh R) {l1 : Int32} {l2 : Int32} : exe X d 161 0 [Value.ref 37, Value.int l1, Value.int l2, dm, dm, dm] [] (sz, sl, sh, R, I, J) =
    ((ev X d 150 [Value.ref 37, Value.int l1] (sz, sl, sh, R, I, J)).bind fun q => exe X d 161 5 [Value.ref 37, Value.int l1, Value.int l2, dm, dm, dm] (q.1.toList ++ []) q.2) :=
  tq ((E_aload (v := Value.ref 37) rfl rfl f161_0)) (tq ((E_iload (x := l1) rfl f161_1)) ((tq ((E_callV pn_150 pc_150 rfl rfl (Nat.le_of_ble_eq_true rfl) f161_2)) (if_pos (zS37 hS)))))
theorem t161_5 {X : XX} {d : Nat} {sz sl : Nat} {sh : Nat → Nat × Nat} {R : Nat → Nat → Option Nat} {I : Nat → Nat → Int32} {J : Nat → Nat → Int64} (hS : SF sh R) {l1 : Int32} {l2 : Int32} {s0 : Int32} : exe X d 161 5 [Value.ref 37, Value.int l1, Value.int l2, dm, dm, dm] [Value.int s0] (sz, sl, sh, R, I, J) =
    (if s0 = 0 then some (some (Value.int (-1)), (sz, sl, sh, R, I, J)) else ((ev X d 150 [Value.ref 37, Value.int l1] (sz, sl, sh, R, I, J)).bind fun q => exe X d 161 18 [Value.ref 37, Value.int l1, Value.int l2, dm, dm, dm] (q.1.toList ++ [Value.ref 40, Value.int l2]) q.2)) :=
  tq ((E_if_eq f161_5)) (ite_c (tq ((E_iconst (x := (-1)) (by decide) f161_36)) ((E_iret pr_161 f161_37))) (tq ((E_iload (x := l2) rfl f161_8)) (tq ((E_aload (v := Value.ref 37) rfl rfl f161_9)) (tq (tq ((G11003 f161_10)) (if_pos (zS37 hS))) (tq (exe_R (zR37_3 hS)) (tq ((E_aload (v := Value.ref 37) rfl rfl f161_13)) (tq ((E_iload (x := l1) rfl f161_14)) ((tq ((E_callV pn_150 pc_150 rfl rfl (Nat.le_of_ble_eq_true rfl) f161_15)) (if_pos (zS37 hS)))))))))))
theorem t161_18 {X : XX} {d : Nat} {sz sl : Nat} {sh : Nat → Nat × Nat} {R : Nat → Nat → Option Nat} {I : Nat → Nat → Int32} {J : Nat → Nat → Int64} {l1 : Int32} {l2 : Int32} {s0 : Int32} {s1 : Value} (k1 : isB s1 = true) {s2 : Int32} : exe X d 161 18 [Value.ref 37, Value.int l1, Value.int l2, dm, dm, dm] [Value.int s0, s1, Value.int s2] (sz, sl, sh, R, I, J) =
    (if s0 = 0 then (rf (s1) fun p1 => (if (sh p1).1 = 0 ∧ inb (0) (sh p1).2 then ((ev X d 148 [Value.int s2, Value.int (I p1 0), Value.int (2000)] (sz, sl, sh, R, I, J)).bind fun q => exe X d 161 33 [Value.ref 37, Value.int l1, Value.int l2, dm, dm, dm] (q.1.toList ++ []) q.2) else none)) else (rf (s1) fun p2 => (if (sh p2).1 = 0 ∧ inb l1 (sh p2).2 then ((ev X d 148 [Value.int s2, Value.int (I p2 l1.toNatClampNeg), Value.int (2000)] (sz, sl, sh, R, I, J)).bind fun q => exe X d 161 33 [Value.ref 37, Value.int l1, Value.int l2, dm, dm, dm] (q.1.toList ++ []) q.2) else none))) :=
  tq ((E_if_eq f161_18)) (ite_c (tq ((E_iconst (x := (0)) (by decide) f161_25)) (tq ((E_ialdB k1 f161_26)) (rf_c fun p1 => ite_c (tq ((E_iconst (x := (2000)) (by decide) f161_27)) ((E_callS pn_148 rfl rfl (Nat.le_of_ble_eq_true rfl) (Nat.le_of_ble_eq_true rfl) f161_30))) rfl))) (tq ((E_iload (x := l1) rfl f161_21)) (tq ((E_goto f161_22)) (tq ((E_ialdB k1 f161_26)) (rf_c fun p2 => ite_c (tq ((E_iconst (x := (2000)) (by decide) f161_27)) ((E_callS pn_148 rfl rfl (Nat.le_of_ble_eq_true rfl) (Nat.le_of_ble_eq_true rfl) f161_30))) rfl)))))
theorem t161_33 {X : XX} {d : Nat} {sz sl : Nat} {sh : Nat → Nat × Nat} {R : Nat → Nat → Option Nat} {I : Nat → Nat → Int32} {J : Nat → Nat → Int64} (hS : SF sh R) {l1 : Int32} {l2 : Int32} {s0 : Int32} : exe X d 161 33 [Value.ref 37, Value.int l1, Value.int l2, dm, dm, dm] [Value.int s0] (sz, sl, sh, R, I, J) =
    (if ¬ s0 = 0 then ((ev X d 162 [Value.ref 37, Value.int l1] (sz, sl, sh, R, I, J)).bind fun q => exe X d 161 43 [Value.ref 37, Value.int l1, Value.int l2, dm, dm, dm] (q.1.toList ++ []) q.2) else some (some (Value.int (-1)), (sz, sl, sh, R, I, J))) :=
  tq ((E_if_ne f161_33)) (ite_c (tq ((E_aload (v := Value.ref 37) rfl rfl f161_38)) (tq ((E_iload (x := l1) rfl f161_39)) ((tq ((E_callV pn_162 pc_162 rfl rfl (Nat.le_of_ble_eq_true rfl) f161_40)) (if_pos (zS37 hS)))))) (tq ((E_iconst (x := (-1)) (by decide) f161_36)) ((E_iret pr_161 f161_37))))
theorem t161_43 {X : XX} {d : Nat} {sz sl : Nat} {sh : Nat → Nat × Nat} {R : Nat → Nat → Option Nat} {I : Nat → Nat → Int32} {J : Nat → Nat → Int64} {l1 : Int32} {l2 : Int32} {s0 : Int32} : exe X d 161 43 [Value.ref 37, Value.int l1, Value.int l2, dm, dm, dm] [Value.int s0] (sz, sl, sh, R, I, J) =
    exe X d 161 50 [Value.ref 37, Value.int l1, Value.int l2, Value.int s0, Value.int ((8) * l1), dm] [] (sz, sl, sh, R, I, J) :=
  tq ((E_istore rfl f161_43)) (tq ((E_iconst (x := (8)) (by decide) f161_44)) (tq ((E_iload (x := l1) rfl f161_46)) (tq ((E_imul f161_47)) ((E_istore rfl f161_48)))))
theorem t161_50 {X : XX} {d : Nat} {sz sl : Nat} {sh : Nat → Nat × Nat} {R : Nat → Nat → Option Nat} {I : Nat → Nat → Int32} {J : Nat → Nat → Int64} (hS : SF sh R) {l1 : Int32} {l2 : Int32} {l3 : Int32} {l4 : Int32} : exe X d 161 50 [Value.ref 37, Value.int l1, Value.int l2, Value.int l3, Value.int l4, dm] [] (sz, sl, sh, R, I, J) =
    (if (((8) * l1) + (8)) ≤ l4 then (if inb l1 40 then (if inb l1 40 then some (some (Value.int l3), (sz, sl, sh, R, (u2 (u2 I 44 l1.toNatClampNeg (1)) 40 l1.toNatClampNeg l2), J)) else none) else none) else (if inb l1 40 then (if (I 44 l1.toNatClampNeg) = 0 then exe X d 161 82 [Value.ref 37, Value.int l1, Value.int l2, Value.int l3, Value.int l4, dm] [Value.int (0)] (sz, sl, sh, R, I, J) else (if inb l4 320 then exe X d 161 82 [Value.ref 37, Value.int l1, Value.int l2, Value.int l3, Value.int l4, dm] [Value.int (I 43 l4.toNatClampNeg)] (sz, sl, sh, R, I, J) else none)) else none)) :=
  tq ((E_iload (x := l4) rfl f161_50)) (tq ((E_iconst (x := (8)) (by decide) f161_52)) (tq ((E_iload (x := l1) rfl f161_54)) (tq ((E_imul f161_55)) (tq ((E_iconst (x := (8)) (by decide) f161_56)) (tq ((E_iadd f161_58)) (tq ((E_ic_ge f161_59)) (ite_c (tq ((E_aload (v := Value.ref 37) rfl rfl f161_113)) (tq (tq ((G11007 f161_114)) (if_pos (zS37 hS))) (tq (exe_R (zR37_7 hS)) (tq ((E_iload (x := l1) rfl f161_117)) (tq ((E_iconst (x := (1)) (by decide) f161_118)) (tq (tq ((E_zast f161_119)) (ite_arz (zS44 hS) (by decide))) (ite_c (tq ((E_aload (v := Value.ref 37) rfl rfl f161_120)) (tq (tq ((G11003 f161_121)) (if_pos (zS37 hS))) (tq (exe_R (zR37_3 hS)) (tq ((E_iload (x := l1) rfl f161_124)) (tq ((E_iload (x := l2) rfl f161_125)) (tq (tq ((E_iast f161_126)) (ite_ar (zS40 hS))) (ite_c (tq ((E_iload (x := l3) rfl f161_127)) ((E_iret pr_161 f161_128))) rfl))))))) rfl))))))) (tq ((E_aload (v := Value.ref 37) rfl rfl f161_62)) (tq (tq ((G11007 f161_63)) (if_pos (zS37 hS))) (tq (exe_R (zR37_7 hS)) (tq ((E_iload (x := l1) rfl f161_66)) (tq (tq ((E_zald f161_67)) (ite_ar (zS44 hS))) (ite_c (tq ((E_if_eq f161_68)) (ite_c ((E_iconst (x := (0)) (by decide) f161_81)) (tq ((E_aload (v := Value.ref 37) rfl rfl f161_71)) (tq (tq ((G11006 f161_72)) (if_pos (zS37 hS))) (tq (exe_R (zR37_6 hS)) (tq ((E_iload (x := l4) rfl f161_75)) (tq (tq ((E_iald f161_77)) (ite_ar (zS43 hS))) (ite_c ((E_goto f161_78)) rfl)))))))) rfl)))))))))))))
theorem t161_82 {X : XX} {d : Nat} {sz sl : Nat} {sh : Nat → Nat × Nat} {R : Nat → Nat → Option Nat} {I : Nat → Nat → Int32} {J : Nat → Nat → Int64} (hS : SF sh R) {l1 : Int32} {l2 : Int32} {l3 : Int32} {l4 : Int32} {s0 : Int32} : exe X d 161 82 [Value.ref 37, Value.int l1, Value.int l2, Value.int l3, Value.int l4, dm] [Value.int s0] (sz, sl, sh, R, I, J) =
    (if inb l4 320 then (if inb l4 320 then (if inb l4 320 then exe X d 161 50 [Value.ref 37, Value.int l1, Value.int l2, Value.int l3, Value.int (l4 + (1)), dm] [] (sz, sl, sh, R, (u2 (u2 I 43 l4.toNatClampNeg (I 42 l4.toNatClampNeg)) 42 l4.toNatClampNeg s0), J) else none) else none) else none) :=
  tq ((E_istore rfl f161_82)) (tq ((E_aload (v := Value.ref 37) rfl rfl f161_84)) (tq (tq ((G11006 f161_85)) (if_pos (zS37 hS))) (tq (exe_R (zR37_6 hS)) (tq ((E_iload (x := l4) rfl f161_88)) (tq ((E_aload (v := Value.ref 37) rfl rfl f161_90)) (tq (tq ((G11005 f161_91)) (if_pos (zS37 hS))) (tq (exe_R (zR37_5 hS)) (tq ((E_iload (x := l4) rfl f161_94)) (tq (tq ((E_iald f161_96)) (ite_ar (zS42 hS))) (ite_c (tq (tq ((E_iast f161_97)) (ite_ar (zS43 hS))) (ite_c (tq ((E_aload (v := Value.ref 37) rfl rfl f161_98)) (tq (tq ((G11005 f161_99)) (if_pos (zS37 hS))) (tq (exe_R (zR37_5 hS)) (tq ((E_iload (x := l4) rfl f161_102)) (tq ((E_iload (x := s0) rfl f161_104)) (tq (tq ((E_iast f161_106)) (ite_ar (zS42 hS))) (ite_c (tq ((E_iinc (x := l4) (x' := (1)) rfl rfl (by decide) f161_107)) ((E_goto f161_110))) rfl))))))) rfl)) rfl))))))))))
theorem n161 {X : XX} {d : Nat} {h : HP} {a0 : Int32} {a1 : Int32} : ev X (d + 1) 161 [Value.ref 37, Value.int a0, Value.int a1] h = exe X d 161 0 [Value.ref 37, Value.int a0, Value.int a1, dm, dm, dm] [] h := ev_exe (Nat.le_of_ble_eq_true rfl)
theorem f162_0 : fr 162 0 = some (.iconst 0, 1, [], []) := by decide +kernel
theorem f162_1 : fr 162 1 = some (.istore 2, 1, [], []) := by decide +kernel
theorem f162_2 : fr 162 2 = some (.iconst 0, 1, [], []) := by decide +kernel
theorem f162_3 : fr 162 3 = some (.istore 3, 1, [], []) := by decide +kernel
theorem f162_4 : fr 162 4 = some (.iload 3, 1, [], []) := by decide +kernel
theorem f162_5 : fr 162 5 = some (.iconst 8, 2, [], []) := by decide +kernel
theorem f162_7 : fr 162 7 = some (.if_icmp .ge 30, 3, [], [0, 1, 3]) := by decide +kernel
theorem f162_10 : fr 162 10 = some (.iload 2, 1, [2], []) := by decide +kernel
theorem f162_11 : fr 162 11 = some (.aload 0, 1, [], []) := by decide +kernel
theorem f162_12 : fr 162 12 = some (.getfield 11005, 3, [], []) := by decide +kernel
theorem f162_15 : fr 162 15 = some (.iconst 8, 2, [], []) := by decide +kernel
theorem f162_17 : fr 162 17 = some (.iload 1, 1, [], []) := by decide +kernel
theorem f162_18 : fr 162 18 = some (.imul, 1, [], []) := by decide +kernel
theorem f162_19 : fr 162 19 = some (.iload 3, 1, [], []) := by decide +kernel
theorem f162_20 : fr 162 20 = some (.iadd, 1, [], []) := by decide +kernel
theorem f162_21 : fr 162 21 = some (.iaload, 1, [], []) := by decide +kernel
theorem f162_22 : fr 162 22 = some (.iadd, 1, [], []) := by decide +kernel
theorem f162_23 : fr 162 23 = some (.istore 2, 1, [], []) := by decide +kernel
theorem f162_24 : fr 162 24 = some (.iinc 3 1, 3, [], []) := by decide +kernel
theorem f162_27 : fr 162 27 = some (.goto 4, 3, [], []) := by decide +kernel
theorem f162_30 : fr 162 30 = some (.iload 2, 1, [2], []) := by decide +kernel
theorem f162_31 : fr 162 31 = some (.ireturn, 1, [], []) := by decide +kernel
theorem t162_0 {X : XX} {d : Nat} {sz sl : Nat} {sh : Nat → Nat × Nat} {R : Nat → Nat → Option Nat} {I : Nat → Nat → Int32} {J : Nat → Nat → Int64} {l1 : Int32} : exe X d 162 0 [Value.ref 37, Value.int l1, dm, dm] [] (sz, sl, sh, R, I, J) =
    exe X d 162 4 [Value.ref 37, Value.int l1, Value.int (0), Value.int (0)] [] (sz, sl, sh, R, I, J) :=
  tq ((E_iconst (x := (0)) (by decide) f162_0)) (tq ((E_istore rfl f162_1)) (tq ((E_iconst (x := (0)) (by decide) f162_2)) ((E_istore rfl f162_3))))
theorem t162_4 {X : XX} {d : Nat} {sz sl : Nat} {sh : Nat → Nat × Nat} {R : Nat → Nat → Option Nat} {I : Nat → Nat → Int32} {J : Nat → Nat → Int64} (hS : SF sh R) {l1 : Int32} {l2 : Int32} {l3 : Int32} : exe X d 162 4 [Value.ref 37, Value.int l1, Value.int l2, Value.int l3] [] (sz, sl, sh, R, I, J) =
    (if (8) ≤ l3 then some (some (Value.int l2), (sz, sl, sh, R, I, J)) else (if inb (((8) * l1) + l3) 320 then exe X d 162 4 [Value.ref 37, Value.int l1, Value.int (l2 + (I 42 (((8) * l1) + l3).toNatClampNeg)), Value.int (l3 + (1))] [] (sz, sl, sh, R, I, J) else none)) :=
  tq ((E_iload (x := l3) rfl f162_4)) (tq ((E_iconst (x := (8)) (by decide) f162_5)) (tq ((E_ic_ge f162_7)) (ite_c (tq ((E_iload (x := l2) rfl f162_30)) ((E_iret pr_162 f162_31))) (tq ((E_iload (x := l2) rfl f162_10)) (tq ((E_aload (v := Value.ref 37) rfl rfl f162_11)) (tq (tq ((G11005 f162_12)) (if_pos (zS37 hS))) (tq (exe_R (zR37_5 hS)) (tq ((E_iconst (x := (8)) (by decide) f162_15)) (tq ((E_iload (x := l1) rfl f162_17)) (tq ((E_imul f162_18)) (tq ((E_iload (x := l3) rfl f162_19)) (tq ((E_iadd f162_20)) (tq (tq ((E_iald f162_21)) (ite_ar (zS42 hS))) (ite_c (tq ((E_iadd f162_22)) (tq ((E_istore rfl f162_23)) (tq ((E_iinc (x := l3) (x' := (1)) rfl rfl (by decide) f162_24)) ((E_goto f162_27))))) rfl))))))))))))))
theorem n162 {X : XX} {d : Nat} {h : HP} {a0 : Int32} : ev X (d + 1) 162 [Value.ref 37, Value.int a0] h = exe X d 162 0 [Value.ref 37, Value.int a0, dm, dm] [] h := ev_exe (Nat.le_of_ble_eq_true rfl)
theorem f163_0 : fr 163 0 = some (.aload 0, 1, [], []) := by decide +kernel
theorem f163_1 : fr 163 1 = some (.iload 1, 1, [], []) := by decide +kernel
theorem f163_2 : fr 163 2 = some (.invokevirtual 150, 3, [], []) := by decide +kernel
theorem f163_5 : fr 163 5 = some (.ifCond .ne 10, 3, [0, 1], []) := by decide +kernel
theorem f163_8 : fr 163 8 = some (.iconst (-1), 1, [], []) := by decide +kernel
theorem f163_9 : fr 163 9 = some (.ireturn, 1, [], []) := by decide +kernel
theorem f163_10 : fr 163 10 = some (.aload 0, 1, [], []) := by decide +kernel
theorem f163_11 : fr 163 11 = some (.getfield 11007, 3, [], []) := by decide +kernel
theorem f163_14 : fr 163 14 = some (.iload 1, 1, [], []) := by decide +kernel
theorem f163_15 : fr 163 15 = some (.baload, 1, [], []) := by decide +kernel
theorem f163_16 : fr 163 16 = some (.ifCond .ne 22, 3, [0, 1], []) := by decide +kernel
theorem f163_19 : fr 163 19 = some (.iconst (-5), 2, [], []) := by decide +kernel
theorem f163_21 : fr 163 21 = some (.ireturn, 1, [], []) := by decide +kernel
theorem f163_22 : fr 163 22 = some (.iconst 0, 1, [], []) := by decide +kernel
theorem f163_23 : fr 163 23 = some (.istore 2, 1, [], []) := by decide +kernel
theorem f163_24 : fr 163 24 = some (.iconst 8, 2, [], []) := by decide +kernel
theorem f163_26 : fr 163 26 = some (.iload 1, 1, [], []) := by decide +kernel
theorem f163_27 : fr 163 27 = some (.imul, 1, [], []) := by decide +kernel
theorem f163_28 : fr 163 28 = some (.istore 3, 1, [], []) := by decide +kernel
theorem f163_29 : fr 163 29 = some (.iload 3, 1, [], []) := by decide +kernel
theorem f163_30 : fr 163 30 = some (.iconst 8, 2, [], []) := by decide +kernel
theorem f163_32 : fr 163 32 = some (.iload 1, 1, [], []) := by decide +kernel
theorem f163_33 : fr 163 33 = some (.imul, 1, [], []) := by decide +kernel
theorem f163_34 : fr 163 34 = some (.iconst 8, 2, [], []) := by decide +kernel
theorem f163_36 : fr 163 36 = some (.iadd, 1, [], []) := by decide +kernel
theorem f163_37 : fr 163 37 = some (.if_icmp .ge 55, 3, [], [0, 1, 3]) := by decide +kernel
theorem f163_40 : fr 163 40 = some (.iload 2, 1, [2], []) := by decide +kernel
theorem f163_41 : fr 163 41 = some (.aload 0, 1, [], []) := by decide +kernel
theorem f163_42 : fr 163 42 = some (.getfield 11006, 3, [], []) := by decide +kernel
theorem f163_45 : fr 163 45 = some (.iload 3, 1, [], []) := by decide +kernel
theorem f163_46 : fr 163 46 = some (.iaload, 1, [], []) := by decide +kernel
theorem f163_47 : fr 163 47 = some (.iadd, 1, [], []) := by decide +kernel
theorem f163_48 : fr 163 48 = some (.istore 2, 1, [], []) := by decide +kernel
theorem f163_49 : fr 163 49 = some (.iinc 3 1, 3, [], []) := by decide +kernel
theorem f163_52 : fr 163 52 = some (.goto 29, 3, [], []) := by decide +kernel
theorem f163_55 : fr 163 55 = some (.iload 2, 1, [2], []) := by decide +kernel
theorem f163_56 : fr 163 56 = some (.ireturn, 1, [], []) := by decide +kernel
theorem t163_0 {X : XX} {d : Nat} {sz sl : Nat} {sh : Nat → Nat × Nat} {R : Nat → Nat → Option Nat} {I : Nat → Nat → Int32} {J : Nat → Nat → Int64} (hS : SF sh R) {l1 : Int32} : exe X d 163 0 [Value.ref 37, Value.int l1, dm, dm] [] (sz, sl, sh, R, I, J) =
    ((ev X d 150 [Value.ref 37, Value.int l1] (sz, sl, sh, R, I, J)).bind fun q => exe X d 163 5 [Value.ref 37, Value.int l1, dm, dm] (q.1.toList ++ []) q.2) :=
  tq ((E_aload (v := Value.ref 37) rfl rfl f163_0)) (tq ((E_iload (x := l1) rfl f163_1)) ((tq ((E_callV pn_150 pc_150 rfl rfl (Nat.le_of_ble_eq_true rfl) f163_2)) (if_pos (zS37 hS)))))
theorem t163_5 {X : XX} {d : Nat} {sz sl : Nat} {sh : Nat → Nat × Nat} {R : Nat → Nat → Option Nat} {I : Nat → Nat → Int32} {J : Nat → Nat → Int64} (hS : SF sh R) {l1 : Int32} {s0 : Int32} : exe X d 163 5 [Value.ref 37, Value.int l1, dm, dm] [Value.int s0] (sz, sl, sh, R, I, J) =
    (if ¬ s0 = 0 then (if inb l1 40 then (if ¬ (I 44 l1.toNatClampNeg) = 0 then exe X d 163 29 [Value.ref 37, Value.int l1, Value.int (0), Value.int ((8) * l1)] [] (sz, sl, sh, R, I, J) else some (some (Value.int (-5)), (sz, sl, sh, R, I, J))) else none) else some (some (Value.int (-1)), (sz, sl, sh, R, I, J))) :=
  tq ((E_if_ne f163_5)) (ite_c (tq ((E_aload (v := Value.ref 37) rfl rfl f163_10)) (tq (tq ((G11007 f163_11)) (if_pos (zS37 hS))) (tq (exe_R (zR37_7 hS)) (tq ((E_iload (x := l1) rfl f163_14)) (tq (tq ((E_zald f163_15)) (ite_ar (zS44 hS))) (ite_c (tq ((E_if_ne f163_16)) (ite_c (tq ((E_iconst (x := (0)) (by decide) f163_22)) (tq ((E_istore rfl f163_23)) (tq ((E_iconst (x := (8)) (by decide) f163_24)) (tq ((E_iload (x := l1) rfl f163_26)) (tq ((E_imul f163_27)) ((E_istore rfl f163_28))))))) (tq ((E_iconst (x := (-5)) (by decide) f163_19)) ((E_iret pr_163 f163_21))))) rfl)))))) (tq ((E_iconst (x := (-1)) (by decide) f163_8)) ((E_iret pr_163 f163_9))))
theorem t163_29 {X : XX} {d : Nat} {sz sl : Nat} {sh : Nat → Nat × Nat} {R : Nat → Nat → Option Nat} {I : Nat → Nat → Int32} {J : Nat → Nat → Int64} (hS : SF sh R) {l1 : Int32} {l2 : Int32} {l3 : Int32} : exe X d 163 29 [Value.ref 37, Value.int l1, Value.int l2, Value.int l3] [] (sz, sl, sh, R, I, J) =
    (if (((8) * l1) + (8)) ≤ l3 then some (some (Value.int l2), (sz, sl, sh, R, I, J)) else (if inb l3 320 then exe X d 163 29 [Value.ref 37, Value.int l1, Value.int (l2 + (I 43 l3.toNatClampNeg)), Value.int (l3 + (1))] [] (sz, sl, sh, R, I, J) else none)) :=
  tq ((E_iload (x := l3) rfl f163_29)) (tq ((E_iconst (x := (8)) (by decide) f163_30)) (tq ((E_iload (x := l1) rfl f163_32)) (tq ((E_imul f163_33)) (tq ((E_iconst (x := (8)) (by decide) f163_34)) (tq ((E_iadd f163_36)) (tq ((E_ic_ge f163_37)) (ite_c (tq ((E_iload (x := l2) rfl f163_55)) ((E_iret pr_163 f163_56))) (tq ((E_iload (x := l2) rfl f163_40)) (tq ((E_aload (v := Value.ref 37) rfl rfl f163_41)) (tq (tq ((G11006 f163_42)) (if_pos (zS37 hS))) (tq (exe_R (zR37_6 hS)) (tq ((E_iload (x := l3) rfl f163_45)) (tq (tq ((E_iald f163_46)) (ite_ar (zS43 hS))) (ite_c (tq ((E_iadd f163_47)) (tq ((E_istore rfl f163_48)) (tq ((E_iinc (x := l3) (x' := (1)) rfl rfl (by decide) f163_49)) ((E_goto f163_52))))) rfl))))))))))))))
theorem n163 {X : XX} {d : Nat} {h : HP} {a0 : Int32} : ev X (d + 1) 163 [Value.ref 37, Value.int a0] h = exe X d 163 0 [Value.ref 37, Value.int a0, dm, dm] [] h := ev_exe (Nat.le_of_ble_eq_true rfl)
theorem f164_0 : fr 164 0 = some (.iload 1, 1, [], []) := by decide +kernel
theorem f164_1 : fr 164 1 = some (.iconst 1, 1, [], []) := by decide +kernel
theorem f164_2 : fr 164 2 = some (.iconst 4, 1, [], []) := by decide +kernel
theorem f164_3 : fr 164 3 = some (.invokestatic 148, 3, [], []) := by decide +kernel
theorem f164_6 : fr 164 6 = some (.ifCond .ne 11, 3, [0, 1, 2], []) := by decide +kernel
theorem f164_9 : fr 164 9 = some (.iconst (-1), 1, [], []) := by decide +kernel
theorem f164_10 : fr 164 10 = some (.ireturn, 1, [], []) := by decide +kernel
theorem f164_11 : fr 164 11 = some (.aload 0, 1, [], []) := by decide +kernel
theorem f164_12 : fr 164 12 = some (.getfield 11009, 3, [], []) := by decide +kernel
theorem f164_15 : fr 164 15 = some (.iload 1, 1, [], []) := by decide +kernel
theorem f164_16 : fr 164 16 = some (.iadd, 1, [], []) := by decide +kernel
theorem f164_17 : fr 164 17 = some (.iconst 120, 2, [], []) := by decide +kernel
theorem f164_19 : fr 164 19 = some (.if_icmp .le 25, 3, [0, 1, 2], []) := by decide +kernel
theorem f164_22 : fr 164 22 = some (.iconst (-3), 2, [], []) := by decide +kernel
theorem f164_24 : fr 164 24 = some (.ireturn, 1, [], []) := by decide +kernel
theorem f164_25 : fr 164 25 = some (.iconst 0, 1, [], []) := by decide +kernel
theorem f164_26 : fr 164 26 = some (.istore 3, 1, [], []) := by decide +kernel
theorem f164_27 : fr 164 27 = some (.iload 3, 1, [], []) := by decide +kernel
theorem f164_28 : fr 164 28 = some (.iload 1, 1, [], []) := by decide +kernel
theorem f164_29 : fr 164 29 = some (.if_icmp .ge 67, 3, [], [1, 2, 3]) := by decide +kernel
theorem f164_32 : fr 164 32 = some (.aload 0, 1, [], []) := by decide +kernel
theorem f164_33 : fr 164 33 = some (.getfield 11008, 3, [], []) := by decide +kernel
theorem f164_36 : fr 164 36 = some (.aload 0, 1, [], []) := by decide +kernel
theorem f164_37 : fr 164 37 = some (.getfield 11009, 3, [], []) := by decide +kernel
theorem f164_40 : fr 164 40 = some (.iload 2, 1, [], []) := by decide +kernel
theorem f164_41 : fr 164 41 = some (.iconst 8, 2, [], []) := by decide +kernel
theorem f164_43 : fr 164 43 = some (.iload 3, 1, [], []) := by decide +kernel
theorem f164_44 : fr 164 44 = some (.imul, 1, [], []) := by decide +kernel
theorem f164_45 : fr 164 45 = some (.ishr, 1, [], []) := by decide +kernel
theorem f164_46 : fr 164 46 = some (.iconst 255, 3, [], []) := by decide +kernel
theorem f164_49 : fr 164 49 = some (.iand, 1, [], []) := by decide +kernel
theorem f164_50 : fr 164 50 = some (.iastore, 1, [], []) := by decide +kernel
theorem f164_51 : fr 164 51 = some (.aload 0, 1, [], []) := by decide +kernel
theorem f164_52 : fr 164 52 = some (.dup, 1, [], []) := by decide +kernel
theorem f164_53 : fr 164 53 = some (.getfield 11009, 3, [], []) := by decide +kernel
theorem f164_56 : fr 164 56 = some (.iconst 1, 1, [], []) := by decide +kernel
theorem f164_57 : fr 164 57 = some (.iadd, 1, [], []) := by decide +kernel
theorem f164_58 : fr 164 58 = some (.putfield 11009, 3, [], []) := by decide +kernel
theorem f164_61 : fr 164 61 = some (.iinc 3 1, 3, [], []) := by decide +kernel
theorem f164_64 : fr 164 64 = some (.goto 27, 3, [], []) := by decide +kernel
theorem f164_67 : fr 164 67 = some (.aload 0, 1, [0], []) := by decide +kernel
theorem f164_68 : fr 164 68 = some (.getfield 11009, 3, [], []) := by decide +kernel
theorem f164_71 : fr 164 71 = some (.ireturn, 1, [], []) := by decide +kernel
theorem t164_0 {X : XX} {d : Nat} {sz sl : Nat} {sh : Nat → Nat × Nat} {R : Nat → Nat → Option Nat} {I : Nat → Nat → Int32} {J : Nat → Nat → Int64} {l1 : Int32} {l2 : Int32} : exe X d 164 0 [Value.ref 37, Value.int l1, Value.int l2, dm] [] (sz, sl, sh, R, I, J) =
    ((ev X d 148 [Value.int l1, Value.int (1), Value.int (4)] (sz, sl, sh, R, I, J)).bind fun q => exe X d 164 6 [Value.ref 37, Value.int l1, Value.int l2, dm] (q.1.toList ++ []) q.2) :=
  tq ((E_iload (x := l1) rfl f164_0)) (tq ((E_iconst (x := (1)) (by decide) f164_1)) (tq ((E_iconst (x := (4)) (by decide) f164_2)) ((E_callS pn_148 rfl rfl (Nat.le_of_ble_eq_true rfl) (Nat.le_of_ble_eq_true rfl) f164_3))))
theorem t164_6 {X : XX} {d : Nat} {sz sl : Nat} {sh : Nat → Nat × Nat} {R : Nat → Nat → Option Nat} {I : Nat → Nat → Int32} {J : Nat → Nat → Int64} (hS : SF sh R) {l1 : Int32} {l2 : Int32} {s0 : Int32} : exe X d 164 6 [Value.ref 37, Value.int l1, Value.int l2, dm] [Value.int s0] (sz, sl, sh, R, I, J) =
    (if ¬ s0 = 0 then (if ((I 37 9) + l1) ≤ (120) then exe X d 164 27 [Value.ref 37, Value.int l1, Value.int l2, Value.int (0)] [] (sz, sl, sh, R, I, J) else some (some (Value.int (-3)), (sz, sl, sh, R, I, J))) else some (some (Value.int (-1)), (sz, sl, sh, R, I, J))) :=
  tq ((E_if_ne f164_6)) (ite_c (tq ((E_aload (v := Value.ref 37) rfl rfl f164_11)) (tq (tq ((G11009 f164_12)) (if_pos (zS37 hS))) (tq ((E_iload (x := l1) rfl f164_15)) (tq ((E_iadd f164_16)) (tq ((E_iconst (x := (120)) (by decide) f164_17)) (tq ((E_ic_le f164_19)) (ite_c (tq ((E_iconst (x := (0)) (by decide) f164_25)) ((E_istore rfl f164_26))) (tq ((E_iconst (x := (-3)) (by decide) f164_22)) ((E_iret pr_164 f164_24)))))))))) (tq ((E_iconst (x := (-1)) (by decide) f164_9)) ((E_iret pr_164 f164_10))))
theorem t164_27 {X : XX} {d : Nat} {sz sl : Nat} {sh : Nat → Nat × Nat} {R : Nat → Nat → Option Nat} {I : Nat → Nat → Int32} {J : Nat → Nat → Int64} (hS : SF sh R) {l1 : Int32} {l2 : Int32} {l3 : Int32} : exe X d 164 27 [Value.ref 37, Value.int l1, Value.int l2, Value.int l3] [] (sz, sl, sh, R, I, J) =
    (if l1 ≤ l3 then some (some (Value.int (I 37 9)), (sz, sl, sh, R, I, J)) else (if inb (I 37 9) 120 then exe X d 164 27 [Value.ref 37, Value.int l1, Value.int l2, Value.int (l3 + (1))] [] (sz, sl, sh, R, (u2 (u2 I 45 (I 37 9).toNatClampNeg ((l2 >>> (((8) * l3) &&& 31)) &&& (255))) 37 9 ((I 37 9) + (1))), J) else none)) :=
  tq ((E_iload (x := l3) rfl f164_27)) (tq ((E_iload (x := l1) rfl f164_28)) (tq ((E_ic_ge f164_29)) (ite_c (tq ((E_aload (v := Value.ref 37) rfl rfl f164_67)) (tq (tq ((G11009 f164_68)) (if_pos (zS37 hS))) ((E_iret pr_164 f164_71)))) (tq ((E_aload (v := Value.ref 37) rfl rfl f164_32)) (tq (tq ((G11008 f164_33)) (if_pos (zS37 hS))) (tq (exe_R (zR37_8 hS)) (tq ((E_aload (v := Value.ref 37) rfl rfl f164_36)) (tq (tq ((G11009 f164_37)) (if_pos (zS37 hS))) (tq ((E_iload (x := l2) rfl f164_40)) (tq ((E_iconst (x := (8)) (by decide) f164_41)) (tq ((E_iload (x := l3) rfl f164_43)) (tq ((E_imul f164_44)) (tq ((E_ishr f164_45)) (tq ((E_iconst (x := (255)) (by decide) f164_46)) (tq ((E_iand f164_49)) (tq (tq ((E_iast f164_50)) (ite_ar (zS45 hS))) (ite_c (tq ((E_aload (v := Value.ref 37) rfl rfl f164_51)) (tq ((E_dup rfl f164_52)) (tq (tq (tq ((G11009 f164_53)) (if_pos (zS37 hS))) (exe_i (u2_pa (by decide)))) (tq ((E_iconst (x := (1)) (by decide) f164_56)) (tq ((E_iadd f164_57)) (tq (tq ((P11009 f164_58)) (if_pos (zS37 hS))) (tq ((E_iinc (x := l3) (x' := (1)) rfl rfl (by decide) f164_61)) ((E_goto f164_64))))))))) rfl)))))))))))))))))
theorem n164 {X : XX} {d : Nat} {h : HP} {a0 : Int32} {a1 : Int32} : ev X (d + 1) 164 [Value.ref 37, Value.int a0, Value.int a1] h = exe X d 164 0 [Value.ref 37, Value.int a0, Value.int a1, dm] [] h := ev_exe (Nat.le_of_ble_eq_true rfl)
theorem f165_0 : fr 165 0 = some (.aload 0, 1, [], []) := by decide +kernel
theorem f165_1 : fr 165 1 = some (.getfield 11012, 3, [], []) := by decide +kernel
theorem f165_4 : fr 165 4 = some (.iconst 4, 1, [], []) := by decide +kernel
theorem f165_5 : fr 165 5 = some (.if_icmp .ne 11, 3, [0], []) := by decide +kernel
theorem f165_8 : fr 165 8 = some (.iconst (-3), 2, [], []) := by decide +kernel
theorem f165_10 : fr 165 10 = some (.ireturn, 1, [], []) := by decide +kernel
theorem f165_11 : fr 165 11 = some (.aload 0, 1, [], []) := by decide +kernel
theorem f165_12 : fr 165 12 = some (.aload 0, 1, [], []) := by decide +kernel
theorem f165_13 : fr 165 13 = some (.getfield 11012, 3, [], []) := by decide +kernel
theorem f165_16 : fr 165 16 = some (.invokevirtual 166, 3, [], []) := by decide +kernel
theorem f165_19 : fr 165 19 = some (.istore 1, 1, [], []) := by decide +kernel
theorem f165_20 : fr 165 20 = some (.iload 1, 1, [], []) := by decide +kernel
theorem f165_21 : fr 165 21 = some (.ifCond .lt 29, 3, [0], [1]) := by decide +kernel
theorem f165_24 : fr 165 24 = some (.iconst (-100), 2, [], []) := by decide +kernel
theorem f165_26 : fr 165 26 = some (.iload 1, 1, [1], []) := by decide +kernel
theorem f165_27 : fr 165 27 = some (.isub, 1, [], []) := by decide +kernel
theorem f165_28 : fr 165 28 = some (.ireturn, 1, [], []) := by decide +kernel
theorem f165_29 : fr 165 29 = some (.aload 0, 1, [], []) := by decide +kernel
theorem f165_30 : fr 165 30 = some (.dup, 1, [], []) := by decide +kernel
theorem f165_31 : fr 165 31 = some (.getfield 11012, 3, [], []) := by decide +kernel
theorem f165_34 : fr 165 34 = some (.iconst 1, 1, [], []) := by decide +kernel
theorem f165_35 : fr 165 35 = some (.iadd, 1, [], []) := by decide +kernel
theorem f165_36 : fr 165 36 = some (.putfield 11012, 3, [], []) := by decide +kernel
theorem f165_39 : fr 165 39 = some (.aload 0, 1, [0], []) := by decide +kernel
theorem f165_40 : fr 165 40 = some (.getfield 11012, 3, [], []) := by decide +kernel
theorem f165_43 : fr 165 43 = some (.iconst 1, 1, [], []) := by decide +kernel
theorem f165_44 : fr 165 44 = some (.isub, 1, [], []) := by decide +kernel
theorem f165_45 : fr 165 45 = some (.ireturn, 1, [], []) := by decide +kernel
theorem t165_0 {X : XX} {d : Nat} {sz sl : Nat} {sh : Nat → Nat × Nat} {R : Nat → Nat → Option Nat} {I : Nat → Nat → Int32} {J : Nat → Nat → Int64} (hS : SF sh R)  : exe X d 165 0 [Value.ref 37, dm] [] (sz, sl, sh, R, I, J) =
    (if ¬ (I 37 12) = (4) then ((ev X d 166 [Value.ref 37, Value.int (I 37 12)] (sz, sl, sh, R, I, J)).bind fun q => exe X d 165 19 [Value.ref 37, dm] (q.1.toList ++ []) q.2) else some (some (Value.int (-3)), (sz, sl, sh, R, I, J))) :=
  tq ((E_aload (v := Value.ref 37) rfl rfl f165_0)) (tq (tq ((G11012 f165_1)) (if_pos (zS37 hS))) (tq ((E_iconst (x := (4)) (by decide) f165_4)) (tq ((E_ic_ne f165_5)) (ite_c (tq ((E_aload (v := Value.ref 37) rfl rfl f165_11)) (tq ((E_aload (v := Value.ref 37) rfl rfl f165_12)) (tq (tq ((G11012 f165_13)) (if_pos (zS37 hS))) ((tq ((E_callV pn_166 pc_166 rfl rfl (Nat.le_of_ble_eq_true rfl) f165_16)) (if_pos (zS37 hS))))))) (tq ((E_iconst (x := (-3)) (by decide) f165_8)) ((E_iret pr_165 f165_10)))))))
theorem t165_19 {X : XX} {d : Nat} {sz sl : Nat} {sh : Nat → Nat × Nat} {R : Nat → Nat → Option Nat} {I : Nat → Nat → Int32} {J : Nat → Nat → Int64} (hS : SF sh R) {s0 : Int32} : exe X d 165 19 [Value.ref 37, dm] [Value.int s0] (sz, sl, sh, R, I, J) =
    (if s0 < 0 then some (some (Value.int (((I 37 12) + (1)) - (1))), (sz, sl, sh, R, (u2 I 37 12 ((I 37 12) + (1))), J)) else some (some (Value.int ((-100) - s0)), (sz, sl, sh, R, I, J))) :=
  tq ((E_istore rfl f165_19)) (tq ((E_iload (x := s0) rfl f165_20)) (tq ((E_if_lt f165_21)) (ite_c (tq ((E_aload (v := Value.ref 37) rfl rfl f165_29)) (tq ((E_dup rfl f165_30)) (tq (tq ((G11012 f165_31)) (if_pos (zS37 hS))) (tq ((E_iconst (x := (1)) (by decide) f165_34)) (tq ((E_iadd f165_35)) (tq (tq ((P11012 f165_36)) (if_pos (zS37 hS))) (tq ((E_aload (v := Value.ref 37) rfl rfl f165_39)) (tq (tq (tq ((G11012 f165_40)) (if_pos (zS37 hS))) (exe_i (u2_at0))) (tq ((E_iconst (x := (1)) (by decide) f165_43)) (tq ((E_isub f165_44)) ((E_iret pr_165 f165_45)))))))))))) (tq ((E_iconst (x := (-100)) (by decide) f165_24)) (tq ((E_iload (x := s0) rfl f165_26)) (tq ((E_isub f165_27)) ((E_iret pr_165 f165_28))))))))
theorem n165 {X : XX} {d : Nat} {h : HP}  : ev X (d + 1) 165 [Value.ref 37] h = exe X d 165 0 [Value.ref 37, dm] [] h := ev_exe (Nat.le_of_ble_eq_true rfl)
theorem f166_0 : fr 166 0 = some (.aload 0, 1, [], []) := by decide +kernel
theorem f166_1 : fr 166 1 = some (.iconst 0, 1, [], []) := by decide +kernel
theorem f166_2 : fr 166 2 = some (.putfield 11036, 3, [], []) := by decide +kernel
theorem f166_5 : fr 166 5 = some (.aload 0, 1, [], []) := by decide +kernel
theorem f166_6 : fr 166 6 = some (.iconst 0, 1, [], []) := by decide +kernel
theorem f166_7 : fr 166 7 = some (.putfield 11037, 3, [], []) := by decide +kernel
theorem f166_10 : fr 166 10 = some (.aload 0, 1, [], []) := by decide +kernel
theorem f166_11 : fr 166 11 = some (.iload 1, 1, [], []) := by decide +kernel
theorem f166_12 : fr 166 12 = some (.putfield 11038, 3, [], []) := by decide +kernel
theorem f166_15 : fr 166 15 = some (.aload 0, 1, [], []) := by decide +kernel
theorem f166_16 : fr 166 16 = some (.iconst 0, 1, [], []) := by decide +kernel
theorem f166_17 : fr 166 17 = some (.putfield 11039, 3, [], []) := by decide +kernel
theorem f166_20 : fr 166 20 = some (.aload 0, 1, [], []) := by decide +kernel
theorem f166_21 : fr 166 21 = some (.invokevirtual 167, 3, [], []) := by decide +kernel
theorem f166_24 : fr 166 24 = some (.istore 2, 1, [], []) := by decide +kernel
theorem f166_25 : fr 166 25 = some (.iload 2, 1, [], []) := by decide +kernel
theorem f166_26 : fr 166 26 = some (.ifCond .eq 56, 3, [], []) := by decide +kernel
theorem f166_29 : fr 166 29 = some (.aload 0, 1, [], []) := by decide +kernel
theorem f166_30 : fr 166 30 = some (.invokevirtual 174, 3, [], []) := by decide +kernel
theorem f166_33 : fr 166 33 = some (.iconst 59, 2, [], []) := by decide +kernel
theorem f166_35 : fr 166 35 = some (.if_icmp .ne 56, 3, [2], []) := by decide +kernel
theorem f166_38 : fr 166 38 = some (.aload 0, 1, [], []) := by decide +kernel
theorem f166_39 : fr 166 39 = some (.dup, 1, [], []) := by decide +kernel
theorem f166_40 : fr 166 40 = some (.getfield 11036, 3, [], []) := by decide +kernel
theorem f166_43 : fr 166 43 = some (.iconst 1, 1, [], []) := by decide +kernel
theorem f166_44 : fr 166 44 = some (.iadd, 1, [], []) := by decide +kernel
theorem f166_45 : fr 166 45 = some (.putfield 11036, 3, [], []) := by decide +kernel
theorem f166_48 : fr 166 48 = some (.aload 0, 1, [], []) := by decide +kernel
theorem f166_49 : fr 166 49 = some (.invokevirtual 167, 3, [], []) := by decide +kernel
theorem f166_52 : fr 166 52 = some (.istore 2, 1, [], []) := by decide +kernel
theorem f166_53 : fr 166 53 = some (.goto 25, 3, [], []) := by decide +kernel
theorem f166_56 : fr 166 56 = some (.iload 2, 1, [2], []) := by decide +kernel
theorem f166_57 : fr 166 57 = some (.ifCond .eq 75, 3, [], []) := by decide +kernel
theorem f166_60 : fr 166 60 = some (.aload 0, 1, [], []) := by decide +kernel
theorem f166_61 : fr 166 61 = some (.getfield 11036, 3, [], []) := by decide +kernel
theorem f166_64 : fr 166 64 = some (.aload 0, 1, [], []) := by decide +kernel
theorem f166_65 : fr 166 65 = some (.getfield 11009, 3, [], []) := by decide +kernel
theorem f166_68 : fr 166 68 = some (.if_icmp .ne 75, 3, [], []) := by decide +kernel
theorem f166_71 : fr 166 71 = some (.iconst 1, 1, [], []) := by decide +kernel
theorem f166_72 : fr 166 72 = some (.goto 76, 3, [], []) := by decide +kernel
theorem f166_75 : fr 166 75 = some (.iconst 0, 1, [], []) := by decide +kernel
theorem f166_76 : fr 166 76 = some (.istore 2, 1, [], []) := by decide +kernel
theorem f166_77 : fr 166 77 = some (.aload 0, 1, [], []) := by decide +kernel
theorem f166_78 : fr 166 78 = some (.getfield 11011, 3, [], []) := by decide +kernel
theorem f166_81 : fr 166 81 = some (.iload 1, 1, [1], []) := by decide +kernel
theorem f166_82 : fr 166 82 = some (.aload 0, 1, [], []) := by decide +kernel
theorem f166_83 : fr 166 83 = some (.getfield 11039, 3, [], []) := by decide +kernel
theorem f166_86 : fr 166 86 = some (.iastore, 1, [], []) := by decide +kernel
theorem f166_87 : fr 166 87 = some (.aload 0, 1, [], []) := by decide +kernel
theorem f166_88 : fr 166 88 = some (.iconst 0, 1, [], []) := by decide +kernel
theorem f166_89 : fr 166 89 = some (.putfield 11009, 3, [], []) := by decide +kernel
theorem f166_92 : fr 166 92 = some (.iload 2, 1, [2], []) := by decide +kernel
theorem f166_93 : fr 166 93 = some (.ifCond .eq 100, 3, [0], []) := by decide +kernel
theorem f166_96 : fr 166 96 = some (.iconst (-1), 1, [], []) := by decide +kernel
theorem f166_97 : fr 166 97 = some (.goto 104, 3, [], []) := by decide +kernel
theorem f166_100 : fr 166 100 = some (.aload 0, 1, [0], []) := by decide +kernel
theorem f166_101 : fr 166 101 = some (.getfield 11036, 3, [], []) := by decide +kernel
theorem f166_104 : fr 166 104 = some (.ireturn, 1, [], []) := by decide +kernel
theorem t166_0 {X : XX} {d : Nat} {sz sl : Nat} {sh : Nat → Nat × Nat} {R : Nat → Nat → Option Nat} {I : Nat → Nat → Int32} {J : Nat → Nat → Int64} (hS : SF sh R) {l1 : Int32} : exe X d 166 0 [Value.ref 37, Value.int l1, dm] [] (sz, sl, sh, R, I, J) =
    ((ev X d 167 [Value.ref 37] (sz, sl, sh, R, (u2 (u2 (u2 (u2 I 37 36 (0)) 37 37 (0)) 37 38 l1) 37 39 (0)), J)).bind fun q => exe X d 166 24 [Value.ref 37, Value.int l1, dm] (q.1.toList ++ []) q.2) :=
  tq ((E_aload (v := Value.ref 37) rfl rfl f166_0)) (tq ((E_iconst (x := (0)) (by decide) f166_1)) (tq (tq ((P11036 f166_2)) (if_pos (zS37 hS))) (tq ((E_aload (v := Value.ref 37) rfl rfl f166_5)) (tq ((E_iconst (x := (0)) (by decide) f166_6)) (tq (tq ((P11037 f166_7)) (if_pos (zS37 hS))) (tq ((E_aload (v := Value.ref 37) rfl rfl f166_10)) (tq ((E_iload (x := l1) rfl f166_11)) (tq (tq ((P11038 f166_12)) (if_pos (zS37 hS))) (tq ((E_aload (v := Value.ref 37) rfl rfl f166_15)) (tq ((E_iconst (x := (0)) (by decide) f166_16)) (tq (tq ((P11039 f166_17)) (if_pos (zS37 hS))) (tq ((E_aload (v := Value.ref 37) rfl rfl f166_20)) ((tq ((E_callV pn_167 pc_167 rfl rfl (Nat.le_of_ble_eq_true rfl) f166_21)) (if_pos (zS37 hS))))))))))))))))
theorem t166_24 {X : XX} {d : Nat} {sz sl : Nat} {sh : Nat → Nat × Nat} {R : Nat → Nat → Option Nat} {I : Nat → Nat → Int32} {J : Nat → Nat → Int64} {l1 : Int32} {s0 : Int32} : exe X d 166 24 [Value.ref 37, Value.int l1, dm] [Value.int s0] (sz, sl, sh, R, I, J) =
    exe X d 166 25 [Value.ref 37, Value.int l1, Value.int s0] [] (sz, sl, sh, R, I, J) :=
  (E_istore rfl f166_24)
theorem t166_25 {X : XX} {d : Nat} {sz sl : Nat} {sh : Nat → Nat × Nat} {R : Nat → Nat → Option Nat} {I : Nat → Nat → Int32} {J : Nat → Nat → Int64} (hS : SF sh R) {l1 : Int32} {l2 : Int32} : exe X d 166 25 [Value.ref 37, Value.int l1, Value.int l2] [] (sz, sl, sh, R, I, J) =
    (if l2 = 0 then exe X d 166 56 [Value.ref 37, Value.int l1, Value.int l2] [] (sz, sl, sh, R, I, J) else ((ev X d 174 [Value.ref 37] (sz, sl, sh, R, I, J)).bind fun q => exe X d 166 33 [Value.ref 37, Value.int l1, Value.int l2] (q.1.toList ++ []) q.2)) :=
  tq ((E_iload (x := l2) rfl f166_25)) (tq ((E_if_eq f166_26)) (ite_c (rfl) (tq ((E_aload (v := Value.ref 37) rfl rfl f166_29)) ((tq ((E_callV pn_174 pc_174 rfl rfl (Nat.le_of_ble_eq_true rfl) f166_30)) (if_pos (zS37 hS)))))))
theorem t166_33 {X : XX} {d : Nat} {sz sl : Nat} {sh : Nat → Nat × Nat} {R : Nat → Nat → Option Nat} {I : Nat → Nat → Int32} {J : Nat → Nat → Int64} (hS : SF sh R) {l1 : Int32} {l2 : Int32} {s0 : Int32} : exe X d 166 33 [Value.ref 37, Value.int l1, Value.int l2] [Value.int s0] (sz, sl, sh, R, I, J) =
    (if ¬ s0 = (59) then exe X d 166 56 [Value.ref 37, Value.int l1, Value.int l2] [] (sz, sl, sh, R, I, J) else ((ev X d 167 [Value.ref 37] (sz, sl, sh, R, (u2 I 37 36 ((I 37 36) + (1))), J)).bind fun q => exe X d 166 52 [Value.ref 37, Value.int l1, dm] (q.1.toList ++ []) q.2)) :=
  tq ((E_iconst (x := (59)) (by decide) f166_33)) (tq ((E_ic_ne f166_35)) (ite_c (rfl) (tq ((E_aload (v := Value.ref 37) rfl rfl f166_38)) (tq ((E_dup rfl f166_39)) (tq (tq ((G11036 f166_40)) (if_pos (zS37 hS))) (tq ((E_iconst (x := (1)) (by decide) f166_43)) (tq ((E_iadd f166_44)) (tq (tq ((P11036 f166_45)) (if_pos (zS37 hS))) (tq ((E_aload (v := Value.ref 37) rfl rfl f166_48)) ((tq ((E_callV pn_167 pc_167 rfl rfl (Nat.le_of_ble_eq_true rfl) f166_49)) (if_pos (zS37 hS)))))))))))))
theorem t166_52 {X : XX} {d : Nat} {sz sl : Nat} {sh : Nat → Nat × Nat} {R : Nat → Nat → Option Nat} {I : Nat → Nat → Int32} {J : Nat → Nat → Int64} {l1 : Int32} {s0 : Int32} : exe X d 166 52 [Value.ref 37, Value.int l1, dm] [Value.int s0] (sz, sl, sh, R, I, J) =
    exe X d 166 25 [Value.ref 37, Value.int l1, Value.int s0] [] (sz, sl, sh, R, I, J) :=
  tq ((E_istore rfl f166_52)) ((E_goto f166_53))
theorem t166_56 {X : XX} {d : Nat} {sz sl : Nat} {sh : Nat → Nat × Nat} {R : Nat → Nat → Option Nat} {I : Nat → Nat → Int32} {J : Nat → Nat → Int64} (hS : SF sh R) {l1 : Int32} {l2 : Int32} : exe X d 166 56 [Value.ref 37, Value.int l1, Value.int l2] [] (sz, sl, sh, R, I, J) =
    (if l2 = 0 then exe X d 166 75 [Value.ref 37, Value.int l1, dm] [] (sz, sl, sh, R, I, J) else (if ¬ (I 37 36) = (I 37 9) then exe X d 166 75 [Value.ref 37, Value.int l1, dm] [] (sz, sl, sh, R, I, J) else exe X d 166 76 [Value.ref 37, Value.int l1, dm] [Value.int (1)] (sz, sl, sh, R, I, J))) :=
  tq ((E_iload (x := l2) rfl f166_56)) (tq ((E_if_eq f166_57)) (ite_c (rfl) (tq ((E_aload (v := Value.ref 37) rfl rfl f166_60)) (tq (tq ((G11036 f166_61)) (if_pos (zS37 hS))) (tq ((E_aload (v := Value.ref 37) rfl rfl f166_64)) (tq (tq ((G11009 f166_65)) (if_pos (zS37 hS))) (tq ((E_ic_ne f166_68)) (ite_c (rfl) (tq ((E_iconst (x := (1)) (by decide) f166_71)) ((E_goto f166_72)))))))))))
theorem t166_75 {X : XX} {d : Nat} {sz sl : Nat} {sh : Nat → Nat × Nat} {R : Nat → Nat → Option Nat} {I : Nat → Nat → Int32} {J : Nat → Nat → Int64} {l1 : Int32} : exe X d 166 75 [Value.ref 37, Value.int l1, dm] [] (sz, sl, sh, R, I, J) =
    exe X d 166 76 [Value.ref 37, Value.int l1, dm] [Value.int (0)] (sz, sl, sh, R, I, J) :=
  (E_iconst (x := (0)) (by decide) f166_75)
theorem t166_76 {X : XX} {d : Nat} {sz sl : Nat} {sh : Nat → Nat × Nat} {R : Nat → Nat → Option Nat} {I : Nat → Nat → Int32} {J : Nat → Nat → Int64} (hS : SF sh R) {l1 : Int32} {s0 : Int32} : exe X d 166 76 [Value.ref 37, Value.int l1, dm] [Value.int s0] (sz, sl, sh, R, I, J) =
    (if inb l1 4 then (if s0 = 0 then some (some (Value.int (I 37 36)), (sz, sl, sh, R, (u2 (u2 I 47 l1.toNatClampNeg (I 37 39)) 37 9 (0)), J)) else some (some (Value.int (-1)), (sz, sl, sh, R, (u2 (u2 I 47 l1.toNatClampNeg (I 37 39)) 37 9 (0)), J))) else none) :=
  tq ((E_istore rfl f166_76)) (tq ((E_aload (v := Value.ref 37) rfl rfl f166_77)) (tq (tq ((G11011 f166_78)) (if_pos (zS37 hS))) (tq (exe_R (zR37_11 hS)) (tq ((E_iload (x := l1) rfl f166_81)) (tq ((E_aload (v := Value.ref 37) rfl rfl f166_82)) (tq (tq ((G11039 f166_83)) (if_pos (zS37 hS))) (tq (tq ((E_iast f166_86)) (ite_ar (zS47 hS))) (ite_c (tq ((E_aload (v := Value.ref 37) rfl rfl f166_87)) (tq ((E_iconst (x := (0)) (by decide) f166_88)) (tq (tq ((P11009 f166_89)) (if_pos (zS37 hS))) (tq ((E_iload (x := s0) rfl f166_92)) (tq ((E_if_eq f166_93)) (ite_c (tq ((E_aload (v := Value.ref 37) rfl rfl f166_100)) (tq (tq (tq ((G11036 f166_101)) (if_pos (zS37 hS))) (exe_i (tq (u2_pj (by decide)) (u2_pa (by decide))))) ((E_iret pr_166 f166_104)))) (tq ((E_iconst (x := (-1)) (by decide) f166_96)) (tq ((E_goto f166_97)) ((E_iret pr_166 f166_104)))))))))) rfl))))))))
theorem n166 {X : XX} {d : Nat} {h : HP} {a0 : Int32} : ev X (d + 1) 166 [Value.ref 37, Value.int a0] h = exe X d 166 0 [Value.ref 37, Value.int a0, dm] [] h := ev_exe (Nat.le_of_ble_eq_true rfl)
theorem f167_0 : fr 167 0 = some (.aload 0, 1, [], []) := by decide +kernel
theorem f167_1 : fr 167 1 = some (.invokevirtual 168, 3, [], []) := by decide +kernel
theorem f167_4 : fr 167 4 = some (.ifCond .ne 9, 3, [0], []) := by decide +kernel
theorem f167_7 : fr 167 7 = some (.iconst 0, 1, [], []) := by decide +kernel
theorem f167_8 : fr 167 8 = some (.ireturn, 1, [], []) := by decide +kernel
theorem f167_9 : fr 167 9 = some (.aload 0, 1, [], []) := by decide +kernel
theorem f167_10 : fr 167 10 = some (.invokevirtual 174, 3, [], []) := by decide +kernel
theorem f167_13 : fr 167 13 = some (.iconst 63, 2, [], []) := by decide +kernel
theorem f167_15 : fr 167 15 = some (.if_icmp .eq 26, 3, [], []) := by decide +kernel
theorem f167_18 : fr 167 18 = some (.aload 0, 1, [0], []) := by decide +kernel
theorem f167_19 : fr 167 19 = some (.iconst 40, 2, [], []) := by decide +kernel
theorem f167_21 : fr 167 21 = some (.invokevirtual 176, 3, [], []) := by decide +kernel
theorem f167_24 : fr 167 24 = some (.iconst 1, 1, [], []) := by decide +kernel
theorem f167_25 : fr 167 25 = some (.ireturn, 1, [], []) := by decide +kernel
theorem f167_26 : fr 167 26 = some (.aload 0, 1, [], []) := by decide +kernel
theorem f167_27 : fr 167 27 = some (.dup, 1, [], []) := by decide +kernel
theorem f167_28 : fr 167 28 = some (.getfield 11036, 3, [], []) := by decide +kernel
theorem f167_31 : fr 167 31 = some (.iconst 1, 1, [], []) := by decide +kernel
theorem f167_32 : fr 167 32 = some (.iadd, 1, [], []) := by decide +kernel
theorem f167_33 : fr 167 33 = some (.putfield 11036, 3, [], []) := by decide +kernel
theorem f167_36 : fr 167 36 = some (.aload 0, 1, [], []) := by decide +kernel
theorem f167_37 : fr 167 37 = some (.iconst 41, 2, [], []) := by decide +kernel
theorem f167_39 : fr 167 39 = some (.invokevirtual 176, 3, [], []) := by decide +kernel
theorem f167_42 : fr 167 42 = some (.aload 0, 1, [], []) := by decide +kernel
theorem f167_43 : fr 167 43 = some (.invokevirtual 168, 3, [], []) := by decide +kernel
theorem f167_46 : fr 167 46 = some (.istore 1, 1, [], []) := by decide +kernel
theorem f167_47 : fr 167 47 = some (.aload 0, 1, [0], []) := by decide +kernel
theorem f167_48 : fr 167 48 = some (.iconst 42, 2, [], []) := by decide +kernel
theorem f167_50 : fr 167 50 = some (.invokevirtual 176, 3, [], []) := by decide +kernel
theorem f167_53 : fr 167 53 = some (.iload 1, 1, [1], []) := by decide +kernel
theorem f167_54 : fr 167 54 = some (.ireturn, 1, [], []) := by decide +kernel
theorem t167_0 {X : XX} {d : Nat} {sz sl : Nat} {sh : Nat → Nat × Nat} {R : Nat → Nat → Option Nat} {I : Nat → Nat → Int32} {J : Nat → Nat → Int64} (hS : SF sh R)  : exe X d 167 0 [Value.ref 37, dm] [] (sz, sl, sh, R, I, J) =
    ((ev X d 168 [Value.ref 37] (sz, sl, sh, R, I, J)).bind fun q => exe X d 167 4 [Value.ref 37, dm] (q.1.toList ++ []) q.2) :=
  tq ((E_aload (v := Value.ref 37) rfl rfl f167_0)) ((tq ((E_callV pn_168 pc_168 rfl rfl (Nat.le_of_ble_eq_true rfl) f167_1)) (if_pos (zS37 hS))))
theorem t167_4 {X : XX} {d : Nat} {sz sl : Nat} {sh : Nat → Nat × Nat} {R : Nat → Nat → Option Nat} {I : Nat → Nat → Int32} {J : Nat → Nat → Int64} (hS : SF sh R) {s0 : Int32} : exe X d 167 4 [Value.ref 37, dm] [Value.int s0] (sz, sl, sh, R, I, J) =
    (if ¬ s0 = 0 then ((ev X d 174 [Value.ref 37] (sz, sl, sh, R, I, J)).bind fun q => exe X d 167 13 [Value.ref 37, dm] (q.1.toList ++ []) q.2) else some (some (Value.int (0)), (sz, sl, sh, R, I, J))) :=
  tq ((E_if_ne f167_4)) (ite_c (tq ((E_aload (v := Value.ref 37) rfl rfl f167_9)) ((tq ((E_callV pn_174 pc_174 rfl rfl (Nat.le_of_ble_eq_true rfl) f167_10)) (if_pos (zS37 hS))))) (tq ((E_iconst (x := (0)) (by decide) f167_7)) (tq (E_zret pr_167 f167_8) (if_pos (by decide)))))
theorem t167_13 {X : XX} {d : Nat} {sz sl : Nat} {sh : Nat → Nat × Nat} {R : Nat → Nat → Option Nat} {I : Nat → Nat → Int32} {J : Nat → Nat → Int64} (hS : SF sh R) {s0 : Int32} : exe X d 167 13 [Value.ref 37, dm] [Value.int s0] (sz, sl, sh, R, I, J) =
    (if s0 = (63) then ((ev X d 176 [Value.ref 37, Value.int (41)] (sz, sl, sh, R, (u2 I 37 36 ((I 37 36) + (1))), J)).bind fun q => exe X d 167 42 [Value.ref 37, dm] (q.1.toList ++ []) q.2) else ((ev X d 176 [Value.ref 37, Value.int (40)] (sz, sl, sh, R, I, J)).bind fun q => exe X d 167 24 [dm, dm] (q.1.toList ++ []) q.2)) :=
  tq ((E_iconst (x := (63)) (by decide) f167_13)) (tq ((E_ic_eq f167_15)) (ite_c (tq ((E_aload (v := Value.ref 37) rfl rfl f167_26)) (tq ((E_dup rfl f167_27)) (tq (tq ((G11036 f167_28)) (if_pos (zS37 hS))) (tq ((E_iconst (x := (1)) (by decide) f167_31)) (tq ((E_iadd f167_32)) (tq (tq ((P11036 f167_33)) (if_pos (zS37 hS))) (tq ((E_aload (v := Value.ref 37) rfl rfl f167_36)) (tq ((E_iconst (x := (41)) (by decide) f167_37)) ((tq ((E_callV pn_176 pc_176 rfl rfl (Nat.le_of_ble_eq_true rfl) f167_39)) (if_pos (zS37 hS)))))))))))) (tq ((E_aload (v := Value.ref 37) rfl rfl f167_18)) (tq ((E_iconst (x := (40)) (by decide) f167_19)) ((tq ((E_callV pn_176 pc_176 rfl rfl (Nat.le_of_ble_eq_true rfl) f167_21)) (if_pos (zS37 hS))))))))
theorem t167_24 {X : XX} {d : Nat} {sz sl : Nat} {sh : Nat → Nat × Nat} {R : Nat → Nat → Option Nat} {I : Nat → Nat → Int32} {J : Nat → Nat → Int64}  : exe X d 167 24 [dm, dm] [] (sz, sl, sh, R, I, J) =
    some (some (Value.int (1)), (sz, sl, sh, R, I, J)) :=
  tq ((E_iconst (x := (1)) (by decide) f167_24)) (tq (E_zret pr_167 f167_25) (if_pos (by decide)))
theorem t167_42 {X : XX} {d : Nat} {sz sl : Nat} {sh : Nat → Nat × Nat} {R : Nat → Nat → Option Nat} {I : Nat → Nat → Int32} {J : Nat → Nat → Int64} (hS : SF sh R)  : exe X d 167 42 [Value.ref 37, dm] [] (sz, sl, sh, R, I, J) =
    ((ev X d 168 [Value.ref 37] (sz, sl, sh, R, I, J)).bind fun q => exe X d 167 46 [Value.ref 37, dm] (q.1.toList ++ []) q.2) :=
  tq ((E_aload (v := Value.ref 37) rfl rfl f167_42)) ((tq ((E_callV pn_168 pc_168 rfl rfl (Nat.le_of_ble_eq_true rfl) f167_43)) (if_pos (zS37 hS))))
theorem t167_46 {X : XX} {d : Nat} {sz sl : Nat} {sh : Nat → Nat × Nat} {R : Nat → Nat → Option Nat} {I : Nat → Nat → Int32} {J : Nat → Nat → Int64} (hS : SF sh R) {s0 : Int32} : exe X d 167 46 [Value.ref 37, dm] [Value.int s0] (sz, sl, sh, R, I, J) =
    ((ev X d 176 [Value.ref 37, Value.int (42)] (sz, sl, sh, R, I, J)).bind fun q => exe X d 167 53 [dm, Value.int s0] (q.1.toList ++ []) q.2) :=
  tq ((E_istore rfl f167_46)) (tq ((E_aload (v := Value.ref 37) rfl rfl f167_47)) (tq ((E_iconst (x := (42)) (by decide) f167_48)) ((tq ((E_callV pn_176 pc_176 rfl rfl (Nat.le_of_ble_eq_true rfl) f167_50)) (if_pos (zS37 hS))))))
theorem t167_53 {X : XX} {d : Nat} {sz sl : Nat} {sh : Nat → Nat × Nat} {R : Nat → Nat → Option Nat} {I : Nat → Nat → Int32} {J : Nat → Nat → Int64} {l1 : Int32} : exe X d 167 53 [dm, Value.int l1] [] (sz, sl, sh, R, I, J) =
    (if l1 = 0 ∨ l1 = 1 then some (some (Value.int l1), (sz, sl, sh, R, I, J)) else none) :=
  tq ((E_iload (x := l1) rfl f167_53)) ((E_zret pr_167 f167_54))
theorem n167 {X : XX} {d : Nat} {h : HP}  : ev X (d + 1) 167 [Value.ref 37] h = exe X d 167 0 [Value.ref 37, dm] [] h := ev_exe (Nat.le_of_ble_eq_true rfl)
theorem f168_0 : fr 168 0 = some (.aload 0, 1, [], []) := by decide +kernel
theorem f168_1 : fr 168 1 = some (.invokevirtual 169, 3, [], []) := by decide +kernel
theorem f168_4 : fr 168 4 = some (.istore 1, 1, [], []) := by decide +kernel
theorem f168_5 : fr 168 5 = some (.iload 1, 1, [], []) := by decide +kernel
theorem f168_6 : fr 168 6 = some (.ifCond .eq 42, 3, [], [0]) := by decide +kernel
theorem f168_9 : fr 168 9 = some (.aload 0, 1, [], []) := by decide +kernel
theorem f168_10 : fr 168 10 = some (.invokevirtual 174, 3, [], []) := by decide +kernel
theorem f168_13 : fr 168 13 = some (.iconst 124, 2, [], []) := by decide +kernel
theorem f168_15 : fr 168 15 = some (.if_icmp .ne 42, 3, [1], [0]) := by decide +kernel
theorem f168_18 : fr 168 18 = some (.aload 0, 1, [], []) := by decide +kernel
theorem f168_19 : fr 168 19 = some (.dup, 1, [], []) := by decide +kernel
theorem f168_20 : fr 168 20 = some (.getfield 11036, 3, [], []) := by decide +kernel
theorem f168_23 : fr 168 23 = some (.iconst 1, 1, [], []) := by decide +kernel
theorem f168_24 : fr 168 24 = some (.iadd, 1, [], []) := by decide +kernel
theorem f168_25 : fr 168 25 = some (.putfield 11036, 3, [], []) := by decide +kernel
theorem f168_28 : fr 168 28 = some (.aload 0, 1, [], []) := by decide +kernel
theorem f168_29 : fr 168 29 = some (.invokevirtual 169, 3, [], []) := by decide +kernel
theorem f168_32 : fr 168 32 = some (.istore 1, 1, [], []) := by decide +kernel
theorem f168_33 : fr 168 33 = some (.aload 0, 1, [], []) := by decide +kernel
theorem f168_34 : fr 168 34 = some (.iconst 11, 2, [], []) := by decide +kernel
theorem f168_36 : fr 168 36 = some (.invokevirtual 176, 3, [], []) := by decide +kernel
theorem f168_39 : fr 168 39 = some (.goto 5, 3, [], []) := by decide +kernel
theorem f168_42 : fr 168 42 = some (.iload 1, 1, [1], []) := by decide +kernel
theorem f168_43 : fr 168 43 = some (.ireturn, 1, [], []) := by decide +kernel
theorem t168_0 {X : XX} {d : Nat} {sz sl : Nat} {sh : Nat → Nat × Nat} {R : Nat → Nat → Option Nat} {I : Nat → Nat → Int32} {J : Nat → Nat → Int64} (hS : SF sh R)  : exe X d 168 0 [Value.ref 37, dm] [] (sz, sl, sh, R, I, J) =
    ((ev X d 169 [Value.ref 37] (sz, sl, sh, R, I, J)).bind fun q => exe X d 168 4 [Value.ref 37, dm] (q.1.toList ++ []) q.2) :=
  tq ((E_aload (v := Value.ref 37) rfl rfl f168_0)) ((tq ((E_callV pn_169 pc_169 rfl rfl (Nat.le_of_ble_eq_true rfl) f168_1)) (if_pos (zS37 hS))))
theorem t168_4 {X : XX} {d : Nat} {sz sl : Nat} {sh : Nat → Nat × Nat} {R : Nat → Nat → Option Nat} {I : Nat → Nat → Int32} {J : Nat → Nat → Int64} {s0 : Int32} : exe X d 168 4 [Value.ref 37, dm] [Value.int s0] (sz, sl, sh, R, I, J) =
    exe X d 168 5 [Value.ref 37, Value.int s0] [] (sz, sl, sh, R, I, J) :=
  (E_istore rfl f168_4)
theorem t168_5 {X : XX} {d : Nat} {sz sl : Nat} {sh : Nat → Nat × Nat} {R : Nat → Nat → Option Nat} {I : Nat → Nat → Int32} {J : Nat → Nat → Int64} (hS : SF sh R) {l1 : Int32} : exe X d 168 5 [Value.ref 37, Value.int l1] [] (sz, sl, sh, R, I, J) =
    (if l1 = 0 then (if l1 = 0 ∨ l1 = 1 then some (some (Value.int l1), (sz, sl, sh, R, I, J)) else none) else ((ev X d 174 [Value.ref 37] (sz, sl, sh, R, I, J)).bind fun q => exe X d 168 13 [Value.ref 37, Value.int l1] (q.1.toList ++ []) q.2)) :=
  tq ((E_iload (x := l1) rfl f168_5)) (tq ((E_if_eq f168_6)) (ite_c (tq ((E_iload (x := l1) rfl f168_42)) ((E_zret pr_168 f168_43))) (tq ((E_aload (v := Value.ref 37) rfl rfl f168_9)) ((tq ((E_callV pn_174 pc_174 rfl rfl (Nat.le_of_ble_eq_true rfl) f168_10)) (if_pos (zS37 hS)))))))
theorem t168_13 {X : XX} {d : Nat} {sz sl : Nat} {sh : Nat → Nat × Nat} {R : Nat → Nat → Option Nat} {I : Nat → Nat → Int32} {J : Nat → Nat → Int64} (hS : SF sh R) {l1 : Int32} {s0 : Int32} : exe X d 168 13 [Value.ref 37, Value.int l1] [Value.int s0] (sz, sl, sh, R, I, J) =
    (if ¬ s0 = (124) then (if l1 = 0 ∨ l1 = 1 then some (some (Value.int l1), (sz, sl, sh, R, I, J)) else none) else ((ev X d 169 [Value.ref 37] (sz, sl, sh, R, (u2 I 37 36 ((I 37 36) + (1))), J)).bind fun q => exe X d 168 32 [Value.ref 37, dm] (q.1.toList ++ []) q.2)) :=
  tq ((E_iconst (x := (124)) (by decide) f168_13)) (tq ((E_ic_ne f168_15)) (ite_c (tq ((E_iload (x := l1) rfl f168_42)) ((E_zret pr_168 f168_43))) (tq ((E_aload (v := Value.ref 37) rfl rfl f168_18)) (tq ((E_dup rfl f168_19)) (tq (tq ((G11036 f168_20)) (if_pos (zS37 hS))) (tq ((E_iconst (x := (1)) (by decide) f168_23)) (tq ((E_iadd f168_24)) (tq (tq ((P11036 f168_25)) (if_pos (zS37 hS))) (tq ((E_aload (v := Value.ref 37) rfl rfl f168_28)) ((tq ((E_callV pn_169 pc_169 rfl rfl (Nat.le_of_ble_eq_true rfl) f168_29)) (if_pos (zS37 hS)))))))))))))
theorem t168_32 {X : XX} {d : Nat} {sz sl : Nat} {sh : Nat → Nat × Nat} {R : Nat → Nat → Option Nat} {I : Nat → Nat → Int32} {J : Nat → Nat → Int64} (hS : SF sh R) {s0 : Int32} : exe X d 168 32 [Value.ref 37, dm] [Value.int s0] (sz, sl, sh, R, I, J) =
    ((ev X d 176 [Value.ref 37, Value.int (11)] (sz, sl, sh, R, I, J)).bind fun q => exe X d 168 39 [Value.ref 37, Value.int s0] (q.1.toList ++ []) q.2) :=
  tq ((E_istore rfl f168_32)) (tq ((E_aload (v := Value.ref 37) rfl rfl f168_33)) (tq ((E_iconst (x := (11)) (by decide) f168_34)) ((tq ((E_callV pn_176 pc_176 rfl rfl (Nat.le_of_ble_eq_true rfl) f168_36)) (if_pos (zS37 hS))))))
theorem t168_39 {X : XX} {d : Nat} {sz sl : Nat} {sh : Nat → Nat × Nat} {R : Nat → Nat → Option Nat} {I : Nat → Nat → Int32} {J : Nat → Nat → Int64} {l1 : Int32} : exe X d 168 39 [Value.ref 37, Value.int l1] [] (sz, sl, sh, R, I, J) =
    exe X d 168 5 [Value.ref 37, Value.int l1] [] (sz, sl, sh, R, I, J) :=
  (E_goto f168_39)
theorem n168 {X : XX} {d : Nat} {h : HP}  : ev X (d + 1) 168 [Value.ref 37] h = exe X d 168 0 [Value.ref 37, dm] [] h := ev_exe (Nat.le_of_ble_eq_true rfl)
theorem f169_0 : fr 169 0 = some (.aload 0, 1, [], []) := by decide +kernel
theorem f169_1 : fr 169 1 = some (.invokevirtual 170, 3, [], []) := by decide +kernel
theorem f169_4 : fr 169 4 = some (.istore 1, 1, [], []) := by decide +kernel
theorem f169_5 : fr 169 5 = some (.iload 1, 1, [], []) := by decide +kernel
theorem f169_6 : fr 169 6 = some (.ifCond .eq 42, 3, [], [0]) := by decide +kernel
theorem f169_9 : fr 169 9 = some (.aload 0, 1, [], []) := by decide +kernel
theorem f169_10 : fr 169 10 = some (.invokevirtual 174, 3, [], []) := by decide +kernel
theorem f169_13 : fr 169 13 = some (.iconst 38, 2, [], []) := by decide +kernel
theorem f169_15 : fr 169 15 = some (.if_icmp .ne 42, 3, [1], [0]) := by decide +kernel
theorem f169_18 : fr 169 18 = some (.aload 0, 1, [], []) := by decide +kernel
theorem f169_19 : fr 169 19 = some (.dup, 1, [], []) := by decide +kernel
theorem f169_20 : fr 169 20 = some (.getfield 11036, 3, [], []) := by decide +kernel
theorem f169_23 : fr 169 23 = some (.iconst 1, 1, [], []) := by decide +kernel
theorem f169_24 : fr 169 24 = some (.iadd, 1, [], []) := by decide +kernel
theorem f169_25 : fr 169 25 = some (.putfield 11036, 3, [], []) := by decide +kernel
theorem f169_28 : fr 169 28 = some (.aload 0, 1, [], []) := by decide +kernel
theorem f169_29 : fr 169 29 = some (.invokevirtual 170, 3, [], []) := by decide +kernel
theorem f169_32 : fr 169 32 = some (.istore 1, 1, [], []) := by decide +kernel
theorem f169_33 : fr 169 33 = some (.aload 0, 1, [], []) := by decide +kernel
theorem f169_34 : fr 169 34 = some (.iconst 12, 2, [], []) := by decide +kernel
theorem f169_36 : fr 169 36 = some (.invokevirtual 176, 3, [], []) := by decide +kernel
theorem f169_39 : fr 169 39 = some (.goto 5, 3, [], []) := by decide +kernel
theorem f169_42 : fr 169 42 = some (.iload 1, 1, [1], []) := by decide +kernel
theorem f169_43 : fr 169 43 = some (.ireturn, 1, [], []) := by decide +kernel
theorem t169_0 {X : XX} {d : Nat} {sz sl : Nat} {sh : Nat → Nat × Nat} {R : Nat → Nat → Option Nat} {I : Nat → Nat → Int32} {J : Nat → Nat → Int64} (hS : SF sh R)  : exe X d 169 0 [Value.ref 37, dm] [] (sz, sl, sh, R, I, J) =
    ((ev X d 170 [Value.ref 37] (sz, sl, sh, R, I, J)).bind fun q => exe X d 169 4 [Value.ref 37, dm] (q.1.toList ++ []) q.2) :=
  tq ((E_aload (v := Value.ref 37) rfl rfl f169_0)) ((tq ((E_callV pn_170 pc_170 rfl rfl (Nat.le_of_ble_eq_true rfl) f169_1)) (if_pos (zS37 hS))))
theorem t169_4 {X : XX} {d : Nat} {sz sl : Nat} {sh : Nat → Nat × Nat} {R : Nat → Nat → Option Nat} {I : Nat → Nat → Int32} {J : Nat → Nat → Int64} {s0 : Int32} : exe X d 169 4 [Value.ref 37, dm] [Value.int s0] (sz, sl, sh, R, I, J) =
    exe X d 169 5 [Value.ref 37, Value.int s0] [] (sz, sl, sh, R, I, J) :=
  (E_istore rfl f169_4)
theorem t169_5 {X : XX} {d : Nat} {sz sl : Nat} {sh : Nat → Nat × Nat} {R : Nat → Nat → Option Nat} {I : Nat → Nat → Int32} {J : Nat → Nat → Int64} (hS : SF sh R) {l1 : Int32} : exe X d 169 5 [Value.ref 37, Value.int l1] [] (sz, sl, sh, R, I, J) =
    (if l1 = 0 then (if l1 = 0 ∨ l1 = 1 then some (some (Value.int l1), (sz, sl, sh, R, I, J)) else none) else ((ev X d 174 [Value.ref 37] (sz, sl, sh, R, I, J)).bind fun q => exe X d 169 13 [Value.ref 37, Value.int l1] (q.1.toList ++ []) q.2)) :=
  tq ((E_iload (x := l1) rfl f169_5)) (tq ((E_if_eq f169_6)) (ite_c (tq ((E_iload (x := l1) rfl f169_42)) ((E_zret pr_169 f169_43))) (tq ((E_aload (v := Value.ref 37) rfl rfl f169_9)) ((tq ((E_callV pn_174 pc_174 rfl rfl (Nat.le_of_ble_eq_true rfl) f169_10)) (if_pos (zS37 hS)))))))
theorem t169_13 {X : XX} {d : Nat} {sz sl : Nat} {sh : Nat → Nat × Nat} {R : Nat → Nat → Option Nat} {I : Nat → Nat → Int32} {J : Nat → Nat → Int64} (hS : SF sh R) {l1 : Int32} {s0 : Int32} : exe X d 169 13 [Value.ref 37, Value.int l1] [Value.int s0] (sz, sl, sh, R, I, J) =
    (if ¬ s0 = (38) then (if l1 = 0 ∨ l1 = 1 then some (some (Value.int l1), (sz, sl, sh, R, I, J)) else none) else ((ev X d 170 [Value.ref 37] (sz, sl, sh, R, (u2 I 37 36 ((I 37 36) + (1))), J)).bind fun q => exe X d 169 32 [Value.ref 37, dm] (q.1.toList ++ []) q.2)) :=
  tq ((E_iconst (x := (38)) (by decide) f169_13)) (tq ((E_ic_ne f169_15)) (ite_c (tq ((E_iload (x := l1) rfl f169_42)) ((E_zret pr_169 f169_43))) (tq ((E_aload (v := Value.ref 37) rfl rfl f169_18)) (tq ((E_dup rfl f169_19)) (tq (tq ((G11036 f169_20)) (if_pos (zS37 hS))) (tq ((E_iconst (x := (1)) (by decide) f169_23)) (tq ((E_iadd f169_24)) (tq (tq ((P11036 f169_25)) (if_pos (zS37 hS))) (tq ((E_aload (v := Value.ref 37) rfl rfl f169_28)) ((tq ((E_callV pn_170 pc_170 rfl rfl (Nat.le_of_ble_eq_true rfl) f169_29)) (if_pos (zS37 hS)))))))))))))
theorem t169_32 {X : XX} {d : Nat} {sz sl : Nat} {sh : Nat → Nat × Nat} {R : Nat → Nat → Option Nat} {I : Nat → Nat → Int32} {J : Nat → Nat → Int64} (hS : SF sh R) {s0 : Int32} : exe X d 169 32 [Value.ref 37, dm] [Value.int s0] (sz, sl, sh, R, I, J) =
    ((ev X d 176 [Value.ref 37, Value.int (12)] (sz, sl, sh, R, I, J)).bind fun q => exe X d 169 39 [Value.ref 37, Value.int s0] (q.1.toList ++ []) q.2) :=
  tq ((E_istore rfl f169_32)) (tq ((E_aload (v := Value.ref 37) rfl rfl f169_33)) (tq ((E_iconst (x := (12)) (by decide) f169_34)) ((tq ((E_callV pn_176 pc_176 rfl rfl (Nat.le_of_ble_eq_true rfl) f169_36)) (if_pos (zS37 hS))))))
theorem t169_39 {X : XX} {d : Nat} {sz sl : Nat} {sh : Nat → Nat × Nat} {R : Nat → Nat → Option Nat} {I : Nat → Nat → Int32} {J : Nat → Nat → Int64} {l1 : Int32} : exe X d 169 39 [Value.ref 37, Value.int l1] [] (sz, sl, sh, R, I, J) =
    exe X d 169 5 [Value.ref 37, Value.int l1] [] (sz, sl, sh, R, I, J) :=
  (E_goto f169_39)
theorem n169 {X : XX} {d : Nat} {h : HP}  : ev X (d + 1) 169 [Value.ref 37] h = exe X d 169 0 [Value.ref 37, dm] [] h := ev_exe (Nat.le_of_ble_eq_true rfl)
theorem f170_0 : fr 170 0 = some (.aload 0, 1, [], []) := by decide +kernel
theorem f170_1 : fr 170 1 = some (.invokevirtual 171, 3, [], []) := by decide +kernel
theorem f170_4 : fr 170 4 = some (.istore 1, 1, [], []) := by decide +kernel
theorem f170_5 : fr 170 5 = some (.iload 1, 1, [], []) := by decide +kernel
theorem f170_6 : fr 170 6 = some (.ifCond .eq 84, 3, [], [0]) := by decide +kernel
theorem f170_9 : fr 170 9 = some (.aload 0, 1, [], []) := by decide +kernel
theorem f170_10 : fr 170 10 = some (.invokevirtual 174, 3, [], []) := by decide +kernel
theorem f170_13 : fr 170 13 = some (.iconst 60, 2, [], []) := by decide +kernel
theorem f170_15 : fr 170 15 = some (.if_icmp .eq 36, 3, [], [1]) := by decide +kernel
theorem f170_18 : fr 170 18 = some (.aload 0, 1, [], []) := by decide +kernel
theorem f170_19 : fr 170 19 = some (.invokevirtual 174, 3, [], []) := by decide +kernel
theorem f170_22 : fr 170 22 = some (.iconst 61, 2, [], []) := by decide +kernel
theorem f170_24 : fr 170 24 = some (.if_icmp .eq 36, 3, [], [1]) := by decide +kernel
theorem f170_27 : fr 170 27 = some (.aload 0, 1, [], []) := by decide +kernel
theorem f170_28 : fr 170 28 = some (.invokevirtual 174, 3, [], []) := by decide +kernel
theorem f170_31 : fr 170 31 = some (.iconst 62, 2, [], []) := by decide +kernel
theorem f170_33 : fr 170 33 = some (.if_icmp .ne 84, 3, [1], [0]) := by decide +kernel
theorem f170_36 : fr 170 36 = some (.aload 0, 1, [], []) := by decide +kernel
theorem f170_37 : fr 170 37 = some (.invokevirtual 174, 3, [], []) := by decide +kernel
theorem f170_40 : fr 170 40 = some (.istore 2, 1, [], []) := by decide +kernel
theorem f170_41 : fr 170 41 = some (.aload 0, 1, [], []) := by decide +kernel
theorem f170_42 : fr 170 42 = some (.dup, 1, [], []) := by decide +kernel
theorem f170_43 : fr 170 43 = some (.getfield 11036, 3, [], []) := by decide +kernel
theorem f170_46 : fr 170 46 = some (.iconst 1, 1, [], []) := by decide +kernel
theorem f170_47 : fr 170 47 = some (.iadd, 1, [], []) := by decide +kernel
theorem f170_48 : fr 170 48 = some (.putfield 11036, 3, [], []) := by decide +kernel
theorem f170_51 : fr 170 51 = some (.aload 0, 1, [], []) := by decide +kernel
theorem f170_52 : fr 170 52 = some (.invokevirtual 171, 3, [], []) := by decide +kernel
theorem f170_55 : fr 170 55 = some (.istore 1, 1, [], []) := by decide +kernel
theorem f170_56 : fr 170 56 = some (.aload 0, 1, [0], []) := by decide +kernel
theorem f170_57 : fr 170 57 = some (.iload 2, 1, [], []) := by decide +kernel
theorem f170_58 : fr 170 58 = some (.iconst 60, 2, [], []) := by decide +kernel
theorem f170_60 : fr 170 60 = some (.if_icmp .ne 68, 3, [2], []) := by decide +kernel
theorem f170_63 : fr 170 63 = some (.iconst 14, 2, [], []) := by decide +kernel
theorem f170_65 : fr 170 65 = some (.goto 81, 3, [], []) := by decide +kernel
theorem f170_68 : fr 170 68 = some (.iload 2, 1, [2], []) := by decide +kernel
theorem f170_69 : fr 170 69 = some (.iconst 61, 2, [], []) := by decide +kernel
theorem f170_71 : fr 170 71 = some (.if_icmp .ne 79, 3, [], []) := by decide +kernel
theorem f170_74 : fr 170 74 = some (.iconst 15, 2, [], []) := by decide +kernel
theorem f170_76 : fr 170 76 = some (.goto 81, 3, [], []) := by decide +kernel
theorem f170_79 : fr 170 79 = some (.iconst 20, 2, [], []) := by decide +kernel
theorem f170_81 : fr 170 81 = some (.invokevirtual 176, 3, [], []) := by decide +kernel
theorem f170_84 : fr 170 84 = some (.iload 1, 1, [1], []) := by decide +kernel
theorem f170_85 : fr 170 85 = some (.ireturn, 1, [], []) := by decide +kernel
theorem t170_0 {X : XX} {d : Nat} {sz sl : Nat} {sh : Nat → Nat × Nat} {R : Nat → Nat → Option Nat} {I : Nat → Nat → Int32} {J : Nat → Nat → Int64} (hS : SF sh R)  : exe X d 170 0 [Value.ref 37, dm, dm] [] (sz, sl, sh, R, I, J) =
    ((ev X d 171 [Value.ref 37] (sz, sl, sh, R, I, J)).bind fun q => exe X d 170 4 [Value.ref 37, dm, dm] (q.1.toList ++ []) q.2) :=
  tq ((E_aload (v := Value.ref 37) rfl rfl f170_0)) ((tq ((E_callV pn_171 pc_171 rfl rfl (Nat.le_of_ble_eq_true rfl) f170_1)) (if_pos (zS37 hS))))
theorem t170_4 {X : XX} {d : Nat} {sz sl : Nat} {sh : Nat → Nat × Nat} {R : Nat → Nat → Option Nat} {I : Nat → Nat → Int32} {J : Nat → Nat → Int64} (hS : SF sh R) {s0 : Int32} : exe X d 170 4 [Value.ref 37, dm, dm] [Value.int s0] (sz, sl, sh, R, I, J) =
    (if s0 = 0 then exe X d 170 84 [dm, Value.int s0, dm] [] (sz, sl, sh, R, I, J) else ((ev X d 174 [Value.ref 37] (sz, sl, sh, R, I, J)).bind fun q => exe X d 170 13 [Value.ref 37, Value.int s0, dm] (q.1.toList ++ []) q.2)) :=
  tq ((E_istore rfl f170_4)) (tq ((E_iload (x := s0) rfl f170_5)) (tq ((E_if_eq f170_6)) (ite_c (rfl) (tq ((E_aload (v := Value.ref 37) rfl rfl f170_9)) ((tq ((E_callV pn_174 pc_174 rfl rfl (Nat.le_of_ble_eq_true rfl) f170_10)) (if_pos (zS37 hS))))))))
theorem t170_13 {X : XX} {d : Nat} {sz sl : Nat} {sh : Nat → Nat × Nat} {R : Nat → Nat → Option Nat} {I : Nat → Nat → Int32} {J : Nat → Nat → Int64} (hS : SF sh R) {l1 : Int32} {s0 : Int32} : exe X d 170 13 [Value.ref 37, Value.int l1, dm] [Value.int s0] (sz, sl, sh, R, I, J) =
    (if s0 = (60) then ((ev X d 174 [Value.ref 37] (sz, sl, sh, R, I, J)).bind fun q => exe X d 170 40 [Value.ref 37, dm, dm] (q.1.toList ++ []) q.2) else ((ev X d 174 [Value.ref 37] (sz, sl, sh, R, I, J)).bind fun q => exe X d 170 22 [Value.ref 37, Value.int l1, dm] (q.1.toList ++ []) q.2)) :=
  tq ((E_iconst (x := (60)) (by decide) f170_13)) (tq ((E_ic_eq f170_15)) (ite_c (tq ((E_aload (v := Value.ref 37) rfl rfl f170_36)) ((tq ((E_callV pn_174 pc_174 rfl rfl (Nat.le_of_ble_eq_true rfl) f170_37)) (if_pos (zS37 hS))))) (tq ((E_aload (v := Value.ref 37) rfl rfl f170_18)) ((tq ((E_callV pn_174 pc_174 rfl rfl (Nat.le_of_ble_eq_true rfl) f170_19)) (if_pos (zS37 hS)))))))
theorem t170_22 {X : XX} {d : Nat} {sz sl : Nat} {sh : Nat → Nat × Nat} {R : Nat → Nat → Option Nat} {I : Nat → Nat → Int32} {J : Nat → Nat → Int64} (hS : SF sh R) {l1 : Int32} {s0 : Int32} : exe X d 170 22 [Value.ref 37, Value.int l1, dm] [Value.int s0] (sz, sl, sh, R, I, J) =
    (if s0 = (61) then ((ev X d 174 [Value.ref 37] (sz, sl, sh, R, I, J)).bind fun q => exe X d 170 40 [Value.ref 37, dm, dm] (q.1.toList ++ []) q.2) else ((ev X d 174 [Value.ref 37] (sz, sl, sh, R, I, J)).bind fun q => exe X d 170 31 [Value.ref 37, Value.int l1, dm] (q.1.toList ++ []) q.2)) :=
  tq ((E_iconst (x := (61)) (by decide) f170_22)) (tq ((E_ic_eq f170_24)) (ite_c (tq ((E_aload (v := Value.ref 37) rfl rfl f170_36)) ((tq ((E_callV pn_174 pc_174 rfl rfl (Nat.le_of_ble_eq_true rfl) f170_37)) (if_pos (zS37 hS))))) (tq ((E_aload (v := Value.ref 37) rfl rfl f170_27)) ((tq ((E_callV pn_174 pc_174 rfl rfl (Nat.le_of_ble_eq_true rfl) f170_28)) (if_pos (zS37 hS)))))))
theorem t170_31 {X : XX} {d : Nat} {sz sl : Nat} {sh : Nat → Nat × Nat} {R : Nat → Nat → Option Nat} {I : Nat → Nat → Int32} {J : Nat → Nat → Int64} (hS : SF sh R) {l1 : Int32} {s0 : Int32} : exe X d 170 31 [Value.ref 37, Value.int l1, dm] [Value.int s0] (sz, sl, sh, R, I, J) =
    (if ¬ s0 = (62) then exe X d 170 84 [dm, Value.int l1, dm] [] (sz, sl, sh, R, I, J) else ((ev X d 174 [Value.ref 37] (sz, sl, sh, R, I, J)).bind fun q => exe X d 170 40 [Value.ref 37, dm, dm] (q.1.toList ++ []) q.2)) :=
  tq ((E_iconst (x := (62)) (by decide) f170_31)) (tq ((E_ic_ne f170_33)) (ite_c (rfl) (tq ((E_aload (v := Value.ref 37) rfl rfl f170_36)) ((tq ((E_callV pn_174 pc_174 rfl rfl (Nat.le_of_ble_eq_true rfl) f170_37)) (if_pos (zS37 hS)))))))
theorem t170_40 {X : XX} {d : Nat} {sz sl : Nat} {sh : Nat → Nat × Nat} {R : Nat → Nat → Option Nat} {I : Nat → Nat → Int32} {J : Nat → Nat → Int64} (hS : SF sh R) {s0 : Int32} : exe X d 170 40 [Value.ref 37, dm, dm] [Value.int s0] (sz, sl, sh, R, I, J) =
    ((ev X d 171 [Value.ref 37] (sz, sl, sh, R, (u2 I 37 36 ((I 37 36) + (1))), J)).bind fun q => exe X d 170 55 [Value.ref 37, dm, Value.int s0] (q.1.toList ++ []) q.2) :=
  tq ((E_istore rfl f170_40)) (tq ((E_aload (v := Value.ref 37) rfl rfl f170_41)) (tq ((E_dup rfl f170_42)) (tq (tq ((G11036 f170_43)) (if_pos (zS37 hS))) (tq ((E_iconst (x := (1)) (by decide) f170_46)) (tq ((E_iadd f170_47)) (tq (tq ((P11036 f170_48)) (if_pos (zS37 hS))) (tq ((E_aload (v := Value.ref 37) rfl rfl f170_51)) ((tq ((E_callV pn_171 pc_171 rfl rfl (Nat.le_of_ble_eq_true rfl) f170_52)) (if_pos (zS37 hS)))))))))))
theorem t170_55 {X : XX} {d : Nat} {sz sl : Nat} {sh : Nat → Nat × Nat} {R : Nat → Nat → Option Nat} {I : Nat → Nat → Int32} {J : Nat → Nat → Int64} (hS : SF sh R) {l2 : Int32} {s0 : Int32} : exe X d 170 55 [Value.ref 37, dm, Value.int l2] [Value.int s0] (sz, sl, sh, R, I, J) =
    (if ¬ l2 = (60) then (if ¬ l2 = (61) then ((ev X d 176 [Value.ref 37, Value.int (20)] (sz, sl, sh, R, I, J)).bind fun q => exe X d 170 84 [dm, Value.int s0, dm] (q.1.toList ++ []) q.2) else ((ev X d 176 [Value.ref 37, Value.int (15)] (sz, sl, sh, R, I, J)).bind fun q => exe X d 170 84 [dm, Value.int s0, dm] (q.1.toList ++ []) q.2)) else ((ev X d 176 [Value.ref 37, Value.int (14)] (sz, sl, sh, R, I, J)).bind fun q => exe X d 170 84 [dm, Value.int s0, dm] (q.1.toList ++ []) q.2)) :=
  tq ((E_istore rfl f170_55)) (tq ((E_aload (v := Value.ref 37) rfl rfl f170_56)) (tq ((E_iload (x := l2) rfl f170_57)) (tq ((E_iconst (x := (60)) (by decide) f170_58)) (tq ((E_ic_ne f170_60)) (ite_c (tq ((E_iload (x := l2) rfl f170_68)) (tq ((E_iconst (x := (61)) (by decide) f170_69)) (tq ((E_ic_ne f170_71)) (ite_c (tq ((E_iconst (x := (20)) (by decide) f170_79)) ((tq ((E_callV pn_176 pc_176 rfl rfl (Nat.le_of_ble_eq_true rfl) f170_81)) (if_pos (zS37 hS))))) (tq ((E_iconst (x := (15)) (by decide) f170_74)) (tq ((E_goto f170_76)) ((tq ((E_callV pn_176 pc_176 rfl rfl (Nat.le_of_ble_eq_true rfl) f170_81)) (if_pos (zS37 hS)))))))))) (tq ((E_iconst (x := (14)) (by decide) f170_63)) (tq ((E_goto f170_65)) ((tq ((E_callV pn_176 pc_176 rfl rfl (Nat.le_of_ble_eq_true rfl) f170_81)) (if_pos (zS37 hS)))))))))))
theorem t170_84 {X : XX} {d : Nat} {sz sl : Nat} {sh : Nat → Nat × Nat} {R : Nat → Nat → Option Nat} {I : Nat → Nat → Int32} {J : Nat → Nat → Int64} {l1 : Int32} : exe X d 170 84 [dm, Value.int l1, dm] [] (sz, sl, sh, R, I, J) =
    (if l1 = 0 ∨ l1 = 1 then some (some (Value.int l1), (sz, sl, sh, R, I, J)) else none) :=
  tq ((E_iload (x := l1) rfl f170_84)) ((E_zret pr_170 f170_85))
theorem n170 {X : XX} {d : Nat} {h : HP}  : ev X (d + 1) 170 [Value.ref 37] h = exe X d 170 0 [Value.ref 37, dm, dm] [] h := ev_exe (Nat.le_of_ble_eq_true rfl)
theorem f171_0 : fr 171 0 = some (.aload 0, 1, [], []) := by decide +kernel
theorem f171_1 : fr 171 1 = some (.invokevirtual 172, 3, [], []) := by decide +kernel
theorem f171_4 : fr 171 4 = some (.istore 1, 1, [], []) := by decide +kernel
theorem f171_5 : fr 171 5 = some (.iload 1, 1, [], []) := by decide +kernel
theorem f171_6 : fr 171 6 = some (.ifCond .eq 67, 3, [], [0]) := by decide +kernel
theorem f171_9 : fr 171 9 = some (.aload 0, 1, [], []) := by decide +kernel
theorem f171_10 : fr 171 10 = some (.invokevirtual 174, 3, [], []) := by decide +kernel
theorem f171_13 : fr 171 13 = some (.iconst 43, 2, [], []) := by decide +kernel
theorem f171_15 : fr 171 15 = some (.if_icmp .eq 27, 3, [], [1]) := by decide +kernel
theorem f171_18 : fr 171 18 = some (.aload 0, 1, [], []) := by decide +kernel
theorem f171_19 : fr 171 19 = some (.invokevirtual 174, 3, [], []) := by decide +kernel
theorem f171_22 : fr 171 22 = some (.iconst 45, 2, [], []) := by decide +kernel
theorem f171_24 : fr 171 24 = some (.if_icmp .ne 67, 3, [1], [0]) := by decide +kernel
theorem f171_27 : fr 171 27 = some (.aload 0, 1, [], []) := by decide +kernel
theorem f171_28 : fr 171 28 = some (.invokevirtual 174, 3, [], []) := by decide +kernel
theorem f171_31 : fr 171 31 = some (.istore 2, 1, [], []) := by decide +kernel
theorem f171_32 : fr 171 32 = some (.aload 0, 1, [], []) := by decide +kernel
theorem f171_33 : fr 171 33 = some (.dup, 1, [], []) := by decide +kernel
theorem f171_34 : fr 171 34 = some (.getfield 11036, 3, [], []) := by decide +kernel
theorem f171_37 : fr 171 37 = some (.iconst 1, 1, [], []) := by decide +kernel
theorem f171_38 : fr 171 38 = some (.iadd, 1, [], []) := by decide +kernel
theorem f171_39 : fr 171 39 = some (.putfield 11036, 3, [], []) := by decide +kernel
theorem f171_42 : fr 171 42 = some (.aload 0, 1, [], []) := by decide +kernel
theorem f171_43 : fr 171 43 = some (.invokevirtual 172, 3, [], []) := by decide +kernel
theorem f171_46 : fr 171 46 = some (.istore 1, 1, [], []) := by decide +kernel
theorem f171_47 : fr 171 47 = some (.aload 0, 1, [], []) := by decide +kernel
theorem f171_48 : fr 171 48 = some (.iload 2, 1, [2], []) := by decide +kernel
theorem f171_49 : fr 171 49 = some (.iconst 43, 2, [], []) := by decide +kernel
theorem f171_51 : fr 171 51 = some (.if_icmp .ne 59, 3, [], []) := by decide +kernel
theorem f171_54 : fr 171 54 = some (.iconst 16, 2, [], []) := by decide +kernel
theorem f171_56 : fr 171 56 = some (.goto 61, 3, [], []) := by decide +kernel
theorem f171_59 : fr 171 59 = some (.iconst 17, 2, [], []) := by decide +kernel
theorem f171_61 : fr 171 61 = some (.invokevirtual 176, 3, [], []) := by decide +kernel
theorem f171_64 : fr 171 64 = some (.goto 5, 3, [], []) := by decide +kernel
theorem f171_67 : fr 171 67 = some (.iload 1, 1, [1], []) := by decide +kernel
theorem f171_68 : fr 171 68 = some (.ireturn, 1, [], []) := by decide +kernel
theorem t171_0 {X : XX} {d : Nat} {sz sl : Nat} {sh : Nat → Nat × Nat} {R : Nat → Nat → Option Nat} {I : Nat → Nat → Int32} {J : Nat → Nat → Int64} (hS : SF sh R)  : exe X d 171 0 [Value.ref 37, dm, dm] [] (sz, sl, sh, R, I, J) =
    ((ev X d 172 [Value.ref 37] (sz, sl, sh, R, I, J)).bind fun q => exe X d 171 4 [Value.ref 37, dm, dm] (q.1.toList ++ []) q.2) :=
  tq ((E_aload (v := Value.ref 37) rfl rfl f171_0)) ((tq ((E_callV pn_172 pc_172 rfl rfl (Nat.le_of_ble_eq_true rfl) f171_1)) (if_pos (zS37 hS))))
theorem t171_4 {X : XX} {d : Nat} {sz sl : Nat} {sh : Nat → Nat × Nat} {R : Nat → Nat → Option Nat} {I : Nat → Nat → Int32} {J : Nat → Nat → Int64} {s0 : Int32} : exe X d 171 4 [Value.ref 37, dm, dm] [Value.int s0] (sz, sl, sh, R, I, J) =
    exe X d 171 5 [Value.ref 37, Value.int s0, dm] [] (sz, sl, sh, R, I, J) :=
  (E_istore rfl f171_4)
theorem t171_5 {X : XX} {d : Nat} {sz sl : Nat} {sh : Nat → Nat × Nat} {R : Nat → Nat → Option Nat} {I : Nat → Nat → Int32} {J : Nat → Nat → Int64} (hS : SF sh R) {l1 : Int32} : exe X d 171 5 [Value.ref 37, Value.int l1, dm] [] (sz, sl, sh, R, I, J) =
    (if l1 = 0 then (if l1 = 0 ∨ l1 = 1 then some (some (Value.int l1), (sz, sl, sh, R, I, J)) else none) else ((ev X d 174 [Value.ref 37] (sz, sl, sh, R, I, J)).bind fun q => exe X d 171 13 [Value.ref 37, Value.int l1, dm] (q.1.toList ++ []) q.2)) :=
  tq ((E_iload (x := l1) rfl f171_5)) (tq ((E_if_eq f171_6)) (ite_c (tq ((E_iload (x := l1) rfl f171_67)) ((E_zret pr_171 f171_68))) (tq ((E_aload (v := Value.ref 37) rfl rfl f171_9)) ((tq ((E_callV pn_174 pc_174 rfl rfl (Nat.le_of_ble_eq_true rfl) f171_10)) (if_pos (zS37 hS)))))))
theorem t171_13 {X : XX} {d : Nat} {sz sl : Nat} {sh : Nat → Nat × Nat} {R : Nat → Nat → Option Nat} {I : Nat → Nat → Int32} {J : Nat → Nat → Int64} (hS : SF sh R) {l1 : Int32} {s0 : Int32} : exe X d 171 13 [Value.ref 37, Value.int l1, dm] [Value.int s0] (sz, sl, sh, R, I, J) =
    (if s0 = (43) then ((ev X d 174 [Value.ref 37] (sz, sl, sh, R, I, J)).bind fun q => exe X d 171 31 [Value.ref 37, dm, dm] (q.1.toList ++ []) q.2) else ((ev X d 174 [Value.ref 37] (sz, sl, sh, R, I, J)).bind fun q => exe X d 171 22 [Value.ref 37, Value.int l1, dm] (q.1.toList ++ []) q.2)) :=
  tq ((E_iconst (x := (43)) (by decide) f171_13)) (tq ((E_ic_eq f171_15)) (ite_c (tq ((E_aload (v := Value.ref 37) rfl rfl f171_27)) ((tq ((E_callV pn_174 pc_174 rfl rfl (Nat.le_of_ble_eq_true rfl) f171_28)) (if_pos (zS37 hS))))) (tq ((E_aload (v := Value.ref 37) rfl rfl f171_18)) ((tq ((E_callV pn_174 pc_174 rfl rfl (Nat.le_of_ble_eq_true rfl) f171_19)) (if_pos (zS37 hS)))))))
theorem t171_22 {X : XX} {d : Nat} {sz sl : Nat} {sh : Nat → Nat × Nat} {R : Nat → Nat → Option Nat} {I : Nat → Nat → Int32} {J : Nat → Nat → Int64} (hS : SF sh R) {l1 : Int32} {s0 : Int32} : exe X d 171 22 [Value.ref 37, Value.int l1, dm] [Value.int s0] (sz, sl, sh, R, I, J) =
    (if ¬ s0 = (45) then (if l1 = 0 ∨ l1 = 1 then some (some (Value.int l1), (sz, sl, sh, R, I, J)) else none) else ((ev X d 174 [Value.ref 37] (sz, sl, sh, R, I, J)).bind fun q => exe X d 171 31 [Value.ref 37, dm, dm] (q.1.toList ++ []) q.2)) :=
  tq ((E_iconst (x := (45)) (by decide) f171_22)) (tq ((E_ic_ne f171_24)) (ite_c (tq ((E_iload (x := l1) rfl f171_67)) ((E_zret pr_171 f171_68))) (tq ((E_aload (v := Value.ref 37) rfl rfl f171_27)) ((tq ((E_callV pn_174 pc_174 rfl rfl (Nat.le_of_ble_eq_true rfl) f171_28)) (if_pos (zS37 hS)))))))
theorem t171_31 {X : XX} {d : Nat} {sz sl : Nat} {sh : Nat → Nat × Nat} {R : Nat → Nat → Option Nat} {I : Nat → Nat → Int32} {J : Nat → Nat → Int64} (hS : SF sh R) {s0 : Int32} : exe X d 171 31 [Value.ref 37, dm, dm] [Value.int s0] (sz, sl, sh, R, I, J) =
    ((ev X d 172 [Value.ref 37] (sz, sl, sh, R, (u2 I 37 36 ((I 37 36) + (1))), J)).bind fun q => exe X d 171 46 [Value.ref 37, dm, Value.int s0] (q.1.toList ++ []) q.2) :=
  tq ((E_istore rfl f171_31)) (tq ((E_aload (v := Value.ref 37) rfl rfl f171_32)) (tq ((E_dup rfl f171_33)) (tq (tq ((G11036 f171_34)) (if_pos (zS37 hS))) (tq ((E_iconst (x := (1)) (by decide) f171_37)) (tq ((E_iadd f171_38)) (tq (tq ((P11036 f171_39)) (if_pos (zS37 hS))) (tq ((E_aload (v := Value.ref 37) rfl rfl f171_42)) ((tq ((E_callV pn_172 pc_172 rfl rfl (Nat.le_of_ble_eq_true rfl) f171_43)) (if_pos (zS37 hS)))))))))))
theorem t171_46 {X : XX} {d : Nat} {sz sl : Nat} {sh : Nat → Nat × Nat} {R : Nat → Nat → Option Nat} {I : Nat → Nat → Int32} {J : Nat → Nat → Int64} (hS : SF sh R) {l2 : Int32} {s0 : Int32} : exe X d 171 46 [Value.ref 37, dm, Value.int l2] [Value.int s0] (sz, sl, sh, R, I, J) =
    (if ¬ l2 = (43) then ((ev X d 176 [Value.ref 37, Value.int (17)] (sz, sl, sh, R, I, J)).bind fun q => exe X d 171 64 [Value.ref 37, Value.int s0, dm] (q.1.toList ++ []) q.2) else ((ev X d 176 [Value.ref 37, Value.int (16)] (sz, sl, sh, R, I, J)).bind fun q => exe X d 171 64 [Value.ref 37, Value.int s0, dm] (q.1.toList ++ []) q.2)) :=
  tq ((E_istore rfl f171_46)) (tq ((E_aload (v := Value.ref 37) rfl rfl f171_47)) (tq ((E_iload (x := l2) rfl f171_48)) (tq ((E_iconst (x := (43)) (by decide) f171_49)) (tq ((E_ic_ne f171_51)) (ite_c (tq ((E_iconst (x := (17)) (by decide) f171_59)) ((tq ((E_callV pn_176 pc_176 rfl rfl (Nat.le_of_ble_eq_true rfl) f171_61)) (if_pos (zS37 hS))))) (tq ((E_iconst (x := (16)) (by decide) f171_54)) (tq ((E_goto f171_56)) ((tq ((E_callV pn_176 pc_176 rfl rfl (Nat.le_of_ble_eq_true rfl) f171_61)) (if_pos (zS37 hS)))))))))))
theorem t171_64 {X : XX} {d : Nat} {sz sl : Nat} {sh : Nat → Nat × Nat} {R : Nat → Nat → Option Nat} {I : Nat → Nat → Int32} {J : Nat → Nat → Int64} {l1 : Int32} : exe X d 171 64 [Value.ref 37, Value.int l1, dm] [] (sz, sl, sh, R, I, J) =
    exe X d 171 5 [Value.ref 37, Value.int l1, dm] [] (sz, sl, sh, R, I, J) :=
  (E_goto f171_64)
theorem n171 {X : XX} {d : Nat} {h : HP}  : ev X (d + 1) 171 [Value.ref 37] h = exe X d 171 0 [Value.ref 37, dm, dm] [] h := ev_exe (Nat.le_of_ble_eq_true rfl)
theorem f172_0 : fr 172 0 = some (.aload 0, 1, [], []) := by decide +kernel
theorem f172_1 : fr 172 1 = some (.invokevirtual 173, 3, [], []) := by decide +kernel
theorem f172_4 : fr 172 4 = some (.istore 1, 1, [], []) := by decide +kernel
theorem f172_5 : fr 172 5 = some (.iload 1, 1, [], []) := by decide +kernel
theorem f172_6 : fr 172 6 = some (.ifCond .eq 87, 3, [], [0]) := by decide +kernel
theorem f172_9 : fr 172 9 = some (.aload 0, 1, [], []) := by decide +kernel
theorem f172_10 : fr 172 10 = some (.invokevirtual 174, 3, [], []) := by decide +kernel
theorem f172_13 : fr 172 13 = some (.iconst 42, 2, [], []) := by decide +kernel
theorem f172_15 : fr 172 15 = some (.if_icmp .eq 36, 3, [], [1]) := by decide +kernel
theorem f172_18 : fr 172 18 = some (.aload 0, 1, [], []) := by decide +kernel
theorem f172_19 : fr 172 19 = some (.invokevirtual 174, 3, [], []) := by decide +kernel
theorem f172_22 : fr 172 22 = some (.iconst 47, 2, [], []) := by decide +kernel
theorem f172_24 : fr 172 24 = some (.if_icmp .eq 36, 3, [], [1]) := by decide +kernel
theorem f172_27 : fr 172 27 = some (.aload 0, 1, [], []) := by decide +kernel
theorem f172_28 : fr 172 28 = some (.invokevirtual 174, 3, [], []) := by decide +kernel
theorem f172_31 : fr 172 31 = some (.iconst 37, 2, [], []) := by decide +kernel
theorem f172_33 : fr 172 33 = some (.if_icmp .ne 87, 3, [1], [0]) := by decide +kernel
theorem f172_36 : fr 172 36 = some (.aload 0, 1, [], []) := by decide +kernel
theorem f172_37 : fr 172 37 = some (.invokevirtual 174, 3, [], []) := by decide +kernel
theorem f172_40 : fr 172 40 = some (.istore 2, 1, [], []) := by decide +kernel
theorem f172_41 : fr 172 41 = some (.aload 0, 1, [], []) := by decide +kernel
theorem f172_42 : fr 172 42 = some (.dup, 1, [], []) := by decide +kernel
theorem f172_43 : fr 172 43 = some (.getfield 11036, 3, [], []) := by decide +kernel
theorem f172_46 : fr 172 46 = some (.iconst 1, 1, [], []) := by decide +kernel
theorem f172_47 : fr 172 47 = some (.iadd, 1, [], []) := by decide +kernel
theorem f172_48 : fr 172 48 = some (.putfield 11036, 3, [], []) := by decide +kernel
theorem f172_51 : fr 172 51 = some (.aload 0, 1, [], []) := by decide +kernel
theorem f172_52 : fr 172 52 = some (.invokevirtual 173, 3, [], []) := by decide +kernel
theorem f172_55 : fr 172 55 = some (.istore 1, 1, [], []) := by decide +kernel
theorem f172_56 : fr 172 56 = some (.aload 0, 1, [], []) := by decide +kernel
theorem f172_57 : fr 172 57 = some (.iload 2, 1, [], []) := by decide +kernel
theorem f172_58 : fr 172 58 = some (.iconst 42, 2, [], []) := by decide +kernel
theorem f172_60 : fr 172 60 = some (.if_icmp .ne 68, 3, [2], []) := by decide +kernel
theorem f172_63 : fr 172 63 = some (.iconst 18, 2, [], []) := by decide +kernel
theorem f172_65 : fr 172 65 = some (.goto 81, 3, [], []) := by decide +kernel
theorem f172_68 : fr 172 68 = some (.iload 2, 1, [2], []) := by decide +kernel
theorem f172_69 : fr 172 69 = some (.iconst 47, 2, [], []) := by decide +kernel
theorem f172_71 : fr 172 71 = some (.if_icmp .ne 79, 3, [], []) := by decide +kernel
theorem f172_74 : fr 172 74 = some (.iconst 21, 2, [], []) := by decide +kernel
theorem f172_76 : fr 172 76 = some (.goto 81, 3, [], []) := by decide +kernel
theorem f172_79 : fr 172 79 = some (.iconst 22, 2, [], []) := by decide +kernel
theorem f172_81 : fr 172 81 = some (.invokevirtual 176, 3, [], []) := by decide +kernel
theorem f172_84 : fr 172 84 = some (.goto 5, 3, [], []) := by decide +kernel
theorem f172_87 : fr 172 87 = some (.iload 1, 1, [1], []) := by decide +kernel
theorem f172_88 : fr 172 88 = some (.ireturn, 1, [], []) := by decide +kernel
theorem t172_0 {X : XX} {d : Nat} {sz sl : Nat} {sh : Nat → Nat × Nat} {R : Nat → Nat → Option Nat} {I : Nat → Nat → Int32} {J : Nat → Nat → Int64} (hS : SF sh R)  : exe X d 172 0 [Value.ref 37, dm, dm] [] (sz, sl, sh, R, I, J) =
    ((ev X d 173 [Value.ref 37] (sz, sl, sh, R, I, J)).bind fun q => exe X d 172 4 [Value.ref 37, dm, dm] (q.1.toList ++ []) q.2) :=
  tq ((E_aload (v := Value.ref 37) rfl rfl f172_0)) ((tq ((E_callV pn_173 pc_173 rfl rfl (Nat.le_of_ble_eq_true rfl) f172_1)) (if_pos (zS37 hS))))
theorem t172_4 {X : XX} {d : Nat} {sz sl : Nat} {sh : Nat → Nat × Nat} {R : Nat → Nat → Option Nat} {I : Nat → Nat → Int32} {J : Nat → Nat → Int64} {s0 : Int32} : exe X d 172 4 [Value.ref 37, dm, dm] [Value.int s0] (sz, sl, sh, R, I, J) =
    exe X d 172 5 [Value.ref 37, Value.int s0, dm] [] (sz, sl, sh, R, I, J) :=
  (E_istore rfl f172_4)
theorem t172_5 {X : XX} {d : Nat} {sz sl : Nat} {sh : Nat → Nat × Nat} {R : Nat → Nat → Option Nat} {I : Nat → Nat → Int32} {J : Nat → Nat → Int64} (hS : SF sh R) {l1 : Int32} : exe X d 172 5 [Value.ref 37, Value.int l1, dm] [] (sz, sl, sh, R, I, J) =
    (if l1 = 0 then (if l1 = 0 ∨ l1 = 1 then some (some (Value.int l1), (sz, sl, sh, R, I, J)) else none) else ((ev X d 174 [Value.ref 37] (sz, sl, sh, R, I, J)).bind fun q => exe X d 172 13 [Value.ref 37, Value.int l1, dm] (q.1.toList ++ []) q.2)) :=
  tq ((E_iload (x := l1) rfl f172_5)) (tq ((E_if_eq f172_6)) (ite_c (tq ((E_iload (x := l1) rfl f172_87)) ((E_zret pr_172 f172_88))) (tq ((E_aload (v := Value.ref 37) rfl rfl f172_9)) ((tq ((E_callV pn_174 pc_174 rfl rfl (Nat.le_of_ble_eq_true rfl) f172_10)) (if_pos (zS37 hS)))))))
theorem t172_13 {X : XX} {d : Nat} {sz sl : Nat} {sh : Nat → Nat × Nat} {R : Nat → Nat → Option Nat} {I : Nat → Nat → Int32} {J : Nat → Nat → Int64} (hS : SF sh R) {l1 : Int32} {s0 : Int32} : exe X d 172 13 [Value.ref 37, Value.int l1, dm] [Value.int s0] (sz, sl, sh, R, I, J) =
    (if s0 = (42) then ((ev X d 174 [Value.ref 37] (sz, sl, sh, R, I, J)).bind fun q => exe X d 172 40 [Value.ref 37, dm, dm] (q.1.toList ++ []) q.2) else ((ev X d 174 [Value.ref 37] (sz, sl, sh, R, I, J)).bind fun q => exe X d 172 22 [Value.ref 37, Value.int l1, dm] (q.1.toList ++ []) q.2)) :=
  tq ((E_iconst (x := (42)) (by decide) f172_13)) (tq ((E_ic_eq f172_15)) (ite_c (tq ((E_aload (v := Value.ref 37) rfl rfl f172_36)) ((tq ((E_callV pn_174 pc_174 rfl rfl (Nat.le_of_ble_eq_true rfl) f172_37)) (if_pos (zS37 hS))))) (tq ((E_aload (v := Value.ref 37) rfl rfl f172_18)) ((tq ((E_callV pn_174 pc_174 rfl rfl (Nat.le_of_ble_eq_true rfl) f172_19)) (if_pos (zS37 hS)))))))
theorem t172_22 {X : XX} {d : Nat} {sz sl : Nat} {sh : Nat → Nat × Nat} {R : Nat → Nat → Option Nat} {I : Nat → Nat → Int32} {J : Nat → Nat → Int64} (hS : SF sh R) {l1 : Int32} {s0 : Int32} : exe X d 172 22 [Value.ref 37, Value.int l1, dm] [Value.int s0] (sz, sl, sh, R, I, J) =
    (if s0 = (47) then ((ev X d 174 [Value.ref 37] (sz, sl, sh, R, I, J)).bind fun q => exe X d 172 40 [Value.ref 37, dm, dm] (q.1.toList ++ []) q.2) else ((ev X d 174 [Value.ref 37] (sz, sl, sh, R, I, J)).bind fun q => exe X d 172 31 [Value.ref 37, Value.int l1, dm] (q.1.toList ++ []) q.2)) :=
  tq ((E_iconst (x := (47)) (by decide) f172_22)) (tq ((E_ic_eq f172_24)) (ite_c (tq ((E_aload (v := Value.ref 37) rfl rfl f172_36)) ((tq ((E_callV pn_174 pc_174 rfl rfl (Nat.le_of_ble_eq_true rfl) f172_37)) (if_pos (zS37 hS))))) (tq ((E_aload (v := Value.ref 37) rfl rfl f172_27)) ((tq ((E_callV pn_174 pc_174 rfl rfl (Nat.le_of_ble_eq_true rfl) f172_28)) (if_pos (zS37 hS)))))))
theorem t172_31 {X : XX} {d : Nat} {sz sl : Nat} {sh : Nat → Nat × Nat} {R : Nat → Nat → Option Nat} {I : Nat → Nat → Int32} {J : Nat → Nat → Int64} (hS : SF sh R) {l1 : Int32} {s0 : Int32} : exe X d 172 31 [Value.ref 37, Value.int l1, dm] [Value.int s0] (sz, sl, sh, R, I, J) =
    (if ¬ s0 = (37) then (if l1 = 0 ∨ l1 = 1 then some (some (Value.int l1), (sz, sl, sh, R, I, J)) else none) else ((ev X d 174 [Value.ref 37] (sz, sl, sh, R, I, J)).bind fun q => exe X d 172 40 [Value.ref 37, dm, dm] (q.1.toList ++ []) q.2)) :=
  tq ((E_iconst (x := (37)) (by decide) f172_31)) (tq ((E_ic_ne f172_33)) (ite_c (tq ((E_iload (x := l1) rfl f172_87)) ((E_zret pr_172 f172_88))) (tq ((E_aload (v := Value.ref 37) rfl rfl f172_36)) ((tq ((E_callV pn_174 pc_174 rfl rfl (Nat.le_of_ble_eq_true rfl) f172_37)) (if_pos (zS37 hS)))))))
theorem t172_40 {X : XX} {d : Nat} {sz sl : Nat} {sh : Nat → Nat × Nat} {R : Nat → Nat → Option Nat} {I : Nat → Nat → Int32} {J : Nat → Nat → Int64} (hS : SF sh R) {s0 : Int32} : exe X d 172 40 [Value.ref 37, dm, dm] [Value.int s0] (sz, sl, sh, R, I, J) =
    ((ev X d 173 [Value.ref 37] (sz, sl, sh, R, (u2 I 37 36 ((I 37 36) + (1))), J)).bind fun q => exe X d 172 55 [Value.ref 37, dm, Value.int s0] (q.1.toList ++ []) q.2) :=
  tq ((E_istore rfl f172_40)) (tq ((E_aload (v := Value.ref 37) rfl rfl f172_41)) (tq ((E_dup rfl f172_42)) (tq (tq ((G11036 f172_43)) (if_pos (zS37 hS))) (tq ((E_iconst (x := (1)) (by decide) f172_46)) (tq ((E_iadd f172_47)) (tq (tq ((P11036 f172_48)) (if_pos (zS37 hS))) (tq ((E_aload (v := Value.ref 37) rfl rfl f172_51)) ((tq ((E_callV pn_173 pc_173 rfl rfl (Nat.le_of_ble_eq_true rfl) f172_52)) (if_pos (zS37 hS)))))))))))
theorem t172_55 {X : XX} {d : Nat} {sz sl : Nat} {sh : Nat → Nat × Nat} {R : Nat → Nat → Option Nat} {I : Nat → Nat → Int32} {J : Nat → Nat → Int64} (hS : SF sh R) {l2 : Int32} {s0 : Int32} : exe X d 172 55 [Value.ref 37, dm, Value.int l2] [Value.int s0] (sz, sl, sh, R, I, J) =
    (if ¬ l2 = (42) then (if ¬ l2 = (47) then ((ev X d 176 [Value.ref 37, Value.int (22)] (sz, sl, sh, R, I, J)).bind fun q => exe X d 172 84 [Value.ref 37, Value.int s0, dm] (q.1.toList ++ []) q.2) else ((ev X d 176 [Value.ref 37, Value.int (21)] (sz, sl, sh, R, I, J)).bind fun q => exe X d 172 84 [Value.ref 37, Value.int s0, dm] (q.1.toList ++ []) q.2)) else ((ev X d 176 [Value.ref 37, Value.int (18)] (sz, sl, sh, R, I, J)).bind fun q => exe X d 172 84 [Value.ref 37, Value.int s0, dm] (q.1.toList ++ []) q.2)) :=
  tq ((E_istore rfl f172_55)) (tq ((E_aload (v := Value.ref 37) rfl rfl f172_56)) (tq ((E_iload (x := l2) rfl f172_57)) (tq ((E_iconst (x := (42)) (by decide) f172_58)) (tq ((E_ic_ne f172_60)) (ite_c (tq ((E_iload (x := l2) rfl f172_68)) (tq ((E_iconst (x := (47)) (by decide) f172_69)) (tq ((E_ic_ne f172_71)) (ite_c (tq ((E_iconst (x := (22)) (by decide) f172_79)) ((tq ((E_callV pn_176 pc_176 rfl rfl (Nat.le_of_ble_eq_true rfl) f172_81)) (if_pos (zS37 hS))))) (tq ((E_iconst (x := (21)) (by decide) f172_74)) (tq ((E_goto f172_76)) ((tq ((E_callV pn_176 pc_176 rfl rfl (Nat.le_of_ble_eq_true rfl) f172_81)) (if_pos (zS37 hS)))))))))) (tq ((E_iconst (x := (18)) (by decide) f172_63)) (tq ((E_goto f172_65)) ((tq ((E_callV pn_176 pc_176 rfl rfl (Nat.le_of_ble_eq_true rfl) f172_81)) (if_pos (zS37 hS)))))))))))
theorem t172_84 {X : XX} {d : Nat} {sz sl : Nat} {sh : Nat → Nat × Nat} {R : Nat → Nat → Option Nat} {I : Nat → Nat → Int32} {J : Nat → Nat → Int64} {l1 : Int32} : exe X d 172 84 [Value.ref 37, Value.int l1, dm] [] (sz, sl, sh, R, I, J) =
    exe X d 172 5 [Value.ref 37, Value.int l1, dm] [] (sz, sl, sh, R, I, J) :=
  (E_goto f172_84)
theorem n172 {X : XX} {d : Nat} {h : HP}  : ev X (d + 1) 172 [Value.ref 37] h = exe X d 172 0 [Value.ref 37, dm, dm] [] h := ev_exe (Nat.le_of_ble_eq_true rfl)
