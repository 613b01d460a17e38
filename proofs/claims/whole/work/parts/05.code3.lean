theorem f76_0 : fr 76 0 = some (.iconst 0, 1, [], []) := by decide +kernel
theorem f76_1 : fr 76 1 = some (.istore 4, 2, [], []) := by decide +kernel
theorem f76_3 : fr 76 3 = some (.iconst 0, 1, [], []) := by decide +kernel
theorem f76_4 : fr 76 4 = some (.istore 5, 2, [], []) := by decide +kernel
theorem f76_6 : fr 76 6 = some (.iload 5, 2, [], []) := by decide +kernel
theorem f76_8 : fr 76 8 = some (.iconst 8, 2, [], []) := by decide +kernel
theorem f76_10 : fr 76 10 = some (.if_icmp .ge 36, 3, [], [0, 1, 2, 3, 5]) := by decide +kernel
theorem f76_13 : fr 76 13 = some (.aload 0, 1, [], []) := by decide +kernel
theorem f76_14 : fr 76 14 = some (.iload 1, 1, [], []) := by decide +kernel
theorem f76_15 : fr 76 15 = some (.iload 5, 2, [], []) := by decide +kernel
theorem f76_17 : fr 76 17 = some (.iload 2, 1, [], []) := by decide +kernel
theorem f76_18 : fr 76 18 = some (.imul, 1, [], []) := by decide +kernel
theorem f76_19 : fr 76 19 = some (.iadd, 1, [], []) := by decide +kernel
theorem f76_20 : fr 76 20 = some (.invokevirtual 16, 3, [], []) := by decide +kernel
theorem f76_23 : fr 76 23 = some (.iload 3, 1, [], []) := by decide +kernel
theorem f76_24 : fr 76 24 = some (.if_icmp .ge 36, 3, [], [0, 1, 2, 3, 5]) := by decide +kernel
theorem f76_27 : fr 76 27 = some (.iinc 4 1, 3, [], []) := by decide +kernel
theorem f76_30 : fr 76 30 = some (.iinc 5 1, 3, [], []) := by decide +kernel
theorem f76_33 : fr 76 33 = some (.goto 6, 3, [], []) := by decide +kernel
theorem f76_36 : fr 76 36 = some (.iload 4, 2, [4], []) := by decide +kernel
theorem f76_38 : fr 76 38 = some (.ireturn, 1, [], []) := by decide +kernel
theorem t76_0 {X : XX} {d : Nat} {sz sl : Nat} {sh : Nat → Nat × Nat} {R : Nat → Nat → Option Nat} {I : Nat → Nat → Int32} {J : Nat → Nat → Int64} {l0 : Nat} (h0 : sh l0 = (15, 0)) {l1 : Int32} {l2 : Int32} {l3 : Int32} : exe X d 76 0 [Value.ref l0, Value.int l1, Value.int l2, Value.int l3, dm, dm] [] (sz, sl, sh, R, I, J) =
    exe X d 76 6 [Value.ref l0, Value.int l1, Value.int l2, Value.int l3, Value.int (0), Value.int (0)] [] (sz, sl, sh, R, I, J) :=
  tq ((E_iconst (x := (0)) (by decide) f76_0)) (tq ((E_istore rfl f76_1)) (tq ((E_iconst (x := (0)) (by decide) f76_3)) ((E_istore rfl f76_4))))
theorem t76_6 {X : XX} {d : Nat} {sz sl : Nat} {sh : Nat → Nat × Nat} {R : Nat → Nat → Option Nat} {I : Nat → Nat → Int32} {J : Nat → Nat → Int64} {l0 : Nat} (h0 : sh l0 = (15, 0)) {l1 : Int32} {l2 : Int32} {l3 : Int32} {l4 : Int32} {l5 : Int32} : exe X d 76 6 [Value.ref l0, Value.int l1, Value.int l2, Value.int l3, Value.int l4, Value.int l5] [] (sz, sl, sh, R, I, J) =
    (if (8) ≤ l5 then some (some (Value.int l4), (sz, sl, sh, R, I, J)) else ((ev X d 16 [Value.ref l0, Value.int (l1 + (l5 * l2))] (sz, sl, sh, R, I, J)).bind fun q => exe X d 76 23 [Value.ref l0, Value.int l1, Value.int l2, Value.int l3, Value.int l4, Value.int l5] (q.1.toList ++ []) q.2)) :=
  tq ((E_iload (x := l5) rfl f76_6)) (tq ((E_iconst (x := (8)) (by decide) f76_8)) (tq ((E_ic_ge f76_10)) (ite_c (tq ((E_iload (x := l4) rfl f76_36)) ((E_iret pr_76 f76_38))) (tq ((E_aload (v := Value.ref l0) rfl rfl f76_13)) (tq ((E_iload (x := l1) rfl f76_14)) (tq ((E_iload (x := l5) rfl f76_15)) (tq ((E_iload (x := l2) rfl f76_17)) (tq ((E_imul f76_18)) (tq ((E_iadd f76_19)) ((tq ((E_callV pn_16 pc_16 rfl rfl (Nat.le_of_ble_eq_true rfl) f76_20)) (if_pos h0))))))))))))
theorem t76_23 {X : XX} {d : Nat} {sz sl : Nat} {sh : Nat → Nat × Nat} {R : Nat → Nat → Option Nat} {I : Nat → Nat → Int32} {J : Nat → Nat → Int64} {l0 : Nat} (h0 : sh l0 = (15, 0)) {l1 : Int32} {l2 : Int32} {l3 : Int32} {l4 : Int32} {l5 : Int32} {s0 : Int32} : exe X d 76 23 [Value.ref l0, Value.int l1, Value.int l2, Value.int l3, Value.int l4, Value.int l5] [Value.int s0] (sz, sl, sh, R, I, J) =
    (if l3 ≤ s0 then some (some (Value.int l4), (sz, sl, sh, R, I, J)) else exe X d 76 6 [Value.ref l0, Value.int l1, Value.int l2, Value.int l3, Value.int (l4 + (1)), Value.int (l5 + (1))] [] (sz, sl, sh, R, I, J)) :=
  tq ((E_iload (x := l3) rfl f76_23)) (tq ((E_ic_ge f76_24)) (ite_c (tq ((E_iload (x := l4) rfl f76_36)) ((E_iret pr_76 f76_38))) (tq ((E_iinc (x := l4) (x' := (1)) rfl rfl (by decide) f76_27)) (tq ((E_iinc (x := l5) (x' := (1)) rfl rfl (by decide) f76_30)) ((E_goto f76_33))))))
theorem n76 {X : XX} {d : Nat} {h : HP} {l0 : Nat} {a0 : Int32} {a1 : Int32} {a2 : Int32} : ev X (d + 1) 76 [Value.ref l0, Value.int a0, Value.int a1, Value.int a2] h = exe X d 76 0 [Value.ref l0, Value.int a0, Value.int a1, Value.int a2, dm, dm] [] h := ev_exe (Nat.le_of_ble_eq_true rfl)
theorem f77_0 : fr 77 0 = some (.aload 0, 1, [], []) := by decide +kernel
theorem f77_1 : fr 77 1 = some (.iload 1, 1, [1], []) := by decide +kernel
theorem f77_2 : fr 77 2 = some (.invokevirtual 57, 3, [], []) := by decide +kernel
theorem f77_5 : fr 77 5 = some (.astore 5, 2, [], []) := by decide +kernel
theorem f77_7 : fr 77 7 = some (.aload 0, 1, [0], []) := by decide +kernel
theorem f77_8 : fr 77 8 = some (.iload 2, 1, [], []) := by decide +kernel
theorem f77_9 : fr 77 9 = some (.invokevirtual 18, 3, [], []) := by decide +kernel
theorem f77_12 : fr 77 12 = some (.astore 6, 2, [], []) := by decide +kernel
theorem f77_14 : fr 77 14 = some (.iload 3, 1, [], []) := by decide +kernel
theorem f77_15 : fr 77 15 = some (.iconst 10, 2, [], []) := by decide +kernel
theorem f77_17 : fr 77 17 = some (.idiv, 1, [], []) := by decide +kernel
theorem f77_18 : fr 77 18 = some (.iconst 10, 2, [], []) := by decide +kernel
theorem f77_20 : fr 77 20 = some (.irem, 1, [], []) := by decide +kernel
theorem f77_21 : fr 77 21 = some (.istore 7, 2, [], []) := by decide +kernel
theorem f77_23 : fr 77 23 = some (.iload 3, 1, [], []) := by decide +kernel
theorem f77_24 : fr 77 24 = some (.iconst 10, 2, [], []) := by decide +kernel
theorem f77_26 : fr 77 26 = some (.irem, 1, [], []) := by decide +kernel
theorem f77_27 : fr 77 27 = some (.istore 8, 2, [], []) := by decide +kernel
theorem f77_29 : fr 77 29 = some (.aload 5, 2, [], []) := by decide +kernel
theorem f77_31 : fr 77 31 = some (.ifnull 67, 3, [], [2, 3, 4, 5, 6, 7, 8]) := by decide +kernel
theorem f77_34 : fr 77 34 = some (.aload 6, 2, [], []) := by decide +kernel
theorem f77_36 : fr 77 36 = some (.ifnull 67, 3, [], [2, 3, 4, 5, 6, 7, 8]) := by decide +kernel
theorem f77_39 : fr 77 39 = some (.iload 3, 1, [], []) := by decide +kernel
theorem f77_40 : fr 77 40 = some (.iconst 0, 1, [], []) := by decide +kernel
theorem f77_41 : fr 77 41 = some (.iconst 799, 3, [], []) := by decide +kernel
theorem f77_44 : fr 77 44 = some (.invokestatic 10, 3, [], []) := by decide +kernel
theorem f77_47 : fr 77 47 = some (.ifCond .eq 67, 3, [], [2, 3, 4, 5, 6, 7, 8]) := by decide +kernel
theorem f77_50 : fr 77 50 = some (.iload 8, 2, [], []) := by decide +kernel
theorem f77_52 : fr 77 52 = some (.iload 7, 2, [], []) := by decide +kernel
theorem f77_54 : fr 77 54 = some (.if_icmp .lt 67, 3, [], [2, 3, 4, 5, 6, 7, 8]) := by decide +kernel
theorem f77_57 : fr 77 57 = some (.iload 4, 2, [], []) := by decide +kernel
theorem f77_59 : fr 77 59 = some (.iconst 0, 1, [], []) := by decide +kernel
theorem f77_60 : fr 77 60 = some (.iconst 1, 1, [], []) := by decide +kernel
theorem f77_61 : fr 77 61 = some (.invokestatic 10, 3, [], []) := by decide +kernel
theorem f77_64 : fr 77 64 = some (.ifCond .ne 69, 3, [2, 3, 4, 5, 6, 7, 8], []) := by decide +kernel
theorem f77_67 : fr 77 67 = some (.iconst (-1), 1, [], []) := by decide +kernel
theorem f77_68 : fr 77 68 = some (.ireturn, 1, [], []) := by decide +kernel
theorem f77_69 : fr 77 69 = some (.iload 2, 1, [2], []) := by decide +kernel
theorem f77_70 : fr 77 70 = some (.iconst 10, 2, [], []) := by decide +kernel
theorem f77_72 : fr 77 72 = some (.irem, 1, [], []) := by decide +kernel
theorem f77_73 : fr 77 73 = some (.istore 9, 2, [], []) := by decide +kernel
theorem f77_75 : fr 77 75 = some (.iload 3, 1, [3], []) := by decide +kernel
theorem f77_76 : fr 77 76 = some (.iconst 100, 2, [], []) := by decide +kernel
theorem f77_78 : fr 77 78 = some (.idiv, 1, [], []) := by decide +kernel
theorem f77_79 : fr 77 79 = some (.istore 10, 2, [], []) := by decide +kernel
theorem f77_81 : fr 77 81 = some (.aload 6, 2, [], []) := by decide +kernel
theorem f77_83 : fr 77 83 = some (.iload 9, 2, [], []) := by decide +kernel
theorem f77_85 : fr 77 85 = some (.invokevirtual 16, 3, [], []) := by decide +kernel
theorem f77_88 : fr 77 88 = some (.iconst 1000, 3, [], []) := by decide +kernel
theorem f77_91 : fr 77 91 = some (.imul, 1, [], []) := by decide +kernel
theorem f77_92 : fr 77 92 = some (.istore 11, 2, [], []) := by decide +kernel
theorem f77_94 : fr 77 94 = some (.iconst 2000000000, 2, [], []) := by decide +kernel
theorem f77_96 : fr 77 96 = some (.istore 12, 2, [], []) := by decide +kernel
theorem f77_98 : fr 77 98 = some (.iconst 0, 1, [], []) := by decide +kernel
theorem f77_99 : fr 77 99 = some (.istore 13, 2, [], []) := by decide +kernel
theorem f77_101 : fr 77 101 = some (.iload 7, 2, [7], []) := by decide +kernel
theorem f77_103 : fr 77 103 = some (.istore 14, 2, [], []) := by decide +kernel
theorem f77_105 : fr 77 105 = some (.iload 14, 2, [], []) := by decide +kernel
theorem f77_107 : fr 77 107 = some (.iload 8, 2, [], []) := by decide +kernel
theorem f77_109 : fr 77 109 = some (.if_icmp .gt 190, 3, [], [5, 6, 8, 9, 10, 11, 14]) := by decide +kernel
theorem f77_112 : fr 77 112 = some (.aload 5, 2, [], []) := by decide +kernel
theorem f77_114 : fr 77 114 = some (.aload 6, 2, [], []) := by decide +kernel
theorem f77_116 : fr 77 116 = some (.iload 9, 2, [], []) := by decide +kernel
theorem f77_118 : fr 77 118 = some (.iload 10, 2, [], []) := by decide +kernel
theorem f77_120 : fr 77 120 = some (.iconst 0, 1, [], []) := by decide +kernel
theorem f77_121 : fr 77 121 = some (.iload 14, 2, [], []) := by decide +kernel
theorem f77_123 : fr 77 123 = some (.iconst 0, 1, [], []) := by decide +kernel
theorem f77_124 : fr 77 124 = some (.invokevirtual 58, 3, [], []) := by decide +kernel
theorem f77_127 : fr 77 127 = some (.aload 5, 2, [], []) := by decide +kernel
theorem f77_129 : fr 77 129 = some (.aload 6, 2, [], []) := by decide +kernel
theorem f77_131 : fr 77 131 = some (.iload 9, 2, [], []) := by decide +kernel
theorem f77_133 : fr 77 133 = some (.iload 10, 2, [], []) := by decide +kernel
theorem f77_135 : fr 77 135 = some (.iconst 1, 1, [], []) := by decide +kernel
theorem f77_136 : fr 77 136 = some (.iload 14, 2, [], []) := by decide +kernel
theorem f77_138 : fr 77 138 = some (.iconst 0, 1, [], []) := by decide +kernel
theorem f77_139 : fr 77 139 = some (.invokevirtual 58, 3, [], []) := by decide +kernel
theorem f77_142 : fr 77 142 = some (.iadd, 1, [], []) := by decide +kernel
theorem f77_143 : fr 77 143 = some (.iconst 2, 1, [], []) := by decide +kernel
theorem f77_144 : fr 77 144 = some (.idiv, 1, [], []) := by decide +kernel
theorem f77_145 : fr 77 145 = some (.istore 15, 2, [], []) := by decide +kernel
theorem f77_147 : fr 77 147 = some (.iload 15, 2, [], []) := by decide +kernel
theorem f77_149 : fr 77 149 = some (.ifCond .ne 155, 3, [4, 5, 6, 8, 9, 10, 11, 12, 13, 14, 15], []) := by decide +kernel
theorem f77_152 : fr 77 152 = some (.iconst (-2), 2, [], []) := by decide +kernel
theorem f77_154 : fr 77 154 = some (.ireturn, 1, [], []) := by decide +kernel
theorem f77_155 : fr 77 155 = some (.iload 12, 2, [12], []) := by decide +kernel
theorem f77_157 : fr 77 157 = some (.iload 11, 2, [], []) := by decide +kernel
theorem f77_159 : fr 77 159 = some (.iload 15, 2, [], []) := by decide +kernel
theorem f77_161 : fr 77 161 = some (.idiv, 1, [], []) := by decide +kernel
theorem f77_162 : fr 77 162 = some (.fsub, 3, [], []) := by decide +kernel
theorem f77_165 : fr 77 165 = some (.istore 12, 2, [], []) := by decide +kernel
theorem f77_167 : fr 77 167 = some (.iload 13, 2, [13], []) := by decide +kernel
theorem f77_169 : fr 77 169 = some (.iload 11, 2, [], []) := by decide +kernel
theorem f77_171 : fr 77 171 = some (.iload 15, 2, [], []) := by decide +kernel
theorem f77_173 : fr 77 173 = some (.iadd, 1, [], []) := by decide +kernel
theorem f77_174 : fr 77 174 = some (.iconst 1, 1, [], []) := by decide +kernel
theorem f77_175 : fr 77 175 = some (.isub, 1, [], []) := by decide +kernel
theorem f77_176 : fr 77 176 = some (.iload 15, 2, [15], []) := by decide +kernel
theorem f77_178 : fr 77 178 = some (.idiv, 1, [], []) := by decide +kernel
theorem f77_179 : fr 77 179 = some (.fadd, 3, [], []) := by decide +kernel
theorem f77_182 : fr 77 182 = some (.istore 13, 2, [], []) := by decide +kernel
theorem f77_184 : fr 77 184 = some (.iinc 14 1, 3, [], []) := by decide +kernel
theorem f77_187 : fr 77 187 = some (.goto 105, 3, [], []) := by decide +kernel
theorem f77_190 : fr 77 190 = some (.iload 4, 2, [4], []) := by decide +kernel
theorem f77_192 : fr 77 192 = some (.ifCond .ne 200, 3, [13], [12]) := by decide +kernel
theorem f77_195 : fr 77 195 = some (.iload 12, 2, [12], []) := by decide +kernel
theorem f77_197 : fr 77 197 = some (.goto 202, 3, [], []) := by decide +kernel
theorem f77_200 : fr 77 200 = some (.iload 13, 2, [13], []) := by decide +kernel
theorem f77_202 : fr 77 202 = some (.ireturn, 1, [], []) := by decide +kernel
theorem t77_0 {X : XX} {d : Nat} {sz sl : Nat} {sh : Nat → Nat × Nat} {R : Nat → Nat → Option Nat} {I : Nat → Nat → Int32} {J : Nat → Nat → Int64} (hS : SF sh R) {l1 : Int32} {l2 : Int32} {l3 : Int32} {l4 : Int32} : exe X d 77 0 [Value.ref 0, Value.int l1, Value.int l2, Value.int l3, Value.int l4, dm, dm, dm, dm, dm, dm, dm, dm, dm, dm, dm] [] (sz, sl, sh, R, I, J) =
    ((ev X d 57 [Value.ref 0, Value.int l1] (sz, sl, sh, R, I, J)).bind fun q => exe X d 77 5 [Value.ref 0, dm, Value.int l2, Value.int l3, Value.int l4, dm, dm, dm, dm, dm, dm, dm, dm, dm, dm, dm] (q.1.toList ++ []) q.2) :=
  tq ((E_aload (v := Value.ref 0) rfl rfl f77_0)) (tq ((E_iload (x := l1) rfl f77_1)) ((tq ((E_callV pn_57 pc_57 rfl rfl (Nat.le_of_ble_eq_true rfl) f77_2)) (if_pos (zS0 hS)))))
theorem t77_5 {X : XX} {d : Nat} {sz sl : Nat} {sh : Nat → Nat × Nat} {R : Nat → Nat → Option Nat} {I : Nat → Nat → Int32} {J : Nat → Nat → Int64} (hS : SF sh R) {l2 : Int32} {l3 : Int32} {l4 : Int32} {s0 : Value} (k0 : isB s0 = true) : exe X d 77 5 [Value.ref 0, dm, Value.int l2, Value.int l3, Value.int l4, dm, dm, dm, dm, dm, dm, dm, dm, dm, dm, dm] [s0] (sz, sl, sh, R, I, J) =
    ((ev X d 18 [Value.ref 0, Value.int l2] (sz, sl, sh, R, I, J)).bind fun q => exe X d 77 12 [dm, dm, Value.int l2, Value.int l3, Value.int l4, s0, dm, dm, dm, dm, dm, dm, dm, dm, dm, dm] (q.1.toList ++ []) q.2) :=
  tq ((E_astore k0 rfl f77_5)) (tq ((E_aload (v := Value.ref 0) rfl rfl f77_7)) (tq ((E_iload (x := l2) rfl f77_8)) ((tq ((E_callV pn_18 pc_18 rfl rfl (Nat.le_of_ble_eq_true rfl) f77_9)) (if_pos (zS0 hS))))))
theorem t77_12 {X : XX} {d : Nat} {sz sl : Nat} {sh : Nat → Nat × Nat} {R : Nat → Nat → Option Nat} {I : Nat → Nat → Int32} {J : Nat → Nat → Int64} {l2 : Int32} {l3 : Int32} {l4 : Int32} {l5 : Value} (h5 : isB l5 = true) {s0 : Value} (k0 : isB s0 = true) : exe X d 77 12 [dm, dm, Value.int l2, Value.int l3, Value.int l4, l5, dm, dm, dm, dm, dm, dm, dm, dm, dm, dm] [s0] (sz, sl, sh, R, I, J) =
    (nn (l5) (some (some (Value.int (-1)), (sz, sl, sh, R, I, J))) ((nn (s0) (some (some (Value.int (-1)), (sz, sl, sh, R, I, J))) (((ev X d 10 [Value.int l3, Value.int (0), Value.int (799)] (sz, sl, sh, R, I, J)).bind fun q => exe X d 77 47 [dm, dm, Value.int l2, Value.int l3, Value.int l4, l5, s0, Value.int ((l3 / (10)) - (l3 / (10)) / (10) * (10)), Value.int (l3 - l3 / (10) * (10)), dm, dm, dm, dm, dm, dm, dm] (q.1.toList ++ []) q.2))))) :=
  tq ((E_astore k0 (okS_A (Nat.lt_of_sub_eq_succ rfl) rfl h5) f77_12)) (tq ((E_iload (x := l3) rfl f77_14)) (tq ((E_iconst (x := (10)) (by decide) f77_15)) (tq ((E_idiv (by decide) f77_17)) (tq ((E_iconst (x := (10)) (by decide) f77_18)) (tq ((E_irem (by decide) f77_20)) (tq ((E_istore (okS_A (Nat.lt_of_sub_eq_succ rfl) rfl k0) f77_21)) (tq ((E_iload (x := l3) rfl f77_23)) (tq ((E_iconst (x := (10)) (by decide) f77_24)) (tq ((E_irem (by decide) f77_26)) (tq ((E_istore rfl f77_27)) (tq ((E_aload (v := l5) rfl (isBA h5) f77_29)) (tq ((E_ifnull f77_31)) (nn_c (tq ((E_iconst (x := (-1)) (by decide) f77_67)) ((E_iret pr_77 f77_68))) (tq ((E_aload (v := s0) rfl (isBA k0) f77_34)) (tq ((E_ifnull f77_36)) (nn_c (tq ((E_iconst (x := (-1)) (by decide) f77_67)) ((E_iret pr_77 f77_68))) (tq ((E_iload (x := l3) rfl f77_39)) (tq ((E_iconst (x := (0)) (by decide) f77_40)) (tq ((E_iconst (x := (799)) (by decide) f77_41)) ((E_callS pn_10 rfl rfl (Nat.le_of_ble_eq_true rfl) (Nat.le_of_ble_eq_true rfl) f77_44)))))))))))))))))))))
theorem t77_47 {X : XX} {d : Nat} {sz sl : Nat} {sh : Nat → Nat × Nat} {R : Nat → Nat → Option Nat} {I : Nat → Nat → Int32} {J : Nat → Nat → Int64} {l2 : Int32} {l3 : Int32} {l4 : Int32} {l5 : Value} (h5 : isB l5 = true) {l6 : Value} (h6 : isB l6 = true) {l7 : Int32} {l8 : Int32} {s0 : Int32} : exe X d 77 47 [dm, dm, Value.int l2, Value.int l3, Value.int l4, l5, l6, Value.int l7, Value.int l8, dm, dm, dm, dm, dm, dm, dm] [Value.int s0] (sz, sl, sh, R, I, J) =
    (if s0 = 0 then some (some (Value.int (-1)), (sz, sl, sh, R, I, J)) else (if l8 < l7 then some (some (Value.int (-1)), (sz, sl, sh, R, I, J)) else ((ev X d 10 [Value.int l4, Value.int (0), Value.int (1)] (sz, sl, sh, R, I, J)).bind fun q => exe X d 77 64 [dm, dm, Value.int l2, Value.int l3, Value.int l4, l5, l6, Value.int l7, Value.int l8, dm, dm, dm, dm, dm, dm, dm] (q.1.toList ++ []) q.2))) :=
  tq ((E_if_eq f77_47)) (ite_c (tq ((E_iconst (x := (-1)) (by decide) f77_67)) ((E_iret pr_77 f77_68))) (tq ((E_iload (x := l8) rfl f77_50)) (tq ((E_iload (x := l7) rfl f77_52)) (tq ((E_ic_lt f77_54)) (ite_c (tq ((E_iconst (x := (-1)) (by decide) f77_67)) ((E_iret pr_77 f77_68))) (tq ((E_iload (x := l4) rfl f77_57)) (tq ((E_iconst (x := (0)) (by decide) f77_59)) (tq ((E_iconst (x := (1)) (by decide) f77_60)) ((E_callS pn_10 rfl rfl (Nat.le_of_ble_eq_true rfl) (Nat.le_of_ble_eq_true rfl) f77_61))))))))))
theorem t77_64 {X : XX} {d : Nat} {sz sl : Nat} {sh : Nat → Nat × Nat} {R : Nat → Nat → Option Nat} {I : Nat → Nat → Int32} {J : Nat → Nat → Int64} {l2 : Int32} {l3 : Int32} {l4 : Int32} {l5 : Value} (h5 : isB l5 = true) {l6 : Value} (h6 : isB l6 = true) {l7 : Int32} {l8 : Int32} {s0 : Int32} : exe X d 77 64 [dm, dm, Value.int l2, Value.int l3, Value.int l4, l5, l6, Value.int l7, Value.int l8, dm, dm, dm, dm, dm, dm, dm] [Value.int s0] (sz, sl, sh, R, I, J) =
    (if ¬ s0 = 0 then (rf (l6) fun p1 => if sh p1 = (15, 0) then ((ev X d 16 [Value.ref p1, Value.int (l2 - l2 / (10) * (10))] (sz, sl, sh, R, I, J)).bind fun q => exe X d 77 88 [dm, dm, dm, dm, Value.int l4, l5, l6, Value.int l7, Value.int l8, Value.int (l2 - l2 / (10) * (10)), Value.int (l3 / (100)), dm, dm, dm, dm, dm] (q.1.toList ++ []) q.2) else none) else some (some (Value.int (-1)), (sz, sl, sh, R, I, J))) :=
  tq ((E_if_ne f77_64)) (ite_c (tq ((E_iload (x := l2) rfl f77_69)) (tq ((E_iconst (x := (10)) (by decide) f77_70)) (tq ((E_irem (by decide) f77_72)) (tq ((E_istore rfl f77_73)) (tq ((E_iload (x := l3) rfl f77_75)) (tq ((E_iconst (x := (100)) (by decide) f77_76)) (tq ((E_idiv (by decide) f77_78)) (tq ((E_istore rfl f77_79)) (tq ((E_aload (v := l6) rfl (isBA h6) f77_81)) (tq ((E_iload (x := (l2 - l2 / (10) * (10))) rfl f77_83)) ((E_callV pn_16 pc_16 rfl rfl (Nat.le_of_ble_eq_true rfl) f77_85)))))))))))) (tq ((E_iconst (x := (-1)) (by decide) f77_67)) ((E_iret pr_77 f77_68))))
theorem t77_88 {X : XX} {d : Nat} {sz sl : Nat} {sh : Nat → Nat × Nat} {R : Nat → Nat → Option Nat} {I : Nat → Nat → Int32} {J : Nat → Nat → Int64} {l4 : Int32} {l5 : Value} (h5 : isB l5 = true) {l6 : Value} (h6 : isB l6 = true) {l7 : Int32} {l8 : Int32} {l9 : Int32} {l10 : Int32} {s0 : Int32} : exe X d 77 88 [dm, dm, dm, dm, Value.int l4, l5, l6, Value.int l7, Value.int l8, Value.int l9, Value.int l10, dm, dm, dm, dm, dm] [Value.int s0] (sz, sl, sh, R, I, J) =
    exe X d 77 105 [dm, dm, dm, dm, Value.int l4, l5, l6, dm, Value.int l8, Value.int l9, Value.int l10, Value.int (s0 * (1000)), Value.int (2000000000), Value.int (0), Value.int l7, dm] [] (sz, sl, sh, R, I, J) :=
  tq ((E_iconst (x := (1000)) (by decide) f77_88)) (tq ((E_imul f77_91)) (tq ((E_istore rfl f77_92)) (tq ((E_iconst (x := (2000000000)) (by decide) f77_94)) (tq ((E_istore rfl f77_96)) (tq ((E_iconst (x := (0)) (by decide) f77_98)) (tq ((E_istore rfl f77_99)) (tq ((E_iload (x := l7) rfl f77_101)) ((E_istore rfl f77_103)))))))))
theorem t77_105 {X : XX} {d : Nat} {sz sl : Nat} {sh : Nat → Nat × Nat} {R : Nat → Nat → Option Nat} {I : Nat → Nat → Int32} {J : Nat → Nat → Int64} {l4 : Int32} {l5 : Value} (h5 : isB l5 = true) {l6 : Value} (h6 : isB l6 = true) {l8 : Int32} {l9 : Int32} {l10 : Int32} {l11 : Int32} {l12 : Int32} {l13 : Int32} {l14 : Int32} : exe X d 77 105 [dm, dm, dm, dm, Value.int l4, l5, l6, dm, Value.int l8, Value.int l9, Value.int l10, Value.int l11, Value.int l12, Value.int l13, Value.int l14, dm] [] (sz, sl, sh, R, I, J) =
    (if l8 < l14 then (if ¬ l4 = 0 then some (some (Value.int l13), (sz, sl, sh, R, I, J)) else some (some (Value.int l12), (sz, sl, sh, R, I, J))) else (rf (l5) fun p1 => if sh p1 = (10, 0) then ((ev X d 58 [Value.ref p1, l6, Value.int l9, Value.int l10, Value.int (0), Value.int l14, Value.int (0)] (sz, sl, sh, R, I, J)).bind fun q => exe X d 77 127 [dm, dm, dm, dm, Value.int l4, l5, l6, dm, Value.int l8, Value.int l9, Value.int l10, Value.int l11, Value.int l12, Value.int l13, Value.int l14, dm] (q.1.toList ++ []) q.2) else none)) :=
  tq ((E_iload (x := l14) rfl f77_105)) (tq ((E_iload (x := l8) rfl f77_107)) (tq ((E_ic_gt f77_109)) (ite_c (tq ((E_iload (x := l4) rfl f77_190)) (tq ((E_if_ne f77_192)) (ite_c (tq ((E_iload (x := l13) rfl f77_200)) ((E_iret pr_77 f77_202))) (tq ((E_iload (x := l12) rfl f77_195)) (tq ((E_goto f77_197)) ((E_iret pr_77 f77_202))))))) (tq ((E_aload (v := l5) rfl (isBA h5) f77_112)) (tq ((E_aload (v := l6) rfl (isBA h6) f77_114)) (tq ((E_iload (x := l9) rfl f77_116)) (tq ((E_iload (x := l10) rfl f77_118)) (tq ((E_iconst (x := (0)) (by decide) f77_120)) (tq ((E_iload (x := l14) rfl f77_121)) (tq ((E_iconst (x := (0)) (by decide) f77_123)) ((E_callV pn_58 pc_58 rfl rfl (Nat.le_of_ble_eq_true rfl) f77_124))))))))))))
theorem t77_127 {X : XX} {d : Nat} {sz sl : Nat} {sh : Nat → Nat × Nat} {R : Nat → Nat → Option Nat} {I : Nat → Nat → Int32} {J : Nat → Nat → Int64} {l4 : Int32} {l5 : Value} (h5 : isB l5 = true) {l6 : Value} (h6 : isB l6 = true) {l8 : Int32} {l9 : Int32} {l10 : Int32} {l11 : Int32} {l12 : Int32} {l13 : Int32} {l14 : Int32} {s0 : Int32} : exe X d 77 127 [dm, dm, dm, dm, Value.int l4, l5, l6, dm, Value.int l8, Value.int l9, Value.int l10, Value.int l11, Value.int l12, Value.int l13, Value.int l14, dm] [Value.int s0] (sz, sl, sh, R, I, J) =
    (rf (l5) fun p1 => if sh p1 = (10, 0) then ((ev X d 58 [Value.ref p1, l6, Value.int l9, Value.int l10, Value.int (1), Value.int l14, Value.int (0)] (sz, sl, sh, R, I, J)).bind fun q => exe X d 77 142 [dm, dm, dm, dm, Value.int l4, l5, l6, dm, Value.int l8, Value.int l9, Value.int l10, Value.int l11, Value.int l12, Value.int l13, Value.int l14, dm] (q.1.toList ++ [Value.int s0]) q.2) else none) :=
  tq ((E_aload (v := l5) rfl (isBA h5) f77_127)) (tq ((E_aload (v := l6) rfl (isBA h6) f77_129)) (tq ((E_iload (x := l9) rfl f77_131)) (tq ((E_iload (x := l10) rfl f77_133)) (tq ((E_iconst (x := (1)) (by decide) f77_135)) (tq ((E_iload (x := l14) rfl f77_136)) (tq ((E_iconst (x := (0)) (by decide) f77_138)) ((E_callV pn_58 pc_58 rfl rfl (Nat.le_of_ble_eq_true rfl) f77_139))))))))
theorem t77_142 {X : XX} {d : Nat} {sz sl : Nat} {sh : Nat → Nat × Nat} {R : Nat → Nat → Option Nat} {I : Nat → Nat → Int32} {J : Nat → Nat → Int64} {l4 : Int32} {l5 : Value} (h5 : isB l5 = true) {l6 : Value} (h6 : isB l6 = true) {l8 : Int32} {l9 : Int32} {l10 : Int32} {l11 : Int32} {l12 : Int32} {l13 : Int32} {l14 : Int32} {s0 : Int32} {s1 : Int32} : exe X d 77 142 [dm, dm, dm, dm, Value.int l4, l5, l6, dm, Value.int l8, Value.int l9, Value.int l10, Value.int l11, Value.int l12, Value.int l13, Value.int l14, dm] [Value.int s0, Value.int s1] (sz, sl, sh, R, I, J) =
    (if ¬ ((s1 + s0) / (2)) = 0 then (if ((s1 + s0) / (2)) = 0 then none else (if ((s1 + s0) / (2)) = 0 then none else exe X d 77 105 [dm, dm, dm, dm, Value.int l4, l5, l6, dm, Value.int l8, Value.int l9, Value.int l10, Value.int l11, Value.int (if (l11 / ((s1 + s0) / (2))) < l12 then (l11 / ((s1 + s0) / (2))) else l12), Value.int (if l13 < (((l11 + ((s1 + s0) / (2))) - (1)) / ((s1 + s0) / (2))) then (((l11 + ((s1 + s0) / (2))) - (1)) / ((s1 + s0) / (2))) else l13), Value.int (l14 + (1)), dm] [] (sz, sl, sh, R, I, J))) else some (some (Value.int (-2)), (sz, sl, sh, R, I, J))) :=
  tq ((E_iadd f77_142)) (tq ((E_iconst (x := (2)) (by decide) f77_143)) (tq ((E_idiv (by decide) f77_144)) (tq ((E_istore rfl f77_145)) (tq ((E_iload (x := ((s1 + s0) / (2))) rfl f77_147)) (tq ((E_if_ne f77_149)) (ite_c (tq ((E_iload (x := l12) rfl f77_155)) (tq ((E_iload (x := l11) rfl f77_157)) (tq ((E_iload (x := ((s1 + s0) / (2))) rfl f77_159)) (tq (E_idiv' f77_161) (ite_c rfl (tq ((E_fsub (Nat.le_of_ble_eq_true rfl) f77_162)) (tq ((E_istore rfl f77_165)) (tq ((E_iload (x := l13) rfl f77_167)) (tq ((E_iload (x := l11) rfl f77_169)) (tq ((E_iload (x := ((s1 + s0) / (2))) rfl f77_171)) (tq ((E_iadd f77_173)) (tq ((E_iconst (x := (1)) (by decide) f77_174)) (tq ((E_isub f77_175)) (tq ((E_iload (x := ((s1 + s0) / (2))) rfl f77_176)) (tq (E_idiv' f77_178) (ite_c rfl (tq ((E_fadd (Nat.le_of_ble_eq_true rfl) f77_179)) (tq ((E_istore rfl f77_182)) (tq ((E_iinc (x := l14) (x' := (1)) rfl rfl (by decide) f77_184)) ((E_goto f77_187))))))))))))))))))))) (tq ((E_iconst (x := (-2)) (by decide) f77_152)) ((E_iret pr_77 f77_154)))))))))
theorem n77 {X : XX} {d : Nat} {h : HP} {a0 : Int32} {a1 : Int32} {a2 : Int32} {a3 : Int32} : ev X (d + 1) 77 [Value.ref 0, Value.int a0, Value.int a1, Value.int a2, Value.int a3] h = exe X d 77 0 [Value.ref 0, Value.int a0, Value.int a1, Value.int a2, Value.int a3, dm, dm, dm, dm, dm, dm, dm, dm, dm, dm, dm] [] h := ev_exe (Nat.le_of_ble_eq_true rfl)
theorem f78_0 : fr 78 0 = some (.aload 0, 1, [], []) := by decide +kernel
theorem f78_1 : fr 78 1 = some (.iload 1, 1, [1], []) := by decide +kernel
theorem f78_2 : fr 78 2 = some (.invokevirtual 57, 3, [], []) := by decide +kernel
theorem f78_5 : fr 78 5 = some (.astore 5, 2, [], []) := by decide +kernel
theorem f78_7 : fr 78 7 = some (.aload 0, 1, [], []) := by decide +kernel
theorem f78_8 : fr 78 8 = some (.iload 2, 1, [2], []) := by decide +kernel
theorem f78_9 : fr 78 9 = some (.invokevirtual 12, 3, [], []) := by decide +kernel
theorem f78_12 : fr 78 12 = some (.astore 6, 2, [], []) := by decide +kernel
theorem f78_14 : fr 78 14 = some (.aload 5, 2, [], []) := by decide +kernel
theorem f78_16 : fr 78 16 = some (.ifnull 44, 3, [], [0, 3, 4, 5, 6]) := by decide +kernel
theorem f78_19 : fr 78 19 = some (.aload 6, 2, [], []) := by decide +kernel
theorem f78_21 : fr 78 21 = some (.ifnull 44, 3, [], [0, 3, 4, 5, 6]) := by decide +kernel
theorem f78_24 : fr 78 24 = some (.iload 3, 1, [], []) := by decide +kernel
theorem f78_25 : fr 78 25 = some (.iconst 0, 1, [], []) := by decide +kernel
theorem f78_26 : fr 78 26 = some (.iconst 79, 2, [], []) := by decide +kernel
theorem f78_28 : fr 78 28 = some (.invokestatic 10, 3, [], []) := by decide +kernel
theorem f78_31 : fr 78 31 = some (.ifCond .eq 44, 3, [], [0, 3, 4, 5, 6]) := by decide +kernel
theorem f78_34 : fr 78 34 = some (.iload 4, 2, [], []) := by decide +kernel
theorem f78_36 : fr 78 36 = some (.iconst 0, 1, [], []) := by decide +kernel
theorem f78_37 : fr 78 37 = some (.iconst 2, 1, [], []) := by decide +kernel
theorem f78_38 : fr 78 38 = some (.invokestatic 10, 3, [], []) := by decide +kernel
theorem f78_41 : fr 78 41 = some (.ifCond .ne 46, 3, [0, 3, 4, 5, 6], []) := by decide +kernel
theorem f78_44 : fr 78 44 = some (.iconst (-1), 1, [], []) := by decide +kernel
theorem f78_45 : fr 78 45 = some (.ireturn, 1, [], []) := by decide +kernel
theorem f78_46 : fr 78 46 = some (.aload 0, 1, [], []) := by decide +kernel
theorem f78_47 : fr 78 47 = some (.getfield 7, 3, [], []) := by decide +kernel
theorem f78_50 : fr 78 50 = some (.aload 5, 2, [5], []) := by decide +kernel
theorem f78_52 : fr 78 52 = some (.aload 6, 2, [6], []) := by decide +kernel
theorem f78_54 : fr 78 54 = some (.iload 3, 1, [], []) := by decide +kernel
theorem f78_55 : fr 78 55 = some (.iconst 10, 2, [], []) := by decide +kernel
theorem f78_57 : fr 78 57 = some (.idiv, 1, [], []) := by decide +kernel
theorem f78_58 : fr 78 58 = some (.iload 3, 1, [3], []) := by decide +kernel
theorem f78_59 : fr 78 59 = some (.iconst 10, 2, [], []) := by decide +kernel
theorem f78_61 : fr 78 61 = some (.irem, 1, [], []) := by decide +kernel
theorem f78_62 : fr 78 62 = some (.invokevirtual 79, 3, [], []) := by decide +kernel
theorem f78_65 : fr 78 65 = some (.iload 4, 2, [], []) := by decide +kernel
theorem f78_67 : fr 78 67 = some (.iconst 2, 1, [], []) := by decide +kernel
theorem f78_68 : fr 78 68 = some (.if_icmp .ne 79, 3, [4], []) := by decide +kernel
theorem f78_71 : fr 78 71 = some (.aload 0, 1, [0], []) := by decide +kernel
theorem f78_72 : fr 78 72 = some (.getfield 7, 3, [], []) := by decide +kernel
theorem f78_75 : fr 78 75 = some (.getfield 6005, 3, [], []) := by decide +kernel
theorem f78_78 : fr 78 78 = some (.ireturn, 1, [], []) := by decide +kernel
theorem f78_79 : fr 78 79 = some (.iload 4, 2, [4], []) := by decide +kernel
theorem f78_81 : fr 78 81 = some (.ifCond .ne 94, 3, [], []) := by decide +kernel
theorem f78_84 : fr 78 84 = some (.aload 0, 1, [0], []) := by decide +kernel
theorem f78_85 : fr 78 85 = some (.getfield 7, 3, [], []) := by decide +kernel
theorem f78_88 : fr 78 88 = some (.getfield 6003, 3, [], []) := by decide +kernel
theorem f78_91 : fr 78 91 = some (.goto 101, 3, [], []) := by decide +kernel
theorem f78_94 : fr 78 94 = some (.aload 0, 1, [0], []) := by decide +kernel
theorem f78_95 : fr 78 95 = some (.getfield 7, 3, [], []) := by decide +kernel
theorem f78_98 : fr 78 98 = some (.getfield 6004, 3, [], []) := by decide +kernel
theorem f78_101 : fr 78 101 = some (.ireturn, 1, [], []) := by decide +kernel
theorem t78_0 {X : XX} {d : Nat} {sz sl : Nat} {sh : Nat → Nat × Nat} {R : Nat → Nat → Option Nat} {I : Nat → Nat → Int32} {J : Nat → Nat → Int64} (hS : SF sh R) {l1 : Int32} {l2 : Int32} {l3 : Int32} {l4 : Int32} : exe X d 78 0 [Value.ref 0, Value.int l1, Value.int l2, Value.int l3, Value.int l4, dm, dm] [] (sz, sl, sh, R, I, J) =
    ((ev X d 57 [Value.ref 0, Value.int l1] (sz, sl, sh, R, I, J)).bind fun q => exe X d 78 5 [Value.ref 0, dm, Value.int l2, Value.int l3, Value.int l4, dm, dm] (q.1.toList ++ []) q.2) :=
  tq ((E_aload (v := Value.ref 0) rfl rfl f78_0)) (tq ((E_iload (x := l1) rfl f78_1)) ((tq ((E_callV pn_57 pc_57 rfl rfl (Nat.le_of_ble_eq_true rfl) f78_2)) (if_pos (zS0 hS)))))
theorem t78_5 {X : XX} {d : Nat} {sz sl : Nat} {sh : Nat → Nat × Nat} {R : Nat → Nat → Option Nat} {I : Nat → Nat → Int32} {J : Nat → Nat → Int64} (hS : SF sh R) {l2 : Int32} {l3 : Int32} {l4 : Int32} {s0 : Value} (k0 : isB s0 = true) : exe X d 78 5 [Value.ref 0, dm, Value.int l2, Value.int l3, Value.int l4, dm, dm] [s0] (sz, sl, sh, R, I, J) =
    ((ev X d 12 [Value.ref 0, Value.int l2] (sz, sl, sh, R, I, J)).bind fun q => exe X d 78 12 [Value.ref 0, dm, dm, Value.int l3, Value.int l4, s0, dm] (q.1.toList ++ []) q.2) :=
  tq ((E_astore k0 rfl f78_5)) (tq ((E_aload (v := Value.ref 0) rfl rfl f78_7)) (tq ((E_iload (x := l2) rfl f78_8)) ((tq ((E_callV pn_12 pc_12 rfl rfl (Nat.le_of_ble_eq_true rfl) f78_9)) (if_pos (zS0 hS))))))
theorem t78_12 {X : XX} {d : Nat} {sz sl : Nat} {sh : Nat → Nat × Nat} {R : Nat → Nat → Option Nat} {I : Nat → Nat → Int32} {J : Nat → Nat → Int64} {l3 : Int32} {l4 : Int32} {l5 : Value} (h5 : isB l5 = true) {s0 : Value} (k0 : isB s0 = true) : exe X d 78 12 [Value.ref 0, dm, dm, Value.int l3, Value.int l4, l5, dm] [s0] (sz, sl, sh, R, I, J) =
    (nn (l5) (some (some (Value.int (-1)), (sz, sl, sh, R, I, J))) ((nn (s0) (some (some (Value.int (-1)), (sz, sl, sh, R, I, J))) (((ev X d 10 [Value.int l3, Value.int (0), Value.int (79)] (sz, sl, sh, R, I, J)).bind fun q => exe X d 78 31 [Value.ref 0, dm, dm, Value.int l3, Value.int l4, l5, s0] (q.1.toList ++ []) q.2))))) :=
  tq ((E_astore k0 (okS_A (Nat.lt_of_sub_eq_succ rfl) rfl h5) f78_12)) (tq ((E_aload (v := l5) rfl (isBA h5) f78_14)) (tq ((E_ifnull f78_16)) (nn_c (tq ((E_iconst (x := (-1)) (by decide) f78_44)) ((E_iret pr_78 f78_45))) (tq ((E_aload (v := s0) rfl (isBA k0) f78_19)) (tq ((E_ifnull f78_21)) (nn_c (tq ((E_iconst (x := (-1)) (by decide) f78_44)) ((E_iret pr_78 f78_45))) (tq ((E_iload (x := l3) rfl f78_24)) (tq ((E_iconst (x := (0)) (by decide) f78_25)) (tq ((E_iconst (x := (79)) (by decide) f78_26)) ((E_callS pn_10 rfl rfl (Nat.le_of_ble_eq_true rfl) (Nat.le_of_ble_eq_true rfl) f78_28)))))))))))
theorem t78_31 {X : XX} {d : Nat} {sz sl : Nat} {sh : Nat → Nat × Nat} {R : Nat → Nat → Option Nat} {I : Nat → Nat → Int32} {J : Nat → Nat → Int64} {l3 : Int32} {l4 : Int32} {l5 : Value} (h5 : isB l5 = true) {l6 : Value} (h6 : isB l6 = true) {s0 : Int32} : exe X d 78 31 [Value.ref 0, dm, dm, Value.int l3, Value.int l4, l5, l6] [Value.int s0] (sz, sl, sh, R, I, J) =
    (if s0 = 0 then some (some (Value.int (-1)), (sz, sl, sh, R, I, J)) else ((ev X d 10 [Value.int l4, Value.int (0), Value.int (2)] (sz, sl, sh, R, I, J)).bind fun q => exe X d 78 41 [Value.ref 0, dm, dm, Value.int l3, Value.int l4, l5, l6] (q.1.toList ++ []) q.2)) :=
  tq ((E_if_eq f78_31)) (ite_c (tq ((E_iconst (x := (-1)) (by decide) f78_44)) ((E_iret pr_78 f78_45))) (tq ((E_iload (x := l4) rfl f78_34)) (tq ((E_iconst (x := (0)) (by decide) f78_36)) (tq ((E_iconst (x := (2)) (by decide) f78_37)) ((E_callS pn_10 rfl rfl (Nat.le_of_ble_eq_true rfl) (Nat.le_of_ble_eq_true rfl) f78_38))))))
theorem t78_41 {X : XX} {d : Nat} {sz sl : Nat} {sh : Nat → Nat × Nat} {R : Nat → Nat → Option Nat} {I : Nat → Nat → Int32} {J : Nat → Nat → Int64} (hS : SF sh R) {l3 : Int32} {l4 : Int32} {l5 : Value} (h5 : isB l5 = true) {l6 : Value} (h6 : isB l6 = true) {s0 : Int32} : exe X d 78 41 [Value.ref 0, dm, dm, Value.int l3, Value.int l4, l5, l6] [Value.int s0] (sz, sl, sh, R, I, J) =
    (if ¬ s0 = 0 then ((ev X d 79 [Value.ref 7, l5, l6, Value.int (l3 / (10)), Value.int (l3 - l3 / (10) * (10))] (sz, sl, sh, R, I, J)).bind fun q => exe X d 78 65 [Value.ref 0, dm, dm, dm, Value.int l4, dm, dm] (q.1.toList ++ []) q.2) else some (some (Value.int (-1)), (sz, sl, sh, R, I, J))) :=
  tq ((E_if_ne f78_41)) (ite_c (tq ((E_aload (v := Value.ref 0) rfl rfl f78_46)) (tq (tq ((G7 f78_47)) (if_pos (zS0 hS))) (tq (exe_R (zR0_7 hS)) (tq ((E_aload (v := l5) rfl (isBA h5) f78_50)) (tq ((E_aload (v := l6) rfl (isBA h6) f78_52)) (tq ((E_iload (x := l3) rfl f78_54)) (tq ((E_iconst (x := (10)) (by decide) f78_55)) (tq ((E_idiv (by decide) f78_57)) (tq ((E_iload (x := l3) rfl f78_58)) (tq ((E_iconst (x := (10)) (by decide) f78_59)) (tq ((E_irem (by decide) f78_61)) ((tq ((E_callV pn_79 pc_79 rfl rfl (Nat.le_of_ble_eq_true rfl) f78_62)) (if_pos (zS7 hS))))))))))))))) (tq ((E_iconst (x := (-1)) (by decide) f78_44)) ((E_iret pr_78 f78_45))))
theorem t78_65 {X : XX} {d : Nat} {sz sl : Nat} {sh : Nat → Nat × Nat} {R : Nat → Nat → Option Nat} {I : Nat → Nat → Int32} {J : Nat → Nat → Int64} (hS : SF sh R) {l4 : Int32} : exe X d 78 65 [Value.ref 0, dm, dm, dm, Value.int l4, dm, dm] [] (sz, sl, sh, R, I, J) =
    (if ¬ l4 = (2) then (if ¬ l4 = 0 then some (some (Value.int (I 7 4)), (sz, sl, sh, R, I, J)) else some (some (Value.int (I 7 3)), (sz, sl, sh, R, I, J))) else some (some (Value.int (I 7 5)), (sz, sl, sh, R, I, J))) :=
  tq ((E_iload (x := l4) rfl f78_65)) (tq ((E_iconst (x := (2)) (by decide) f78_67)) (tq ((E_ic_ne f78_68)) (ite_c (tq ((E_iload (x := l4) rfl f78_79)) (tq ((E_if_ne f78_81)) (ite_c (tq ((E_aload (v := Value.ref 0) rfl rfl f78_94)) (tq (tq ((G7 f78_95)) (if_pos (zS0 hS))) (tq (exe_R (zR0_7 hS)) (tq (tq ((G6004 f78_98)) (if_pos (zS7 hS))) ((E_iret pr_78 f78_101)))))) (tq ((E_aload (v := Value.ref 0) rfl rfl f78_84)) (tq (tq ((G7 f78_85)) (if_pos (zS0 hS))) (tq (exe_R (zR0_7 hS)) (tq (tq ((G6003 f78_88)) (if_pos (zS7 hS))) (tq ((E_goto f78_91)) ((E_iret pr_78 f78_101)))))))))) (tq ((E_aload (v := Value.ref 0) rfl rfl f78_71)) (tq (tq ((G7 f78_72)) (if_pos (zS0 hS))) (tq (exe_R (zR0_7 hS)) (tq (tq ((G6005 f78_75)) (if_pos (zS7 hS))) ((E_iret pr_78 f78_78)))))))))
theorem n78 {X : XX} {d : Nat} {h : HP} {a0 : Int32} {a1 : Int32} {a2 : Int32} {a3 : Int32} : ev X (d + 1) 78 [Value.ref 0, Value.int a0, Value.int a1, Value.int a2, Value.int a3] h = exe X d 78 0 [Value.ref 0, Value.int a0, Value.int a1, Value.int a2, Value.int a3, dm, dm] [] h := ev_exe (Nat.le_of_ble_eq_true rfl)
theorem f79_0 : fr 79 0 = some (.iconst 0, 1, [], []) := by decide +kernel
theorem f79_1 : fr 79 1 = some (.istore 5, 2, [], []) := by decide +kernel
theorem f79_3 : fr 79 3 = some (.iload 5, 2, [], []) := by decide +kernel
theorem f79_5 : fr 79 5 = some (.iconst 8, 2, [], []) := by decide +kernel
theorem f79_7 : fr 79 7 = some (.if_icmp .ge 54, 3, [], [1, 3, 4, 5]) := by decide +kernel
theorem f79_10 : fr 79 10 = some (.aload 0, 1, [], []) := by decide +kernel
theorem f79_11 : fr 79 11 = some (.getfield 6000, 3, [], []) := by decide +kernel
theorem f79_14 : fr 79 14 = some (.iload 5, 2, [], []) := by decide +kernel
theorem f79_16 : fr 79 16 = some (.aload 1, 1, [], []) := by decide +kernel
theorem f79_17 : fr 79 17 = some (.aload 2, 1, [], []) := by decide +kernel
theorem f79_18 : fr 79 18 = some (.iload 5, 2, [], []) := by decide +kernel
theorem f79_20 : fr 79 20 = some (.iload 3, 1, [], []) := by decide +kernel
theorem f79_21 : fr 79 21 = some (.iconst 0, 1, [], []) := by decide +kernel
theorem f79_22 : fr 79 22 = some (.iload 4, 2, [], []) := by decide +kernel
theorem f79_24 : fr 79 24 = some (.iconst 0, 1, [], []) := by decide +kernel
theorem f79_25 : fr 79 25 = some (.invokevirtual 58, 3, [], []) := by decide +kernel
theorem f79_28 : fr 79 28 = some (.iastore, 1, [], []) := by decide +kernel
theorem f79_29 : fr 79 29 = some (.aload 0, 1, [], []) := by decide +kernel
theorem f79_30 : fr 79 30 = some (.getfield 6001, 3, [], []) := by decide +kernel
theorem f79_33 : fr 79 33 = some (.iload 5, 2, [], []) := by decide +kernel
theorem f79_35 : fr 79 35 = some (.aload 1, 1, [], []) := by decide +kernel
theorem f79_36 : fr 79 36 = some (.aload 2, 1, [], []) := by decide +kernel
theorem f79_37 : fr 79 37 = some (.iload 5, 2, [], []) := by decide +kernel
theorem f79_39 : fr 79 39 = some (.iload 3, 1, [], []) := by decide +kernel
theorem f79_40 : fr 79 40 = some (.iconst 1, 1, [], []) := by decide +kernel
theorem f79_41 : fr 79 41 = some (.iload 4, 2, [], []) := by decide +kernel
theorem f79_43 : fr 79 43 = some (.iconst 0, 1, [], []) := by decide +kernel
theorem f79_44 : fr 79 44 = some (.invokevirtual 58, 3, [], []) := by decide +kernel
theorem f79_47 : fr 79 47 = some (.iastore, 1, [], []) := by decide +kernel
theorem f79_48 : fr 79 48 = some (.iinc 5 1, 3, [], []) := by decide +kernel
theorem f79_51 : fr 79 51 = some (.goto 3, 3, [], []) := by decide +kernel
theorem f79_54 : fr 79 54 = some (.aload 0, 1, [], []) := by decide +kernel
theorem f79_55 : fr 79 55 = some (.iconst 2000000000, 2, [], []) := by decide +kernel
theorem f79_57 : fr 79 57 = some (.putfield 6005, 3, [], []) := by decide +kernel
theorem f79_60 : fr 79 60 = some (.iconst 0, 1, [], []) := by decide +kernel
theorem f79_61 : fr 79 61 = some (.istore 5, 2, [], []) := by decide +kernel
theorem f79_63 : fr 79 63 = some (.iload 5, 2, [], []) := by decide +kernel
theorem f79_65 : fr 79 65 = some (.iconst 60, 2, [], []) := by decide +kernel
theorem f79_67 : fr 79 67 = some (.if_icmp .gt 122, 3, [], [0, 2, 5]) := by decide +kernel
theorem f79_70 : fr 79 70 = some (.iconst 0, 1, [], []) := by decide +kernel
theorem f79_71 : fr 79 71 = some (.istore 6, 2, [], []) := by decide +kernel
theorem f79_73 : fr 79 73 = some (.iload 6, 2, [], []) := by decide +kernel
theorem f79_75 : fr 79 75 = some (.iconst 8, 2, [], []) := by decide +kernel
theorem f79_77 : fr 79 77 = some (.if_icmp .ge 110, 3, [], [6]) := by decide +kernel
theorem f79_80 : fr 79 80 = some (.aload 0, 1, [], []) := by decide +kernel
theorem f79_81 : fr 79 81 = some (.getfield 6002, 3, [], []) := by decide +kernel
theorem f79_84 : fr 79 84 = some (.iload 6, 2, [], []) := by decide +kernel
theorem f79_86 : fr 79 86 = some (.aload 2, 1, [], []) := by decide +kernel
theorem f79_87 : fr 79 87 = some (.iload 6, 2, [], []) := by decide +kernel
theorem f79_89 : fr 79 89 = some (.invokevirtual 16, 3, [], []) := by decide +kernel
theorem f79_92 : fr 79 92 = some (.iload 5, 2, [], []) := by decide +kernel
theorem f79_94 : fr 79 94 = some (.aload 0, 1, [], []) := by decide +kernel
theorem f79_95 : fr 79 95 = some (.getfield 6000, 3, [], []) := by decide +kernel
theorem f79_98 : fr 79 98 = some (.iload 6, 2, [], []) := by decide +kernel
theorem f79_100 : fr 79 100 = some (.iaload, 1, [], []) := by decide +kernel
theorem f79_101 : fr 79 101 = some (.imul, 1, [], []) := by decide +kernel
theorem f79_102 : fr 79 102 = some (.isub, 1, [], []) := by decide +kernel
theorem f79_103 : fr 79 103 = some (.iastore, 1, [], []) := by decide +kernel
theorem f79_104 : fr 79 104 = some (.iinc 6 1, 3, [], []) := by decide +kernel
theorem f79_107 : fr 79 107 = some (.goto 73, 3, [], []) := by decide +kernel
theorem f79_110 : fr 79 110 = some (.aload 0, 1, [], []) := by decide +kernel
theorem f79_111 : fr 79 111 = some (.iload 5, 2, [], []) := by decide +kernel
theorem f79_113 : fr 79 113 = some (.invokevirtual 80, 3, [], []) := by decide +kernel
theorem f79_116 : fr 79 116 = some (.iinc 5 1, 3, [], []) := by decide +kernel
theorem f79_119 : fr 79 119 = some (.goto 63, 3, [], []) := by decide +kernel
theorem f79_122 : fr 79 122 = some (.return_, 1, [], []) := by decide +kernel
theorem t79_0 {X : XX} {d : Nat} {sz sl : Nat} {sh : Nat → Nat × Nat} {R : Nat → Nat → Option Nat} {I : Nat → Nat → Int32} {J : Nat → Nat → Int64} {l1 : Nat} {l2 : Nat} {l3 : Int32} {l4 : Int32} : exe X d 79 0 [Value.ref 7, Value.ref l1, Value.ref l2, Value.int l3, Value.int l4, dm, dm] [] (sz, sl, sh, R, I, J) =
    exe X d 79 3 [Value.ref 7, Value.ref l1, Value.ref l2, Value.int l3, Value.int l4, Value.int (0), dm] [] (sz, sl, sh, R, I, J) :=
  tq ((E_iconst (x := (0)) (by decide) f79_0)) ((E_istore rfl f79_1))
theorem t79_3 {X : XX} {d : Nat} {sz sl : Nat} {sh : Nat → Nat × Nat} {R : Nat → Nat → Option Nat} {I : Nat → Nat → Int32} {J : Nat → Nat → Int64} (hS : SF sh R) {l1 : Nat} {l2 : Nat} {l3 : Int32} {l4 : Int32} {l5 : Int32} : exe X d 79 3 [Value.ref 7, Value.ref l1, Value.ref l2, Value.int l3, Value.int l4, Value.int l5, dm] [] (sz, sl, sh, R, I, J) =
    (if (8) ≤ l5 then exe X d 79 63 [Value.ref 7, dm, Value.ref l2, dm, dm, Value.int (0), dm] [] (sz, sl, sh, R, (u2 I 7 5 (2000000000)), J) else (if sh l1 = (10, 0) then ((ev X d 58 [Value.ref l1, Value.ref l2, Value.int l5, Value.int l3, Value.int (0), Value.int l4, Value.int (0)] (sz, sl, sh, R, I, J)).bind fun q => exe X d 79 28 [Value.ref 7, Value.ref l1, Value.ref l2, Value.int l3, Value.int l4, Value.int l5, dm] (q.1.toList ++ [Value.int l5, Value.ref 8]) q.2) else none)) :=
  tq ((E_iload (x := l5) rfl f79_3)) (tq ((E_iconst (x := (8)) (by decide) f79_5)) (tq ((E_ic_ge f79_7)) (ite_c (tq ((E_aload (v := Value.ref 7) rfl rfl f79_54)) (tq ((E_iconst (x := (2000000000)) (by decide) f79_55)) (tq (tq ((P6005 f79_57)) (if_pos (zS7 hS))) (tq ((E_iconst (x := (0)) (by decide) f79_60)) ((E_istore rfl f79_61)))))) (tq ((E_aload (v := Value.ref 7) rfl rfl f79_10)) (tq (tq ((G6000 f79_11)) (if_pos (zS7 hS))) (tq (exe_R (zR7_0 hS)) (tq ((E_iload (x := l5) rfl f79_14)) (tq ((E_aload (v := Value.ref l1) rfl rfl f79_16)) (tq ((E_aload (v := Value.ref l2) rfl rfl f79_17)) (tq ((E_iload (x := l5) rfl f79_18)) (tq ((E_iload (x := l3) rfl f79_20)) (tq ((E_iconst (x := (0)) (by decide) f79_21)) (tq ((E_iload (x := l4) rfl f79_22)) (tq ((E_iconst (x := (0)) (by decide) f79_24)) (tq ((E_callV pn_58 pc_58 rfl rfl (Nat.le_of_ble_eq_true rfl) f79_25)) rf_ref)))))))))))))))
theorem t79_28 {X : XX} {d : Nat} {sz sl : Nat} {sh : Nat → Nat × Nat} {R : Nat → Nat → Option Nat} {I : Nat → Nat → Int32} {J : Nat → Nat → Int64} (hS : SF sh R) {l1 : Nat} {l2 : Nat} {l3 : Int32} {l4 : Int32} {l5 : Int32} {s0 : Int32} {s1 : Int32} {s2 : Value} (k2 : isB s2 = true) : exe X d 79 28 [Value.ref 7, Value.ref l1, Value.ref l2, Value.int l3, Value.int l4, Value.int l5, dm] [Value.int s0, Value.int s1, s2] (sz, sl, sh, R, I, J) =
    (rf (s2) fun p1 => (if (sh p1).1 = 0 ∧ inb s1 (sh p1).2 then (if sh l1 = (10, 0) then ((ev X d 58 [Value.ref l1, Value.ref l2, Value.int l5, Value.int l3, Value.int (1), Value.int l4, Value.int (0)] (sz, sl, sh, R, (u2 I p1 s1.toNatClampNeg s0), J)).bind fun q => exe X d 79 47 [Value.ref 7, Value.ref l1, Value.ref l2, Value.int l3, Value.int l4, Value.int l5, dm] (q.1.toList ++ [Value.int l5, Value.ref 9]) q.2) else none) else none)) :=
  tq ((E_iast f79_28)) (rf_c fun p1 => ite_c (tq ((E_aload (v := Value.ref 7) rfl rfl f79_29)) (tq (tq ((G6001 f79_30)) (if_pos (zS7 hS))) (tq (exe_R (zR7_1 hS)) (tq ((E_iload (x := l5) rfl f79_33)) (tq ((E_aload (v := Value.ref l1) rfl rfl f79_35)) (tq ((E_aload (v := Value.ref l2) rfl rfl f79_36)) (tq ((E_iload (x := l5) rfl f79_37)) (tq ((E_iload (x := l3) rfl f79_39)) (tq ((E_iconst (x := (1)) (by decide) f79_40)) (tq ((E_iload (x := l4) rfl f79_41)) (tq ((E_iconst (x := (0)) (by decide) f79_43)) (tq ((E_callV pn_58 pc_58 rfl rfl (Nat.le_of_ble_eq_true rfl) f79_44)) rf_ref)))))))))))) rfl)
theorem t79_47 {X : XX} {d : Nat} {sz sl : Nat} {sh : Nat → Nat × Nat} {R : Nat → Nat → Option Nat} {I : Nat → Nat → Int32} {J : Nat → Nat → Int64} {l1 : Nat} {l2 : Nat} {l3 : Int32} {l4 : Int32} {l5 : Int32} {s0 : Int32} {s1 : Int32} {s2 : Value} (k2 : isB s2 = true) : exe X d 79 47 [Value.ref 7, Value.ref l1, Value.ref l2, Value.int l3, Value.int l4, Value.int l5, dm] [Value.int s0, Value.int s1, s2] (sz, sl, sh, R, I, J) =
    (rf (s2) fun p1 => (if (sh p1).1 = 0 ∧ inb s1 (sh p1).2 then exe X d 79 3 [Value.ref 7, Value.ref l1, Value.ref l2, Value.int l3, Value.int l4, Value.int (l5 + (1)), dm] [] (sz, sl, sh, R, (u2 I p1 s1.toNatClampNeg s0), J) else none)) :=
  tq ((E_iast f79_47)) (rf_c fun p1 => ite_c (tq ((E_iinc (x := l5) (x' := (1)) rfl rfl (by decide) f79_48)) ((E_goto f79_51))) rfl)
theorem t79_63 {X : XX} {d : Nat} {sz sl : Nat} {sh : Nat → Nat × Nat} {R : Nat → Nat → Option Nat} {I : Nat → Nat → Int32} {J : Nat → Nat → Int64} {l2 : Nat} {l5 : Int32} : exe X d 79 63 [Value.ref 7, dm, Value.ref l2, dm, dm, Value.int l5, dm] [] (sz, sl, sh, R, I, J) =
    (if (60) < l5 then some (none, (sz, sl, sh, R, I, J)) else exe X d 79 73 [Value.ref 7, dm, Value.ref l2, dm, dm, Value.int l5, Value.int (0)] [] (sz, sl, sh, R, I, J)) :=
  tq ((E_iload (x := l5) rfl f79_63)) (tq ((E_iconst (x := (60)) (by decide) f79_65)) (tq ((E_ic_gt f79_67)) (ite_c ((E_vret pr_79 f79_122)) (tq ((E_iconst (x := (0)) (by decide) f79_70)) ((E_istore rfl f79_71))))))
theorem t79_73 {X : XX} {d : Nat} {sz sl : Nat} {sh : Nat → Nat × Nat} {R : Nat → Nat → Option Nat} {I : Nat → Nat → Int32} {J : Nat → Nat → Int64} (hS : SF sh R) {l2 : Nat} {l5 : Int32} {l6 : Int32} : exe X d 79 73 [Value.ref 7, dm, Value.ref l2, dm, dm, Value.int l5, Value.int l6] [] (sz, sl, sh, R, I, J) =
    (if (8) ≤ l6 then ((ev X d 80 [Value.ref 7, Value.int l5] (sz, sl, sh, R, I, J)).bind fun q => exe X d 79 116 [Value.ref 7, dm, Value.ref l2, dm, dm, Value.int l5, dm] (q.1.toList ++ []) q.2) else (if sh l2 = (15, 0) then ((ev X d 16 [Value.ref l2, Value.int l6] (sz, sl, sh, R, I, J)).bind fun q => exe X d 79 92 [Value.ref 7, dm, Value.ref l2, dm, dm, Value.int l5, Value.int l6] (q.1.toList ++ [Value.int l6, Value.ref 10]) q.2) else none)) :=
  tq ((E_iload (x := l6) rfl f79_73)) (tq ((E_iconst (x := (8)) (by decide) f79_75)) (tq ((E_ic_ge f79_77)) (ite_c (tq ((E_aload (v := Value.ref 7) rfl rfl f79_110)) (tq ((E_iload (x := l5) rfl f79_111)) ((tq ((E_callV pn_80 pc_80 rfl rfl (Nat.le_of_ble_eq_true rfl) f79_113)) (if_pos (zS7 hS)))))) (tq ((E_aload (v := Value.ref 7) rfl rfl f79_80)) (tq (tq ((G6002 f79_81)) (if_pos (zS7 hS))) (tq (exe_R (zR7_2 hS)) (tq ((E_iload (x := l6) rfl f79_84)) (tq ((E_aload (v := Value.ref l2) rfl rfl f79_86)) (tq ((E_iload (x := l6) rfl f79_87)) (tq ((E_callV pn_16 pc_16 rfl rfl (Nat.le_of_ble_eq_true rfl) f79_89)) rf_ref))))))))))
theorem t79_92 {X : XX} {d : Nat} {sz sl : Nat} {sh : Nat → Nat × Nat} {R : Nat → Nat → Option Nat} {I : Nat → Nat → Int32} {J : Nat → Nat → Int64} (hS : SF sh R) {l2 : Nat} {l5 : Int32} {l6 : Int32} {s0 : Int32} {s1 : Int32} {s2 : Value} (k2 : isB s2 = true) : exe X d 79 92 [Value.ref 7, dm, Value.ref l2, dm, dm, Value.int l5, Value.int l6] [Value.int s0, Value.int s1, s2] (sz, sl, sh, R, I, J) =
    (if inb l6 8 then (rf (s2) fun p1 => (if (sh p1).1 = 0 ∧ inb s1 (sh p1).2 then exe X d 79 73 [Value.ref 7, dm, Value.ref l2, dm, dm, Value.int l5, Value.int (l6 + (1))] [] (sz, sl, sh, R, (u2 I p1 s1.toNatClampNeg (s0 - (l5 * (I 8 l6.toNatClampNeg)))), J) else none)) else none) :=
  tq ((E_iload (x := l5) rfl f79_92)) (tq ((E_aload (v := Value.ref 7) rfl rfl f79_94)) (tq (tq ((G6000 f79_95)) (if_pos (zS7 hS))) (tq (exe_R (zR7_0 hS)) (tq ((E_iload (x := l6) rfl f79_98)) (tq (tq ((E_iald f79_100)) (ite_ar (zS8 hS))) (ite_c (tq ((E_imul f79_101)) (tq ((E_isub f79_102)) (tq ((E_iast f79_103)) (rf_c fun p1 => ite_c (tq ((E_iinc (x := l6) (x' := (1)) rfl rfl (by decide) f79_104)) ((E_goto f79_107))) rfl)))) rfl))))))
theorem t79_116 {X : XX} {d : Nat} {sz sl : Nat} {sh : Nat → Nat × Nat} {R : Nat → Nat → Option Nat} {I : Nat → Nat → Int32} {J : Nat → Nat → Int64} {l2 : Nat} {l5 : Int32} : exe X d 79 116 [Value.ref 7, dm, Value.ref l2, dm, dm, Value.int l5, dm] [] (sz, sl, sh, R, I, J) =
    exe X d 79 63 [Value.ref 7, dm, Value.ref l2, dm, dm, Value.int (l5 + (1)), dm] [] (sz, sl, sh, R, I, J) :=
  tq ((E_iinc (x := l5) (x' := (1)) rfl rfl (by decide) f79_116)) ((E_goto f79_119))
theorem n79 {X : XX} {d : Nat} {h : HP} {a0 : Nat} {a1 : Nat} {a2 : Int32} {a3 : Int32} : ev X (d + 1) 79 [Value.ref 7, Value.ref a0, Value.ref a1, Value.int a2, Value.int a3] h = exe X d 79 0 [Value.ref 7, Value.ref a0, Value.ref a1, Value.int a2, Value.int a3, dm, dm] [] h := ev_exe (Nat.le_of_ble_eq_true rfl)
theorem f80_0 : fr 80 0 = some (.iconst 0, 1, [], []) := by decide +kernel
theorem f80_1 : fr 80 1 = some (.istore 2, 1, [], []) := by decide +kernel
theorem f80_2 : fr 80 2 = some (.iload 2, 1, [], []) := by decide +kernel
theorem f80_3 : fr 80 3 = some (.iconst 60, 2, [], []) := by decide +kernel
theorem f80_5 : fr 80 5 = some (.if_icmp .gt 43, 3, [], [0, 1, 2]) := by decide +kernel
theorem f80_8 : fr 80 8 = some (.aload 0, 1, [], []) := by decide +kernel
theorem f80_9 : fr 80 9 = some (.iload 2, 1, [], []) := by decide +kernel
theorem f80_10 : fr 80 10 = some (.invokevirtual 81, 3, [], []) := by decide +kernel
theorem f80_13 : fr 80 13 = some (.istore 3, 1, [], []) := by decide +kernel
theorem f80_14 : fr 80 14 = some (.iload 3, 1, [], []) := by decide +kernel
theorem f80_15 : fr 80 15 = some (.aload 0, 1, [], []) := by decide +kernel
theorem f80_16 : fr 80 16 = some (.getfield 6005, 3, [], []) := by decide +kernel
theorem f80_19 : fr 80 19 = some (.if_icmp .ge 37, 3, [], [3]) := by decide +kernel
theorem f80_22 : fr 80 22 = some (.aload 0, 1, [], []) := by decide +kernel
theorem f80_23 : fr 80 23 = some (.iload 3, 1, [3], []) := by decide +kernel
theorem f80_24 : fr 80 24 = some (.putfield 6005, 3, [], []) := by decide +kernel
theorem f80_27 : fr 80 27 = some (.aload 0, 1, [], []) := by decide +kernel
theorem f80_28 : fr 80 28 = some (.iload 1, 1, [], []) := by decide +kernel
theorem f80_29 : fr 80 29 = some (.putfield 6003, 3, [], []) := by decide +kernel
theorem f80_32 : fr 80 32 = some (.aload 0, 1, [], []) := by decide +kernel
theorem f80_33 : fr 80 33 = some (.iload 2, 1, [], []) := by decide +kernel
theorem f80_34 : fr 80 34 = some (.putfield 6004, 3, [], []) := by decide +kernel
theorem f80_37 : fr 80 37 = some (.iinc 2 1, 3, [], []) := by decide +kernel
theorem f80_40 : fr 80 40 = some (.goto 2, 3, [], []) := by decide +kernel
theorem f80_43 : fr 80 43 = some (.return_, 1, [], []) := by decide +kernel
theorem t80_0 {X : XX} {d : Nat} {sz sl : Nat} {sh : Nat → Nat × Nat} {R : Nat → Nat → Option Nat} {I : Nat → Nat → Int32} {J : Nat → Nat → Int64} {l1 : Int32} : exe X d 80 0 [Value.ref 7, Value.int l1, dm, dm] [] (sz, sl, sh, R, I, J) =
    exe X d 80 2 [Value.ref 7, Value.int l1, Value.int (0), dm] [] (sz, sl, sh, R, I, J) :=
  tq ((E_iconst (x := (0)) (by decide) f80_0)) ((E_istore rfl f80_1))
theorem t80_2 {X : XX} {d : Nat} {sz sl : Nat} {sh : Nat → Nat × Nat} {R : Nat → Nat → Option Nat} {I : Nat → Nat → Int32} {J : Nat → Nat → Int64} (hS : SF sh R) {l1 : Int32} {l2 : Int32} : exe X d 80 2 [Value.ref 7, Value.int l1, Value.int l2, dm] [] (sz, sl, sh, R, I, J) =
    (if (60) < l2 then some (none, (sz, sl, sh, R, I, J)) else ((ev X d 81 [Value.ref 7, Value.int l2] (sz, sl, sh, R, I, J)).bind fun q => exe X d 80 13 [Value.ref 7, Value.int l1, Value.int l2, dm] (q.1.toList ++ []) q.2)) :=
  tq ((E_iload (x := l2) rfl f80_2)) (tq ((E_iconst (x := (60)) (by decide) f80_3)) (tq ((E_ic_gt f80_5)) (ite_c ((E_vret pr_80 f80_43)) (tq ((E_aload (v := Value.ref 7) rfl rfl f80_8)) (tq ((E_iload (x := l2) rfl f80_9)) ((tq ((E_callV pn_81 pc_81 rfl rfl (Nat.le_of_ble_eq_true rfl) f80_10)) (if_pos (zS7 hS)))))))))
theorem t80_13 {X : XX} {d : Nat} {sz sl : Nat} {sh : Nat → Nat × Nat} {R : Nat → Nat → Option Nat} {I : Nat → Nat → Int32} {J : Nat → Nat → Int64} (hS : SF sh R) {l1 : Int32} {l2 : Int32} {s0 : Int32} : exe X d 80 13 [Value.ref 7, Value.int l1, Value.int l2, dm] [Value.int s0] (sz, sl, sh, R, I, J) =
    (if (I 7 5) ≤ s0 then exe X d 80 2 [Value.ref 7, Value.int l1, Value.int (l2 + (1)), dm] [] (sz, sl, sh, R, I, J) else exe X d 80 2 [Value.ref 7, Value.int l1, Value.int (l2 + (1)), dm] [] (sz, sl, sh, R, (u2 (u2 (u2 I 7 5 s0) 7 3 l1) 7 4 l2), J)) :=
  tq ((E_istore rfl f80_13)) (tq ((E_iload (x := s0) rfl f80_14)) (tq ((E_aload (v := Value.ref 7) rfl rfl f80_15)) (tq (tq ((G6005 f80_16)) (if_pos (zS7 hS))) (tq ((E_ic_ge f80_19)) (ite_c (tq ((E_iinc (x := l2) (x' := (1)) rfl rfl (by decide) f80_37)) ((E_goto f80_40))) (tq ((E_aload (v := Value.ref 7) rfl rfl f80_22)) (tq ((E_iload (x := s0) rfl f80_23)) (tq (tq ((P6005 f80_24)) (if_pos (zS7 hS))) (tq ((E_aload (v := Value.ref 7) rfl rfl f80_27)) (tq ((E_iload (x := l1) rfl f80_28)) (tq (tq ((P6003 f80_29)) (if_pos (zS7 hS))) (tq ((E_aload (v := Value.ref 7) rfl rfl f80_32)) (tq ((E_iload (x := l2) rfl f80_33)) (tq (tq ((P6004 f80_34)) (if_pos (zS7 hS))) (tq ((E_iinc (x := l2) (x' := (1)) rfl rfl (by decide) f80_37)) ((E_goto f80_40)))))))))))))))))
theorem n80 {X : XX} {d : Nat} {h : HP} {a0 : Int32} : ev X (d + 1) 80 [Value.ref 7, Value.int a0] h = exe X d 80 0 [Value.ref 7, Value.int a0, dm, dm] [] h := ev_exe (Nat.le_of_ble_eq_true rfl)
theorem f81_0 : fr 81 0 = some (.iconst 0, 1, [], []) := by decide +kernel
theorem f81_1 : fr 81 1 = some (.istore 2, 1, [], []) := by decide +kernel
theorem f81_2 : fr 81 2 = some (.iconst 0, 1, [], []) := by decide +kernel
theorem f81_3 : fr 81 3 = some (.istore 3, 1, [], []) := by decide +kernel
theorem f81_4 : fr 81 4 = some (.iload 3, 1, [], []) := by decide +kernel
theorem f81_5 : fr 81 5 = some (.iconst 8, 2, [], []) := by decide +kernel
theorem f81_7 : fr 81 7 = some (.if_icmp .ge 45, 3, [], [0, 1, 3]) := by decide +kernel
theorem f81_10 : fr 81 10 = some (.iload 2, 1, [], []) := by decide +kernel
theorem f81_11 : fr 81 11 = some (.aload 0, 1, [], []) := by decide +kernel
theorem f81_12 : fr 81 12 = some (.getfield 6005, 3, [], []) := by decide +kernel
theorem f81_15 : fr 81 15 = some (.if_icmp .ge 45, 3, [], [0, 1, 3]) := by decide +kernel
theorem f81_18 : fr 81 18 = some (.iload 2, 1, [2], []) := by decide +kernel
theorem f81_19 : fr 81 19 = some (.aload 0, 1, [], []) := by decide +kernel
theorem f81_20 : fr 81 20 = some (.getfield 6002, 3, [], []) := by decide +kernel
theorem f81_23 : fr 81 23 = some (.iload 3, 1, [], []) := by decide +kernel
theorem f81_24 : fr 81 24 = some (.iaload, 1, [], []) := by decide +kernel
theorem f81_25 : fr 81 25 = some (.iload 1, 1, [], []) := by decide +kernel
theorem f81_26 : fr 81 26 = some (.aload 0, 1, [], []) := by decide +kernel
theorem f81_27 : fr 81 27 = some (.getfield 6001, 3, [], []) := by decide +kernel
theorem f81_30 : fr 81 30 = some (.iload 3, 1, [], []) := by decide +kernel
theorem f81_31 : fr 81 31 = some (.iaload, 1, [], []) := by decide +kernel
theorem f81_32 : fr 81 32 = some (.imul, 1, [], []) := by decide +kernel
theorem f81_33 : fr 81 33 = some (.isub, 1, [], []) := by decide +kernel
theorem f81_34 : fr 81 34 = some (.fneg, 3, [], []) := by decide +kernel
theorem f81_37 : fr 81 37 = some (.iadd, 1, [], []) := by decide +kernel
theorem f81_38 : fr 81 38 = some (.istore 2, 1, [], []) := by decide +kernel
theorem f81_39 : fr 81 39 = some (.iinc 3 1, 3, [], []) := by decide +kernel
theorem f81_42 : fr 81 42 = some (.goto 4, 3, [], []) := by decide +kernel
theorem f81_45 : fr 81 45 = some (.iload 2, 1, [2], []) := by decide +kernel
theorem f81_46 : fr 81 46 = some (.ireturn, 1, [], []) := by decide +kernel
theorem t81_0 {X : XX} {d : Nat} {sz sl : Nat} {sh : Nat → Nat × Nat} {R : Nat → Nat → Option Nat} {I : Nat → Nat → Int32} {J : Nat → Nat → Int64} {l1 : Int32} : exe X d 81 0 [Value.ref 7, Value.int l1, dm, dm] [] (sz, sl, sh, R, I, J) =
    exe X d 81 4 [Value.ref 7, Value.int l1, Value.int (0), Value.int (0)] [] (sz, sl, sh, R, I, J) :=
  tq ((E_iconst (x := (0)) (by decide) f81_0)) (tq ((E_istore rfl f81_1)) (tq ((E_iconst (x := (0)) (by decide) f81_2)) ((E_istore rfl f81_3))))
theorem t81_4 {X : XX} {d : Nat} {sz sl : Nat} {sh : Nat → Nat × Nat} {R : Nat → Nat → Option Nat} {I : Nat → Nat → Int32} {J : Nat → Nat → Int64} (hS : SF sh R) {l1 : Int32} {l2 : Int32} {l3 : Int32} : exe X d 81 4 [Value.ref 7, Value.int l1, Value.int l2, Value.int l3] [] (sz, sl, sh, R, I, J) =
    (if (8) ≤ l3 then some (some (Value.int l2), (sz, sl, sh, R, I, J)) else (if (I 7 5) ≤ l2 then some (some (Value.int l2), (sz, sl, sh, R, I, J)) else (if inb l3 8 then (if inb l3 8 then exe X d 81 4 [Value.ref 7, Value.int l1, Value.int (l2 + (if 0 ≤ ((I 10 l3.toNatClampNeg) - (l1 * (I 9 l3.toNatClampNeg))) then ((I 10 l3.toNatClampNeg) - (l1 * (I 9 l3.toNatClampNeg))) else 0 - ((I 10 l3.toNatClampNeg) - (l1 * (I 9 l3.toNatClampNeg))))), Value.int (l3 + (1))] [] (sz, sl, sh, R, I, J) else none) else none))) :=
  tq ((E_iload (x := l3) rfl f81_4)) (tq ((E_iconst (x := (8)) (by decide) f81_5)) (tq ((E_ic_ge f81_7)) (ite_c (tq ((E_iload (x := l2) rfl f81_45)) ((E_iret pr_81 f81_46))) (tq ((E_iload (x := l2) rfl f81_10)) (tq ((E_aload (v := Value.ref 7) rfl rfl f81_11)) (tq (tq ((G6005 f81_12)) (if_pos (zS7 hS))) (tq ((E_ic_ge f81_15)) (ite_c (tq ((E_iload (x := l2) rfl f81_45)) ((E_iret pr_81 f81_46))) (tq ((E_iload (x := l2) rfl f81_18)) (tq ((E_aload (v := Value.ref 7) rfl rfl f81_19)) (tq (tq ((G6002 f81_20)) (if_pos (zS7 hS))) (tq (exe_R (zR7_2 hS)) (tq ((E_iload (x := l3) rfl f81_23)) (tq (tq ((E_iald f81_24)) (ite_ar (zS10 hS))) (ite_c (tq ((E_iload (x := l1) rfl f81_25)) (tq ((E_aload (v := Value.ref 7) rfl rfl f81_26)) (tq (tq ((G6001 f81_27)) (if_pos (zS7 hS))) (tq (exe_R (zR7_1 hS)) (tq ((E_iload (x := l3) rfl f81_30)) (tq (tq ((E_iald f81_31)) (ite_ar (zS9 hS))) (ite_c (tq ((E_imul f81_32)) (tq ((E_isub f81_33)) (tq ((E_fneg (Nat.le_of_ble_eq_true rfl) f81_34)) (tq ((E_iadd f81_37)) (tq ((E_istore rfl f81_38)) (tq ((E_iinc (x := l3) (x' := (1)) rfl rfl (by decide) f81_39)) ((E_goto f81_42)))))))) rfl))))))) rfl)))))))))))))))
theorem n81 {X : XX} {d : Nat} {h : HP} {a0 : Int32} : ev X (d + 1) 81 [Value.ref 7, Value.int a0] h = exe X d 81 0 [Value.ref 7, Value.int a0, dm, dm] [] h := ev_exe (Nat.le_of_ble_eq_true rfl)
theorem f82_0 : fr 82 0 = some (.aload 0, 1, [], []) := by decide +kernel
theorem f82_1 : fr 82 1 = some (.iload 1, 1, [1], []) := by decide +kernel
theorem f82_2 : fr 82 2 = some (.invokevirtual 57, 3, [], []) := by decide +kernel
theorem f82_5 : fr 82 5 = some (.astore 3, 1, [], []) := by decide +kernel
theorem f82_6 : fr 82 6 = some (.aload 3, 1, [], []) := by decide +kernel
theorem f82_7 : fr 82 7 = some (.ifnull 20, 3, [], [0, 2, 3]) := by decide +kernel
theorem f82_10 : fr 82 10 = some (.iload 2, 1, [], []) := by decide +kernel
theorem f82_11 : fr 82 11 = some (.iconst 0, 1, [], []) := by decide +kernel
theorem f82_12 : fr 82 12 = some (.iconst 79, 2, [], []) := by decide +kernel
theorem f82_14 : fr 82 14 = some (.invokestatic 10, 3, [], []) := by decide +kernel
theorem f82_17 : fr 82 17 = some (.ifCond .ne 22, 3, [0, 2, 3], []) := by decide +kernel
theorem f82_20 : fr 82 20 = some (.iconst (-1), 1, [], []) := by decide +kernel
theorem f82_21 : fr 82 21 = some (.ireturn, 1, [], []) := by decide +kernel
theorem f82_22 : fr 82 22 = some (.iconst 0, 1, [], []) := by decide +kernel
theorem f82_23 : fr 82 23 = some (.istore 4, 2, [], []) := by decide +kernel
theorem f82_25 : fr 82 25 = some (.iconst 0, 1, [], []) := by decide +kernel
theorem f82_26 : fr 82 26 = some (.istore 5, 2, [], []) := by decide +kernel
theorem f82_28 : fr 82 28 = some (.iconst 0, 1, [], []) := by decide +kernel
theorem f82_29 : fr 82 29 = some (.istore 6, 2, [], []) := by decide +kernel
theorem f82_31 : fr 82 31 = some (.iload 6, 2, [], []) := by decide +kernel
theorem f82_33 : fr 82 33 = some (.aload 0, 1, [], []) := by decide +kernel
theorem f82_34 : fr 82 34 = some (.getfield 1, 3, [], []) := by decide +kernel
theorem f82_37 : fr 82 37 = some (.if_icmp .ge 108, 3, [], [0, 2, 3, 6]) := by decide +kernel
theorem f82_40 : fr 82 40 = some (.aload 0, 1, [], []) := by decide +kernel
theorem f82_41 : fr 82 41 = some (.iload 6, 2, [], []) := by decide +kernel
theorem f82_43 : fr 82 43 = some (.invokevirtual 12, 3, [], []) := by decide +kernel
theorem f82_46 : fr 82 46 = some (.astore 7, 2, [], []) := by decide +kernel
theorem f82_48 : fr 82 48 = some (.aload 7, 2, [], []) := by decide +kernel
theorem f82_50 : fr 82 50 = some (.ifnull 102, 3, [], [7]) := by decide +kernel
theorem f82_53 : fr 82 53 = some (.aload 7, 2, [], []) := by decide +kernel
theorem f82_55 : fr 82 55 = some (.invokevirtual 83, 3, [], []) := by decide +kernel
theorem f82_58 : fr 82 58 = some (.ifCond .le 102, 3, [4], [7]) := by decide +kernel
theorem f82_61 : fr 82 61 = some (.aload 0, 1, [], []) := by decide +kernel
theorem f82_62 : fr 82 62 = some (.getfield 7, 3, [], []) := by decide +kernel
theorem f82_65 : fr 82 65 = some (.aload 3, 1, [], []) := by decide +kernel
theorem f82_66 : fr 82 66 = some (.aload 7, 2, [7], []) := by decide +kernel
theorem f82_68 : fr 82 68 = some (.iload 2, 1, [], []) := by decide +kernel
theorem f82_69 : fr 82 69 = some (.iconst 10, 2, [], []) := by decide +kernel
theorem f82_71 : fr 82 71 = some (.idiv, 1, [], []) := by decide +kernel
theorem f82_72 : fr 82 72 = some (.iload 2, 1, [], []) := by decide +kernel
theorem f82_73 : fr 82 73 = some (.iconst 10, 2, [], []) := by decide +kernel
theorem f82_75 : fr 82 75 = some (.irem, 1, [], []) := by decide +kernel
theorem f82_76 : fr 82 76 = some (.invokevirtual 79, 3, [], []) := by decide +kernel
theorem f82_79 : fr 82 79 = some (.iload 5, 2, [5], []) := by decide +kernel
theorem f82_81 : fr 82 81 = some (.aload 0, 1, [], []) := by decide +kernel
theorem f82_82 : fr 82 82 = some (.getfield 7, 3, [], []) := by decide +kernel
theorem f82_85 : fr 82 85 = some (.getfield 6003, 3, [], []) := by decide +kernel
theorem f82_88 : fr 82 88 = some (.aload 0, 1, [], []) := by decide +kernel
theorem f82_89 : fr 82 89 = some (.getfield 7, 3, [], []) := by decide +kernel
theorem f82_92 : fr 82 92 = some (.getfield 6004, 3, [], []) := by decide +kernel
theorem f82_95 : fr 82 95 = some (.isub, 1, [], []) := by decide +kernel
theorem f82_96 : fr 82 96 = some (.iadd, 1, [], []) := by decide +kernel
theorem f82_97 : fr 82 97 = some (.istore 5, 2, [], []) := by decide +kernel
theorem f82_99 : fr 82 99 = some (.iconst 1, 1, [], []) := by decide +kernel
theorem f82_100 : fr 82 100 = some (.istore 4, 2, [], []) := by decide +kernel
theorem f82_102 : fr 82 102 = some (.iinc 6 1, 3, [], []) := by decide +kernel
theorem f82_105 : fr 82 105 = some (.goto 31, 3, [], []) := by decide +kernel
theorem f82_108 : fr 82 108 = some (.iload 4, 2, [4], []) := by decide +kernel
theorem f82_110 : fr 82 110 = some (.ifCond .eq 118, 3, [], [5]) := by decide +kernel
theorem f82_113 : fr 82 113 = some (.iload 5, 2, [5], []) := by decide +kernel
theorem f82_115 : fr 82 115 = some (.goto 120, 3, [], []) := by decide +kernel
theorem f82_118 : fr 82 118 = some (.iconst (-2), 2, [], []) := by decide +kernel
theorem f82_120 : fr 82 120 = some (.ireturn, 1, [], []) := by decide +kernel
theorem t82_0 {X : XX} {d : Nat} {sz sl : Nat} {sh : Nat → Nat × Nat} {R : Nat → Nat → Option Nat} {I : Nat → Nat → Int32} {J : Nat → Nat → Int64} (hS : SF sh R) {l1 : Int32} {l2 : Int32} : exe X d 82 0 [Value.ref 0, Value.int l1, Value.int l2, dm, dm, dm, dm, dm] [] (sz, sl, sh, R, I, J) =
    ((ev X d 57 [Value.ref 0, Value.int l1] (sz, sl, sh, R, I, J)).bind fun q => exe X d 82 5 [Value.ref 0, dm, Value.int l2, dm, dm, dm, dm, dm] (q.1.toList ++ []) q.2) :=
  tq ((E_aload (v := Value.ref 0) rfl rfl f82_0)) (tq ((E_iload (x := l1) rfl f82_1)) ((tq ((E_callV pn_57 pc_57 rfl rfl (Nat.le_of_ble_eq_true rfl) f82_2)) (if_pos (zS0 hS)))))
theorem t82_5 {X : XX} {d : Nat} {sz sl : Nat} {sh : Nat → Nat × Nat} {R : Nat → Nat → Option Nat} {I : Nat → Nat → Int32} {J : Nat → Nat → Int64} {l2 : Int32} {s0 : Value} (k0 : isB s0 = true) : exe X d 82 5 [Value.ref 0, dm, Value.int l2, dm, dm, dm, dm, dm] [s0] (sz, sl, sh, R, I, J) =
    (nn (s0) (some (some (Value.int (-1)), (sz, sl, sh, R, I, J))) (((ev X d 10 [Value.int l2, Value.int (0), Value.int (79)] (sz, sl, sh, R, I, J)).bind fun q => exe X d 82 17 [Value.ref 0, dm, Value.int l2, s0, dm, dm, dm, dm] (q.1.toList ++ []) q.2))) :=
  tq ((E_astore k0 rfl f82_5)) (tq ((E_aload (v := s0) rfl (isBA k0) f82_6)) (tq ((E_ifnull f82_7)) (nn_c (tq ((E_iconst (x := (-1)) (by decide) f82_20)) ((E_iret pr_82 f82_21))) (tq ((E_iload (x := l2) rfl f82_10)) (tq ((E_iconst (x := (0)) (by decide) f82_11)) (tq ((E_iconst (x := (79)) (by decide) f82_12)) ((E_callS pn_10 rfl rfl (Nat.le_of_ble_eq_true rfl) (Nat.le_of_ble_eq_true rfl) f82_14))))))))
theorem t82_17 {X : XX} {d : Nat} {sz sl : Nat} {sh : Nat → Nat × Nat} {R : Nat → Nat → Option Nat} {I : Nat → Nat → Int32} {J : Nat → Nat → Int64} {l2 : Int32} {l3 : Value} (h3 : isB l3 = true) {s0 : Int32} : exe X d 82 17 [Value.ref 0, dm, Value.int l2, l3, dm, dm, dm, dm] [Value.int s0] (sz, sl, sh, R, I, J) =
    (if ¬ s0 = 0 then exe X d 82 31 [Value.ref 0, dm, Value.int l2, l3, Value.int (0), Value.int (0), Value.int (0), dm] [] (sz, sl, sh, R, I, J) else some (some (Value.int (-1)), (sz, sl, sh, R, I, J))) :=
  tq ((E_if_ne f82_17)) (ite_c (tq ((E_iconst (x := (0)) (by decide) f82_22)) (tq ((E_istore (okS_A (Nat.lt_of_sub_eq_succ rfl) rfl h3) f82_23)) (tq ((E_iconst (x := (0)) (by decide) f82_25)) (tq ((E_istore rfl f82_26)) (tq ((E_iconst (x := (0)) (by decide) f82_28)) ((E_istore rfl f82_29))))))) (tq ((E_iconst (x := (-1)) (by decide) f82_20)) ((E_iret pr_82 f82_21))))
theorem t82_31 {X : XX} {d : Nat} {sz sl : Nat} {sh : Nat → Nat × Nat} {R : Nat → Nat → Option Nat} {I : Nat → Nat → Int32} {J : Nat → Nat → Int64} (hS : SF sh R) {l2 : Int32} {l3 : Value} (h3 : isB l3 = true) {l4 : Int32} {l5 : Int32} {l6 : Int32} : exe X d 82 31 [Value.ref 0, dm, Value.int l2, l3, Value.int l4, Value.int l5, Value.int l6, dm] [] (sz, sl, sh, R, I, J) =
    (if (I 0 1) ≤ l6 then (if l4 = 0 then some (some (Value.int (-2)), (sz, sl, sh, R, I, J)) else some (some (Value.int l5), (sz, sl, sh, R, I, J))) else ((ev X d 12 [Value.ref 0, Value.int l6] (sz, sl, sh, R, I, J)).bind fun q => exe X d 82 46 [Value.ref 0, dm, Value.int l2, l3, Value.int l4, Value.int l5, Value.int l6, dm] (q.1.toList ++ []) q.2)) :=
  tq ((E_iload (x := l6) rfl f82_31)) (tq ((E_aload (v := Value.ref 0) rfl rfl f82_33)) (tq (tq ((G1 f82_34)) (if_pos (zS0 hS))) (tq ((E_ic_ge f82_37)) (ite_c (tq ((E_iload (x := l4) rfl f82_108)) (tq ((E_if_eq f82_110)) (ite_c (tq ((E_iconst (x := (-2)) (by decide) f82_118)) ((E_iret pr_82 f82_120))) (tq ((E_iload (x := l5) rfl f82_113)) (tq ((E_goto f82_115)) ((E_iret pr_82 f82_120))))))) (tq ((E_aload (v := Value.ref 0) rfl rfl f82_40)) (tq ((E_iload (x := l6) rfl f82_41)) ((tq ((E_callV pn_12 pc_12 rfl rfl (Nat.le_of_ble_eq_true rfl) f82_43)) (if_pos (zS0 hS))))))))))
theorem t82_46 {X : XX} {d : Nat} {sz sl : Nat} {sh : Nat → Nat × Nat} {R : Nat → Nat → Option Nat} {I : Nat → Nat → Int32} {J : Nat → Nat → Int64} {l2 : Int32} {l3 : Value} (h3 : isB l3 = true) {l4 : Int32} {l5 : Int32} {l6 : Int32} {s0 : Value} (k0 : isB s0 = true) : exe X d 82 46 [Value.ref 0, dm, Value.int l2, l3, Value.int l4, Value.int l5, Value.int l6, dm] [s0] (sz, sl, sh, R, I, J) =
    (nn (s0) (exe X d 82 31 [Value.ref 0, dm, Value.int l2, l3, Value.int l4, Value.int l5, Value.int (l6 + (1)), dm] [] (sz, sl, sh, R, I, J)) ((rf (s0) fun p1 => if sh p1 = (15, 0) then ((ev X d 83 [Value.ref p1] (sz, sl, sh, R, I, J)).bind fun q => exe X d 82 58 [Value.ref 0, dm, Value.int l2, l3, Value.int l4, Value.int l5, Value.int l6, s0] (q.1.toList ++ []) q.2) else none))) :=
  tq ((E_astore k0 rfl f82_46)) (tq ((E_aload (v := s0) rfl (isBA k0) f82_48)) (tq ((E_ifnull f82_50)) (nn_c (tq ((E_iinc (x := l6) (x' := (1)) rfl rfl (by decide) f82_102)) ((E_goto f82_105))) (tq ((E_aload (v := s0) rfl (isBA k0) f82_53)) ((E_callV pn_83 pc_83 rfl rfl (Nat.le_of_ble_eq_true rfl) f82_55))))))
theorem t82_58 {X : XX} {d : Nat} {sz sl : Nat} {sh : Nat → Nat × Nat} {R : Nat → Nat → Option Nat} {I : Nat → Nat → Int32} {J : Nat → Nat → Int64} (hS : SF sh R) {l2 : Int32} {l3 : Value} (h3 : isB l3 = true) {l4 : Int32} {l5 : Int32} {l6 : Int32} {l7 : Value} (h7 : isB l7 = true) {s0 : Int32} : exe X d 82 58 [Value.ref 0, dm, Value.int l2, l3, Value.int l4, Value.int l5, Value.int l6, l7] [Value.int s0] (sz, sl, sh, R, I, J) =
    (if s0 ≤ 0 then exe X d 82 31 [Value.ref 0, dm, Value.int l2, l3, Value.int l4, Value.int l5, Value.int (l6 + (1)), dm] [] (sz, sl, sh, R, I, J) else ((ev X d 79 [Value.ref 7, l3, l7, Value.int (l2 / (10)), Value.int (l2 - l2 / (10) * (10))] (sz, sl, sh, R, I, J)).bind fun q => exe X d 82 79 [Value.ref 0, dm, Value.int l2, l3, dm, Value.int l5, Value.int l6, dm] (q.1.toList ++ []) q.2)) :=
  tq ((E_if_le f82_58)) (ite_c (tq ((E_iinc (x := l6) (x' := (1)) rfl rfl (by decide) f82_102)) ((E_goto f82_105))) (tq ((E_aload (v := Value.ref 0) rfl rfl f82_61)) (tq (tq ((G7 f82_62)) (if_pos (zS0 hS))) (tq (exe_R (zR0_7 hS)) (tq ((E_aload (v := l3) rfl (isBA h3) f82_65)) (tq ((E_aload (v := l7) rfl (isBA h7) f82_66)) (tq ((E_iload (x := l2) rfl f82_68)) (tq ((E_iconst (x := (10)) (by decide) f82_69)) (tq ((E_idiv (by decide) f82_71)) (tq ((E_iload (x := l2) rfl f82_72)) (tq ((E_iconst (x := (10)) (by decide) f82_73)) (tq ((E_irem (by decide) f82_75)) ((tq ((E_callV pn_79 pc_79 rfl rfl (Nat.le_of_ble_eq_true rfl) f82_76)) (if_pos (zS7 hS))))))))))))))))
theorem t82_79 {X : XX} {d : Nat} {sz sl : Nat} {sh : Nat → Nat × Nat} {R : Nat → Nat → Option Nat} {I : Nat → Nat → Int32} {J : Nat → Nat → Int64} (hS : SF sh R) {l2 : Int32} {l3 : Value} (h3 : isB l3 = true) {l5 : Int32} {l6 : Int32} : exe X d 82 79 [Value.ref 0, dm, Value.int l2, l3, dm, Value.int l5, Value.int l6, dm] [] (sz, sl, sh, R, I, J) =
    exe X d 82 31 [Value.ref 0, dm, Value.int l2, l3, Value.int (1), Value.int (l5 + ((I 7 3) - (I 7 4))), Value.int (l6 + (1)), dm] [] (sz, sl, sh, R, I, J) :=
  tq ((E_iload (x := l5) rfl f82_79)) (tq ((E_aload (v := Value.ref 0) rfl rfl f82_81)) (tq (tq ((G7 f82_82)) (if_pos (zS0 hS))) (tq (exe_R (zR0_7 hS)) (tq (tq ((G6003 f82_85)) (if_pos (zS7 hS))) (tq ((E_aload (v := Value.ref 0) rfl rfl f82_88)) (tq (tq ((G7 f82_89)) (if_pos (zS0 hS))) (tq (exe_R (zR0_7 hS)) (tq (tq ((G6004 f82_92)) (if_pos (zS7 hS))) (tq ((E_isub f82_95)) (tq ((E_iadd f82_96)) (tq ((E_istore rfl f82_97)) (tq ((E_iconst (x := (1)) (by decide) f82_99)) (tq ((E_istore (okS_A (Nat.lt_of_sub_eq_succ rfl) rfl h3) f82_100)) (tq ((E_iinc (x := l6) (x' := (1)) rfl rfl (by decide) f82_102)) ((E_goto f82_105))))))))))))))))
theorem n82 {X : XX} {d : Nat} {h : HP} {a0 : Int32} {a1 : Int32} : ev X (d + 1) 82 [Value.ref 0, Value.int a0, Value.int a1] h = exe X d 82 0 [Value.ref 0, Value.int a0, Value.int a1, dm, dm, dm, dm, dm] [] h := ev_exe (Nat.le_of_ble_eq_true rfl)
theorem f83_0 : fr 83 0 = some (.aload 0, 1, [], []) := by decide +kernel
theorem f83_1 : fr 83 1 = some (.aload 0, 1, [0], []) := by decide +kernel
theorem f83_2 : fr 83 2 = some (.invokevirtual 73, 3, [], []) := by decide +kernel
theorem f83_5 : fr 83 5 = some (.invokevirtual 16, 3, [], []) := by decide +kernel
theorem f83_8 : fr 83 8 = some (.ireturn, 1, [], []) := by decide +kernel
theorem t83_0 {X : XX} {d : Nat} {sz sl : Nat} {sh : Nat → Nat × Nat} {R : Nat → Nat → Option Nat} {I : Nat → Nat → Int32} {J : Nat → Nat → Int64} {l0 : Nat} (h0 : sh l0 = (15, 0)) : exe X d 83 0 [Value.ref l0] [] (sz, sl, sh, R, I, J) =
    ((ev X d 73 [Value.ref l0] (sz, sl, sh, R, I, J)).bind fun q => exe X d 83 5 [dm] (q.1.toList ++ [Value.ref l0]) q.2) :=
  tq ((E_aload (v := Value.ref l0) rfl rfl f83_0)) (tq ((E_aload (v := Value.ref l0) rfl rfl f83_1)) ((tq ((E_callV pn_73 pc_73 rfl rfl (Nat.le_of_ble_eq_true rfl) f83_2)) (if_pos h0))))
theorem t83_5 {X : XX} {d : Nat} {sz sl : Nat} {sh : Nat → Nat × Nat} {R : Nat → Nat → Option Nat} {I : Nat → Nat → Int32} {J : Nat → Nat → Int64} {s0 : Int32} {s1 : Value} (k1 : isB s1 = true) : exe X d 83 5 [dm] [Value.int s0, s1] (sz, sl, sh, R, I, J) =
    (rf (s1) fun p1 => if sh p1 = (15, 0) then ((ev X d 16 [Value.ref p1, Value.int s0] (sz, sl, sh, R, I, J)).bind fun q => exe X d 83 8 [dm] (q.1.toList ++ []) q.2) else none) :=
  (E_callV pn_16 pc_16 rfl rfl (Nat.le_of_ble_eq_true rfl) f83_5)
theorem t83_8 {X : XX} {d : Nat} {sz sl : Nat} {sh : Nat → Nat × Nat} {R : Nat → Nat → Option Nat} {I : Nat → Nat → Int32} {J : Nat → Nat → Int64} {s0 : Int32} : exe X d 83 8 [dm] [Value.int s0] (sz, sl, sh, R, I, J) =
    some (some (Value.int s0), (sz, sl, sh, R, I, J)) :=
  (E_iret pr_83 f83_8)
theorem n83 {X : XX} {d : Nat} {h : HP} {l0 : Nat} : ev X (d + 1) 83 [Value.ref l0] h = exe X d 83 0 [Value.ref l0] [] h := ev_exe (Nat.le_of_ble_eq_true rfl)
theorem f84_0 : fr 84 0 = some (.iload 1, 1, [], []) := by decide +kernel
theorem f84_1 : fr 84 1 = some (.ifCond .ge 8, 3, [], []) := by decide +kernel
theorem f84_4 : fr 84 4 = some (.aconst_null, 1, [], []) := by decide +kernel
theorem f84_5 : fr 84 5 = some (.goto 16, 3, [], []) := by decide +kernel
theorem f84_8 : fr 84 8 = some (.aload 0, 1, [], []) := by decide +kernel
theorem f84_9 : fr 84 9 = some (.iload 1, 1, [], []) := by decide +kernel
theorem f84_10 : fr 84 10 = some (.iconst 100, 2, [], []) := by decide +kernel
theorem f84_12 : fr 84 12 = some (.idiv, 1, [], []) := by decide +kernel
theorem f84_13 : fr 84 13 = some (.invokevirtual 12, 3, [], []) := by decide +kernel
theorem f84_16 : fr 84 16 = some (.astore 4, 2, [], []) := by decide +kernel
theorem f84_18 : fr 84 18 = some (.iload 1, 1, [], []) := by decide +kernel
theorem f84_19 : fr 84 19 = some (.ifCond .ge 26, 3, [0, 1], []) := by decide +kernel
theorem f84_22 : fr 84 22 = some (.aconst_null, 1, [], []) := by decide +kernel
theorem f84_23 : fr 84 23 = some (.goto 34, 3, [], []) := by decide +kernel
theorem f84_26 : fr 84 26 = some (.aload 0, 1, [0], []) := by decide +kernel
theorem f84_27 : fr 84 27 = some (.iload 1, 1, [1], []) := by decide +kernel
theorem f84_28 : fr 84 28 = some (.iconst 100, 2, [], []) := by decide +kernel
theorem f84_30 : fr 84 30 = some (.irem, 1, [], []) := by decide +kernel
theorem f84_31 : fr 84 31 = some (.invokevirtual 12, 3, [], []) := by decide +kernel
theorem f84_34 : fr 84 34 = some (.astore 5, 2, [], []) := by decide +kernel
theorem f84_36 : fr 84 36 = some (.aload 4, 2, [], []) := by decide +kernel
theorem f84_38 : fr 84 38 = some (.ifnull 62, 3, [], [2, 3, 4, 5]) := by decide +kernel
theorem f84_41 : fr 84 41 = some (.aload 5, 2, [], []) := by decide +kernel
theorem f84_43 : fr 84 43 = some (.ifnull 62, 3, [], [2, 3, 4, 5]) := by decide +kernel
theorem f84_46 : fr 84 46 = some (.iload 2, 1, [], []) := by decide +kernel
theorem f84_47 : fr 84 47 = some (.invokestatic 11, 3, [], []) := by decide +kernel
theorem f84_50 : fr 84 50 = some (.ifCond .eq 62, 3, [], [2, 3, 4, 5]) := by decide +kernel
theorem f84_53 : fr 84 53 = some (.iload 3, 1, [], []) := by decide +kernel
theorem f84_54 : fr 84 54 = some (.iconst 0, 1, [], []) := by decide +kernel
theorem f84_55 : fr 84 55 = some (.iconst 1, 1, [], []) := by decide +kernel
theorem f84_56 : fr 84 56 = some (.invokestatic 10, 3, [], []) := by decide +kernel
theorem f84_59 : fr 84 59 = some (.ifCond .ne 64, 3, [2, 3, 4, 5], []) := by decide +kernel
theorem f84_62 : fr 84 62 = some (.iconst (-1), 1, [], []) := by decide +kernel
theorem f84_63 : fr 84 63 = some (.ireturn, 1, [], []) := by decide +kernel
theorem f84_64 : fr 84 64 = some (.iload 2, 1, [], []) := by decide +kernel
theorem f84_65 : fr 84 65 = some (.aload 4, 2, [], []) := by decide +kernel
theorem f84_67 : fr 84 67 = some (.getfield 8003, 3, [], []) := by decide +kernel
theorem f84_70 : fr 84 70 = some (.isub, 1, [], []) := by decide +kernel
theorem f84_71 : fr 84 71 = some (.istore 6, 2, [], []) := by decide +kernel
theorem f84_73 : fr 84 73 = some (.iload 6, 2, [], []) := by decide +kernel
theorem f84_75 : fr 84 75 = some (.ifCond .gt 81, 3, [2, 3, 4, 5, 6], []) := by decide +kernel
theorem f84_78 : fr 84 78 = some (.iconst (-2), 2, [], []) := by decide +kernel
theorem f84_80 : fr 84 80 = some (.ireturn, 1, [], []) := by decide +kernel
theorem f84_81 : fr 84 81 = some (.aload 4, 2, [4], []) := by decide +kernel
theorem f84_83 : fr 84 83 = some (.invokevirtual 83, 3, [], []) := by decide +kernel
theorem f84_86 : fr 84 86 = some (.iconst 1000, 3, [], []) := by decide +kernel
theorem f84_89 : fr 84 89 = some (.imul, 1, [], []) := by decide +kernel
theorem f84_90 : fr 84 90 = some (.iload 6, 2, [6], []) := by decide +kernel
theorem f84_92 : fr 84 92 = some (.idiv, 1, [], []) := by decide +kernel
theorem f84_93 : fr 84 93 = some (.istore 7, 2, [], []) := by decide +kernel
theorem f84_95 : fr 84 95 = some (.iload 7, 2, [], []) := by decide +kernel
theorem f84_97 : fr 84 97 = some (.ifCond .ne 103, 3, [2, 3, 5, 7], []) := by decide +kernel
theorem f84_100 : fr 84 100 = some (.iconst (-2), 2, [], []) := by decide +kernel
theorem f84_102 : fr 84 102 = some (.ireturn, 1, [], []) := by decide +kernel
theorem f84_103 : fr 84 103 = some (.iload 3, 1, [3], []) := by decide +kernel
theorem f84_104 : fr 84 104 = some (.ifCond .ne 112, 3, [2, 5], []) := by decide +kernel
theorem f84_107 : fr 84 107 = some (.iload 7, 2, [7], []) := by decide +kernel
theorem f84_109 : fr 84 109 = some (.goto 126, 3, [], []) := by decide +kernel
theorem f84_112 : fr 84 112 = some (.iload 2, 1, [2], []) := by decide +kernel
theorem f84_113 : fr 84 113 = some (.aload 5, 2, [5], []) := by decide +kernel
theorem f84_115 : fr 84 115 = some (.invokevirtual 83, 3, [], []) := by decide +kernel
theorem f84_118 : fr 84 118 = some (.iconst 1000, 3, [], []) := by decide +kernel
theorem f84_121 : fr 84 121 = some (.imul, 1, [], []) := by decide +kernel
theorem f84_122 : fr 84 122 = some (.iload 7, 2, [7], []) := by decide +kernel
theorem f84_124 : fr 84 124 = some (.idiv, 1, [], []) := by decide +kernel
theorem f84_125 : fr 84 125 = some (.isub, 1, [], []) := by decide +kernel
theorem f84_126 : fr 84 126 = some (.ireturn, 1, [], []) := by decide +kernel
theorem t84_0 {X : XX} {d : Nat} {sz sl : Nat} {sh : Nat → Nat × Nat} {R : Nat → Nat → Option Nat} {I : Nat → Nat → Int32} {J : Nat → Nat → Int64} (hS : SF sh R) {l1 : Int32} {l2 : Int32} {l3 : Int32} : exe X d 84 0 [Value.ref 0, Value.int l1, Value.int l2, Value.int l3, dm, dm, dm, dm] [] (sz, sl, sh, R, I, J) =
    (if 0 ≤ l1 then ((ev X d 12 [Value.ref 0, Value.int (l1 / (100))] (sz, sl, sh, R, I, J)).bind fun q => exe X d 84 16 [Value.ref 0, Value.int l1, Value.int l2, Value.int l3, dm, dm, dm, dm] (q.1.toList ++ []) q.2) else exe X d 84 16 [Value.ref 0, Value.int l1, Value.int l2, Value.int l3, dm, dm, dm, dm] [Value.null] (sz, sl, sh, R, I, J)) :=
  tq ((E_iload (x := l1) rfl f84_0)) (tq ((E_if_ge f84_1)) (ite_c (tq ((E_aload (v := Value.ref 0) rfl rfl f84_8)) (tq ((E_iload (x := l1) rfl f84_9)) (tq ((E_iconst (x := (100)) (by decide) f84_10)) (tq ((E_idiv (by decide) f84_12)) ((tq ((E_callV pn_12 pc_12 rfl rfl (Nat.le_of_ble_eq_true rfl) f84_13)) (if_pos (zS0 hS)))))))) (tq ((E_null f84_4)) ((E_goto f84_5)))))
theorem t84_16 {X : XX} {d : Nat} {sz sl : Nat} {sh : Nat → Nat × Nat} {R : Nat → Nat → Option Nat} {I : Nat → Nat → Int32} {J : Nat → Nat → Int64} (hS : SF sh R) {l1 : Int32} {l2 : Int32} {l3 : Int32} {s0 : Value} (k0 : isB s0 = true) : exe X d 84 16 [Value.ref 0, Value.int l1, Value.int l2, Value.int l3, dm, dm, dm, dm] [s0] (sz, sl, sh, R, I, J) =
    (if 0 ≤ l1 then ((ev X d 12 [Value.ref 0, Value.int (l1 - l1 / (100) * (100))] (sz, sl, sh, R, I, J)).bind fun q => exe X d 84 34 [dm, dm, Value.int l2, Value.int l3, s0, dm, dm, dm] (q.1.toList ++ []) q.2) else exe X d 84 34 [dm, dm, Value.int l2, Value.int l3, s0, dm, dm, dm] [Value.null] (sz, sl, sh, R, I, J)) :=
  tq ((E_astore k0 rfl f84_16)) (tq ((E_iload (x := l1) rfl f84_18)) (tq ((E_if_ge f84_19)) (ite_c (tq ((E_aload (v := Value.ref 0) rfl rfl f84_26)) (tq ((E_iload (x := l1) rfl f84_27)) (tq ((E_iconst (x := (100)) (by decide) f84_28)) (tq ((E_irem (by decide) f84_30)) ((tq ((E_callV pn_12 pc_12 rfl rfl (Nat.le_of_ble_eq_true rfl) f84_31)) (if_pos (zS0 hS)))))))) (tq ((E_null f84_22)) ((E_goto f84_23))))))
theorem t84_34 {X : XX} {d : Nat} {sz sl : Nat} {sh : Nat → Nat × Nat} {R : Nat → Nat → Option Nat} {I : Nat → Nat → Int32} {J : Nat → Nat → Int64} {l2 : Int32} {l3 : Int32} {l4 : Value} (h4 : isB l4 = true) {s0 : Value} (k0 : isB s0 = true) : exe X d 84 34 [dm, dm, Value.int l2, Value.int l3, l4, dm, dm, dm] [s0] (sz, sl, sh, R, I, J) =
    (nn (l4) (some (some (Value.int (-1)), (sz, sl, sh, R, I, J))) ((nn (s0) (some (some (Value.int (-1)), (sz, sl, sh, R, I, J))) (((ev X d 11 [Value.int l2] (sz, sl, sh, R, I, J)).bind fun q => exe X d 84 50 [dm, dm, Value.int l2, Value.int l3, l4, s0, dm, dm] (q.1.toList ++ []) q.2))))) :=
  tq ((E_astore k0 (okS_A (Nat.lt_of_sub_eq_succ rfl) rfl h4) f84_34)) (tq ((E_aload (v := l4) rfl (isBA h4) f84_36)) (tq ((E_ifnull f84_38)) (nn_c (tq ((E_iconst (x := (-1)) (by decide) f84_62)) ((E_iret pr_84 f84_63))) (tq ((E_aload (v := s0) rfl (isBA k0) f84_41)) (tq ((E_ifnull f84_43)) (nn_c (tq ((E_iconst (x := (-1)) (by decide) f84_62)) ((E_iret pr_84 f84_63))) (tq ((E_iload (x := l2) rfl f84_46)) ((E_callS pn_11 rfl rfl (Nat.le_of_ble_eq_true rfl) (Nat.le_of_ble_eq_true rfl) f84_47)))))))))
theorem t84_50 {X : XX} {d : Nat} {sz sl : Nat} {sh : Nat → Nat × Nat} {R : Nat → Nat → Option Nat} {I : Nat → Nat → Int32} {J : Nat → Nat → Int64} {l2 : Int32} {l3 : Int32} {l4 : Value} (h4 : isB l4 = true) {l5 : Value} (h5 : isB l5 = true) {s0 : Int32} : exe X d 84 50 [dm, dm, Value.int l2, Value.int l3, l4, l5, dm, dm] [Value.int s0] (sz, sl, sh, R, I, J) =
    (if s0 = 0 then some (some (Value.int (-1)), (sz, sl, sh, R, I, J)) else ((ev X d 10 [Value.int l3, Value.int (0), Value.int (1)] (sz, sl, sh, R, I, J)).bind fun q => exe X d 84 59 [dm, dm, Value.int l2, Value.int l3, l4, l5, dm, dm] (q.1.toList ++ []) q.2)) :=
  tq ((E_if_eq f84_50)) (ite_c (tq ((E_iconst (x := (-1)) (by decide) f84_62)) ((E_iret pr_84 f84_63))) (tq ((E_iload (x := l3) rfl f84_53)) (tq ((E_iconst (x := (0)) (by decide) f84_54)) (tq ((E_iconst (x := (1)) (by decide) f84_55)) ((E_callS pn_10 rfl rfl (Nat.le_of_ble_eq_true rfl) (Nat.le_of_ble_eq_true rfl) f84_56))))))
theorem t84_59 {X : XX} {d : Nat} {sz sl : Nat} {sh : Nat → Nat × Nat} {R : Nat → Nat → Option Nat} {I : Nat → Nat → Int32} {J : Nat → Nat → Int64} {l2 : Int32} {l3 : Int32} {l4 : Value} (h4 : isB l4 = true) {l5 : Value} (h5 : isB l5 = true) {s0 : Int32} : exe X d 84 59 [dm, dm, Value.int l2, Value.int l3, l4, l5, dm, dm] [Value.int s0] (sz, sl, sh, R, I, J) =
    (if ¬ s0 = 0 then (rf (l4) fun p1 => if sh p1 = (15, 0) then (if 0 < (l2 - (I p1 3)) then (rf (l4) fun p2 => if sh p2 = (15, 0) then ((ev X d 83 [Value.ref p2] (sz, sl, sh, R, I, J)).bind fun q => exe X d 84 86 [dm, dm, Value.int l2, Value.int l3, dm, l5, Value.int (l2 - (I p1 3)), dm] (q.1.toList ++ []) q.2) else none) else some (some (Value.int (-2)), (sz, sl, sh, R, I, J))) else none) else some (some (Value.int (-1)), (sz, sl, sh, R, I, J))) :=
  tq ((E_if_ne f84_59)) (ite_c (tq ((E_iload (x := l2) rfl f84_64)) (tq ((E_aload (v := l4) rfl (isBA h4) f84_65)) (tq ((G8003 f84_67)) (rf_c fun p1 => ite_c (tq ((E_isub f84_70)) (tq ((E_istore (okS_A (Nat.lt_of_sub_eq_succ rfl) rfl h5) f84_71)) (tq ((E_iload (x := (l2 - (I p1 3))) rfl f84_73)) (tq ((E_if_gt f84_75)) (ite_c (tq ((E_aload (v := l4) rfl (isBA h4) f84_81)) ((E_callV pn_83 pc_83 rfl rfl (Nat.le_of_ble_eq_true rfl) f84_83))) (tq ((E_iconst (x := (-2)) (by decide) f84_78)) ((E_iret pr_84 f84_80)))))))) rfl)))) (tq ((E_iconst (x := (-1)) (by decide) f84_62)) ((E_iret pr_84 f84_63))))
theorem t84_86 {X : XX} {d : Nat} {sz sl : Nat} {sh : Nat → Nat × Nat} {R : Nat → Nat → Option Nat} {I : Nat → Nat → Int32} {J : Nat → Nat → Int64} {l2 : Int32} {l3 : Int32} {l5 : Value} (h5 : isB l5 = true) {l6 : Int32} {s0 : Int32} : exe X d 84 86 [dm, dm, Value.int l2, Value.int l3, dm, l5, Value.int l6, dm] [Value.int s0] (sz, sl, sh, R, I, J) =
    (if l6 = 0 then none else (if ¬ ((s0 * (1000)) / l6) = 0 then (if ¬ l3 = 0 then (rf (l5) fun p1 => if sh p1 = (15, 0) then ((ev X d 83 [Value.ref p1] (sz, sl, sh, R, I, J)).bind fun q => exe X d 84 118 [dm, dm, dm, dm, dm, dm, dm, Value.int ((s0 * (1000)) / l6)] (q.1.toList ++ [Value.int l2]) q.2) else none) else some (some (Value.int ((s0 * (1000)) / l6)), (sz, sl, sh, R, I, J))) else some (some (Value.int (-2)), (sz, sl, sh, R, I, J)))) :=
  tq ((E_iconst (x := (1000)) (by decide) f84_86)) (tq ((E_imul f84_89)) (tq ((E_iload (x := l6) rfl f84_90)) (tq (E_idiv' f84_92) (ite_c rfl (tq ((E_istore rfl f84_93)) (tq ((E_iload (x := ((s0 * (1000)) / l6)) rfl f84_95)) (tq ((E_if_ne f84_97)) (ite_c (tq ((E_iload (x := l3) rfl f84_103)) (tq ((E_if_ne f84_104)) (ite_c (tq ((E_iload (x := l2) rfl f84_112)) (tq ((E_aload (v := l5) rfl (isBA h5) f84_113)) ((E_callV pn_83 pc_83 rfl rfl (Nat.le_of_ble_eq_true rfl) f84_115)))) (tq ((E_iload (x := ((s0 * (1000)) / l6)) rfl f84_107)) (tq ((E_goto f84_109)) ((E_iret pr_84 f84_126))))))) (tq ((E_iconst (x := (-2)) (by decide) f84_100)) ((E_iret pr_84 f84_102)))))))))))
theorem t84_118 {X : XX} {d : Nat} {sz sl : Nat} {sh : Nat → Nat × Nat} {R : Nat → Nat → Option Nat} {I : Nat → Nat → Int32} {J : Nat → Nat → Int64} {l7 : Int32} {s0 : Int32} {s1 : Int32} : exe X d 84 118 [dm, dm, dm, dm, dm, dm, dm, Value.int l7] [Value.int s0, Value.int s1] (sz, sl, sh, R, I, J) =
    (if l7 = 0 then none else some (some (Value.int (s1 - ((s0 * (1000)) / l7))), (sz, sl, sh, R, I, J))) :=
  tq ((E_iconst (x := (1000)) (by decide) f84_118)) (tq ((E_imul f84_121)) (tq ((E_iload (x := l7) rfl f84_122)) (tq (E_idiv' f84_124) (ite_c rfl (tq ((E_isub f84_125)) ((E_iret pr_84 f84_126)))))))
theorem n84 {X : XX} {d : Nat} {h : HP} {a0 : Int32} {a1 : Int32} {a2 : Int32} : ev X (d + 1) 84 [Value.ref 0, Value.int a0, Value.int a1, Value.int a2] h = exe X d 84 0 [Value.ref 0, Value.int a0, Value.int a1, Value.int a2, dm, dm, dm, dm] [] h := ev_exe (Nat.le_of_ble_eq_true rfl)
theorem f85_0 : fr 85 0 = some (.aload 0, 1, [], []) := by decide +kernel
theorem f85_1 : fr 85 1 = some (.iload 1, 1, [1], []) := by decide +kernel
theorem f85_2 : fr 85 2 = some (.invokevirtual 57, 3, [], []) := by decide +kernel
theorem f85_5 : fr 85 5 = some (.astore 5, 2, [], []) := by decide +kernel
theorem f85_7 : fr 85 7 = some (.aload 5, 2, [], []) := by decide +kernel
theorem f85_9 : fr 85 9 = some (.ifnull 40, 3, [], [0, 2, 3, 4, 5]) := by decide +kernel
theorem f85_12 : fr 85 12 = some (.aload 0, 1, [], []) := by decide +kernel
theorem f85_13 : fr 85 13 = some (.iload 2, 1, [], []) := by decide +kernel
theorem f85_14 : fr 85 14 = some (.invokevirtual 65, 3, [], []) := by decide +kernel
theorem f85_17 : fr 85 17 = some (.ifCond .eq 40, 3, [], [0, 2, 3, 4, 5]) := by decide +kernel
theorem f85_20 : fr 85 20 = some (.iload 3, 1, [], []) := by decide +kernel
theorem f85_21 : fr 85 21 = some (.iconst 0, 1, [], []) := by decide +kernel
theorem f85_22 : fr 85 22 = some (.iconst 99999, 2, [], []) := by decide +kernel
theorem f85_24 : fr 85 24 = some (.invokestatic 10, 3, [], []) := by decide +kernel
theorem f85_27 : fr 85 27 = some (.ifCond .eq 40, 3, [], [0, 2, 3, 4, 5]) := by decide +kernel
theorem f85_30 : fr 85 30 = some (.iload 4, 2, [], []) := by decide +kernel
theorem f85_32 : fr 85 32 = some (.iconst 0, 1, [], []) := by decide +kernel
theorem f85_33 : fr 85 33 = some (.iconst 1, 1, [], []) := by decide +kernel
theorem f85_34 : fr 85 34 = some (.invokestatic 10, 3, [], []) := by decide +kernel
theorem f85_37 : fr 85 37 = some (.ifCond .ne 42, 3, [0, 2, 3, 4, 5], []) := by decide +kernel
theorem f85_40 : fr 85 40 = some (.iconst (-1), 1, [], []) := by decide +kernel
theorem f85_41 : fr 85 41 = some (.ireturn, 1, [], []) := by decide +kernel
theorem f85_42 : fr 85 42 = some (.iload 2, 1, [], []) := by decide +kernel
theorem f85_43 : fr 85 43 = some (.invokestatic 86, 3, [], []) := by decide +kernel
theorem f85_46 : fr 85 46 = some (.iconst 8, 2, [], []) := by decide +kernel
theorem f85_48 : fr 85 48 = some (.if_icmp .le 54, 3, [0, 2, 3, 4, 5], []) := by decide +kernel
theorem f85_51 : fr 85 51 = some (.iconst (-4), 2, [], []) := by decide +kernel
theorem f85_53 : fr 85 53 = some (.ireturn, 1, [], []) := by decide +kernel
theorem f85_54 : fr 85 54 = some (.aload 0, 1, [], []) := by decide +kernel
theorem f85_55 : fr 85 55 = some (.aload 5, 2, [5], []) := by decide +kernel
theorem f85_57 : fr 85 57 = some (.iload 2, 1, [], []) := by decide +kernel
theorem f85_58 : fr 85 58 = some (.invokevirtual 87, 3, [], []) := by decide +kernel
theorem f85_61 : fr 85 61 = some (.ifCond .ne 67, 3, [0, 2, 3, 4], []) := by decide +kernel
theorem f85_64 : fr 85 64 = some (.iconst (-2), 2, [], []) := by decide +kernel
theorem f85_66 : fr 85 66 = some (.ireturn, 1, [], []) := by decide +kernel
theorem f85_67 : fr 85 67 = some (.iload 4, 2, [4], []) := by decide +kernel
theorem f85_69 : fr 85 69 = some (.ifCond .ne 81, 3, [2], []) := by decide +kernel
theorem f85_72 : fr 85 72 = some (.aload 0, 1, [0], []) := by decide +kernel
theorem f85_73 : fr 85 73 = some (.getfield 8, 3, [], []) := by decide +kernel
theorem f85_76 : fr 85 76 = some (.iload 3, 1, [3], []) := by decide +kernel
theorem f85_77 : fr 85 77 = some (.invokevirtual 93, 3, [], []) := by decide +kernel
theorem f85_80 : fr 85 80 = some (.ireturn, 1, [], []) := by decide +kernel
theorem f85_81 : fr 85 81 = some (.aload 0, 1, [0], []) := by decide +kernel
theorem f85_82 : fr 85 82 = some (.getfield 8, 3, [], []) := by decide +kernel
theorem f85_85 : fr 85 85 = some (.iload 3, 1, [3], []) := by decide +kernel
theorem f85_86 : fr 85 86 = some (.invokevirtual 94, 3, [], []) := by decide +kernel
theorem f85_89 : fr 85 89 = some (.istore 6, 2, [], []) := by decide +kernel
theorem f85_91 : fr 85 91 = some (.iload 6, 2, [], []) := by decide +kernel
theorem f85_93 : fr 85 93 = some (.ifCond .ge 101, 3, [2, 6], []) := by decide +kernel
theorem f85_96 : fr 85 96 = some (.iconst (-2), 2, [], []) := by decide +kernel
theorem f85_98 : fr 85 98 = some (.goto 107, 3, [], []) := by decide +kernel
theorem f85_101 : fr 85 101 = some (.iload 6, 2, [6], []) := by decide +kernel
theorem f85_103 : fr 85 103 = some (.iload 2, 1, [2], []) := by decide +kernel
theorem f85_104 : fr 85 104 = some (.invokestatic 95, 3, [], []) := by decide +kernel
theorem f85_107 : fr 85 107 = some (.ireturn, 1, [], []) := by decide +kernel
theorem t85_0 {X : XX} {d : Nat} {sz sl : Nat} {sh : Nat → Nat × Nat} {R : Nat → Nat → Option Nat} {I : Nat → Nat → Int32} {J : Nat → Nat → Int64} (hS : SF sh R) {l1 : Int32} {l2 : Int32} {l3 : Int32} {l4 : Int32} : exe X d 85 0 [Value.ref 0, Value.int l1, Value.int l2, Value.int l3, Value.int l4, dm, dm] [] (sz, sl, sh, R, I, J) =
    ((ev X d 57 [Value.ref 0, Value.int l1] (sz, sl, sh, R, I, J)).bind fun q => exe X d 85 5 [Value.ref 0, dm, Value.int l2, Value.int l3, Value.int l4, dm, dm] (q.1.toList ++ []) q.2) :=
  tq ((E_aload (v := Value.ref 0) rfl rfl f85_0)) (tq ((E_iload (x := l1) rfl f85_1)) ((tq ((E_callV pn_57 pc_57 rfl rfl (Nat.le_of_ble_eq_true rfl) f85_2)) (if_pos (zS0 hS)))))
theorem t85_5 {X : XX} {d : Nat} {sz sl : Nat} {sh : Nat → Nat × Nat} {R : Nat → Nat → Option Nat} {I : Nat → Nat → Int32} {J : Nat → Nat → Int64} (hS : SF sh R) {l2 : Int32} {l3 : Int32} {l4 : Int32} {s0 : Value} (k0 : isB s0 = true) : exe X d 85 5 [Value.ref 0, dm, Value.int l2, Value.int l3, Value.int l4, dm, dm] [s0] (sz, sl, sh, R, I, J) =
    (nn (s0) (some (some (Value.int (-1)), (sz, sl, sh, R, I, J))) (((ev X d 65 [Value.ref 0, Value.int l2] (sz, sl, sh, R, I, J)).bind fun q => exe X d 85 17 [Value.ref 0, dm, Value.int l2, Value.int l3, Value.int l4, s0, dm] (q.1.toList ++ []) q.2))) :=
  tq ((E_astore k0 rfl f85_5)) (tq ((E_aload (v := s0) rfl (isBA k0) f85_7)) (tq ((E_ifnull f85_9)) (nn_c (tq ((E_iconst (x := (-1)) (by decide) f85_40)) ((E_iret pr_85 f85_41))) (tq ((E_aload (v := Value.ref 0) rfl rfl f85_12)) (tq ((E_iload (x := l2) rfl f85_13)) ((tq ((E_callV pn_65 pc_65 rfl rfl (Nat.le_of_ble_eq_true rfl) f85_14)) (if_pos (zS0 hS)))))))))
theorem t85_17 {X : XX} {d : Nat} {sz sl : Nat} {sh : Nat → Nat × Nat} {R : Nat → Nat → Option Nat} {I : Nat → Nat → Int32} {J : Nat → Nat → Int64} {l2 : Int32} {l3 : Int32} {l4 : Int32} {l5 : Value} (h5 : isB l5 = true) {s0 : Int32} : exe X d 85 17 [Value.ref 0, dm, Value.int l2, Value.int l3, Value.int l4, l5, dm] [Value.int s0] (sz, sl, sh, R, I, J) =
    (if s0 = 0 then some (some (Value.int (-1)), (sz, sl, sh, R, I, J)) else ((ev X d 10 [Value.int l3, Value.int (0), Value.int (99999)] (sz, sl, sh, R, I, J)).bind fun q => exe X d 85 27 [Value.ref 0, dm, Value.int l2, Value.int l3, Value.int l4, l5, dm] (q.1.toList ++ []) q.2)) :=
  tq ((E_if_eq f85_17)) (ite_c (tq ((E_iconst (x := (-1)) (by decide) f85_40)) ((E_iret pr_85 f85_41))) (tq ((E_iload (x := l3) rfl f85_20)) (tq ((E_iconst (x := (0)) (by decide) f85_21)) (tq ((E_iconst (x := (99999)) (by decide) f85_22)) ((E_callS pn_10 rfl rfl (Nat.le_of_ble_eq_true rfl) (Nat.le_of_ble_eq_true rfl) f85_24))))))
theorem t85_27 {X : XX} {d : Nat} {sz sl : Nat} {sh : Nat → Nat × Nat} {R : Nat → Nat → Option Nat} {I : Nat → Nat → Int32} {J : Nat → Nat → Int64} {l2 : Int32} {l3 : Int32} {l4 : Int32} {l5 : Value} (h5 : isB l5 = true) {s0 : Int32} : exe X d 85 27 [Value.ref 0, dm, Value.int l2, Value.int l3, Value.int l4, l5, dm] [Value.int s0] (sz, sl, sh, R, I, J) =
    (if s0 = 0 then some (some (Value.int (-1)), (sz, sl, sh, R, I, J)) else ((ev X d 10 [Value.int l4, Value.int (0), Value.int (1)] (sz, sl, sh, R, I, J)).bind fun q => exe X d 85 37 [Value.ref 0, dm, Value.int l2, Value.int l3, Value.int l4, l5, dm] (q.1.toList ++ []) q.2)) :=
  tq ((E_if_eq f85_27)) (ite_c (tq ((E_iconst (x := (-1)) (by decide) f85_40)) ((E_iret pr_85 f85_41))) (tq ((E_iload (x := l4) rfl f85_30)) (tq ((E_iconst (x := (0)) (by decide) f85_32)) (tq ((E_iconst (x := (1)) (by decide) f85_33)) ((E_callS pn_10 rfl rfl (Nat.le_of_ble_eq_true rfl) (Nat.le_of_ble_eq_true rfl) f85_34))))))
theorem t85_37 {X : XX} {d : Nat} {sz sl : Nat} {sh : Nat → Nat × Nat} {R : Nat → Nat → Option Nat} {I : Nat → Nat → Int32} {J : Nat → Nat → Int64} {l2 : Int32} {l3 : Int32} {l4 : Int32} {l5 : Value} (h5 : isB l5 = true) {s0 : Int32} : exe X d 85 37 [Value.ref 0, dm, Value.int l2, Value.int l3, Value.int l4, l5, dm] [Value.int s0] (sz, sl, sh, R, I, J) =
    (if ¬ s0 = 0 then ((ev X d 86 [Value.int l2] (sz, sl, sh, R, I, J)).bind fun q => exe X d 85 46 [Value.ref 0, dm, Value.int l2, Value.int l3, Value.int l4, l5, dm] (q.1.toList ++ []) q.2) else some (some (Value.int (-1)), (sz, sl, sh, R, I, J))) :=
  tq ((E_if_ne f85_37)) (ite_c (tq ((E_iload (x := l2) rfl f85_42)) ((E_callS pn_86 rfl rfl (Nat.le_of_ble_eq_true rfl) (Nat.le_of_ble_eq_true rfl) f85_43))) (tq ((E_iconst (x := (-1)) (by decide) f85_40)) ((E_iret pr_85 f85_41))))
theorem t85_46 {X : XX} {d : Nat} {sz sl : Nat} {sh : Nat → Nat × Nat} {R : Nat → Nat → Option Nat} {I : Nat → Nat → Int32} {J : Nat → Nat → Int64} (hS : SF sh R) {l2 : Int32} {l3 : Int32} {l4 : Int32} {l5 : Value} (h5 : isB l5 = true) {s0 : Int32} : exe X d 85 46 [Value.ref 0, dm, Value.int l2, Value.int l3, Value.int l4, l5, dm] [Value.int s0] (sz, sl, sh, R, I, J) =
    (if s0 ≤ (8) then ((ev X d 87 [Value.ref 0, l5, Value.int l2] (sz, sl, sh, R, I, J)).bind fun q => exe X d 85 61 [Value.ref 0, dm, Value.int l2, Value.int l3, Value.int l4, dm, dm] (q.1.toList ++ []) q.2) else some (some (Value.int (-4)), (sz, sl, sh, R, I, J))) :=
  tq ((E_iconst (x := (8)) (by decide) f85_46)) (tq ((E_ic_le f85_48)) (ite_c (tq ((E_aload (v := Value.ref 0) rfl rfl f85_54)) (tq ((E_aload (v := l5) rfl (isBA h5) f85_55)) (tq ((E_iload (x := l2) rfl f85_57)) ((tq ((E_callV pn_87 pc_87 rfl rfl (Nat.le_of_ble_eq_true rfl) f85_58)) (if_pos (zS0 hS))))))) (tq ((E_iconst (x := (-4)) (by decide) f85_51)) ((E_iret pr_85 f85_53)))))
theorem t85_61 {X : XX} {d : Nat} {sz sl : Nat} {sh : Nat → Nat × Nat} {R : Nat → Nat → Option Nat} {I : Nat → Nat → Int32} {J : Nat → Nat → Int64} (hS : SF sh R) {l2 : Int32} {l3 : Int32} {l4 : Int32} {s0 : Int32} : exe X d 85 61 [Value.ref 0, dm, Value.int l2, Value.int l3, Value.int l4, dm, dm] [Value.int s0] (sz, sl, sh, R, I, J) =
    (if ¬ s0 = 0 then (if ¬ l4 = 0 then ((ev X d 94 [Value.ref 11, Value.int l3] (sz, sl, sh, R, I, J)).bind fun q => exe X d 85 89 [dm, dm, Value.int l2, dm, dm, dm, dm] (q.1.toList ++ []) q.2) else ((ev X d 93 [Value.ref 11, Value.int l3] (sz, sl, sh, R, I, J)).bind fun q => exe X d 85 80 [dm, dm, dm, dm, dm, dm, dm] (q.1.toList ++ []) q.2)) else some (some (Value.int (-2)), (sz, sl, sh, R, I, J))) :=
  tq ((E_if_ne f85_61)) (ite_c (tq ((E_iload (x := l4) rfl f85_67)) (tq ((E_if_ne f85_69)) (ite_c (tq ((E_aload (v := Value.ref 0) rfl rfl f85_81)) (tq (tq ((G8 f85_82)) (if_pos (zS0 hS))) (tq (exe_R (zR0_8 hS)) (tq ((E_iload (x := l3) rfl f85_85)) ((tq ((E_callV pn_94 pc_94 rfl rfl (Nat.le_of_ble_eq_true rfl) f85_86)) (if_pos (zS11 hS)))))))) (tq ((E_aload (v := Value.ref 0) rfl rfl f85_72)) (tq (tq ((G8 f85_73)) (if_pos (zS0 hS))) (tq (exe_R (zR0_8 hS)) (tq ((E_iload (x := l3) rfl f85_76)) ((tq ((E_callV pn_93 pc_93 rfl rfl (Nat.le_of_ble_eq_true rfl) f85_77)) (if_pos (zS11 hS))))))))))) (tq ((E_iconst (x := (-2)) (by decide) f85_64)) ((E_iret pr_85 f85_66))))
theorem t85_80 {X : XX} {d : Nat} {sz sl : Nat} {sh : Nat → Nat × Nat} {R : Nat → Nat → Option Nat} {I : Nat → Nat → Int32} {J : Nat → Nat → Int64} {s0 : Int32} : exe X d 85 80 [dm, dm, dm, dm, dm, dm, dm] [Value.int s0] (sz, sl, sh, R, I, J) =
    some (some (Value.int s0), (sz, sl, sh, R, I, J)) :=
  (E_iret pr_85 f85_80)
theorem t85_89 {X : XX} {d : Nat} {sz sl : Nat} {sh : Nat → Nat × Nat} {R : Nat → Nat → Option Nat} {I : Nat → Nat → Int32} {J : Nat → Nat → Int64} {l2 : Int32} {s0 : Int32} : exe X d 85 89 [dm, dm, Value.int l2, dm, dm, dm, dm] [Value.int s0] (sz, sl, sh, R, I, J) =
    (if 0 ≤ s0 then ((ev X d 95 [Value.int s0, Value.int l2] (sz, sl, sh, R, I, J)).bind fun q => exe X d 85 107 [dm, dm, dm, dm, dm, dm, dm] (q.1.toList ++ []) q.2) else exe X d 85 107 [dm, dm, dm, dm, dm, dm, dm] [Value.int (-2)] (sz, sl, sh, R, I, J)) :=
  tq ((E_istore rfl f85_89)) (tq ((E_iload (x := s0) rfl f85_91)) (tq ((E_if_ge f85_93)) (ite_c (tq ((E_iload (x := s0) rfl f85_101)) (tq ((E_iload (x := l2) rfl f85_103)) ((E_callS pn_95 rfl rfl (Nat.le_of_ble_eq_true rfl) (Nat.le_of_ble_eq_true rfl) f85_104)))) (tq ((E_iconst (x := (-2)) (by decide) f85_96)) ((E_goto f85_98))))))
theorem t85_107 {X : XX} {d : Nat} {sz sl : Nat} {sh : Nat → Nat × Nat} {R : Nat → Nat → Option Nat} {I : Nat → Nat → Int32} {J : Nat → Nat → Int64} {s0 : Int32} : exe X d 85 107 [dm, dm, dm, dm, dm, dm, dm] [Value.int s0] (sz, sl, sh, R, I, J) =
    some (some (Value.int s0), (sz, sl, sh, R, I, J)) :=
  (E_iret pr_85 f85_107)
theorem n85 {X : XX} {d : Nat} {h : HP} {a0 : Int32} {a1 : Int32} {a2 : Int32} {a3 : Int32} : ev X (d + 1) 85 [Value.ref 0, Value.int a0, Value.int a1, Value.int a2, Value.int a3] h = exe X d 85 0 [Value.ref 0, Value.int a0, Value.int a1, Value.int a2, Value.int a3, dm, dm] [] h := ev_exe (Nat.le_of_ble_eq_true rfl)
theorem f86_0 : fr 86 0 = some (.iload 0, 1, [], []) := by decide +kernel
theorem f86_1 : fr 86 1 = some (.iload 0, 1, [0], []) := by decide +kernel
theorem f86_2 : fr 86 2 = some (.iconst 1, 1, [], []) := by decide +kernel
theorem f86_3 : fr 86 3 = some (.iushr, 1, [], []) := by decide +kernel
theorem f86_4 : fr 86 4 = some (.iconst 1431655765, 3, [], []) := by decide +kernel
theorem f86_7 : fr 86 7 = some (.iand, 1, [], []) := by decide +kernel
theorem f86_8 : fr 86 8 = some (.isub, 1, [], []) := by decide +kernel
theorem f86_9 : fr 86 9 = some (.istore 0, 1, [], []) := by decide +kernel
theorem f86_10 : fr 86 10 = some (.iload 0, 1, [], []) := by decide +kernel
theorem f86_11 : fr 86 11 = some (.iconst 858993459, 3, [], []) := by decide +kernel
theorem f86_14 : fr 86 14 = some (.iand, 1, [], []) := by decide +kernel
theorem f86_15 : fr 86 15 = some (.iload 0, 1, [0], []) := by decide +kernel
theorem f86_16 : fr 86 16 = some (.iconst 2, 1, [], []) := by decide +kernel
theorem f86_17 : fr 86 17 = some (.iushr, 1, [], []) := by decide +kernel
theorem f86_18 : fr 86 18 = some (.iconst 858993459, 3, [], []) := by decide +kernel
theorem f86_21 : fr 86 21 = some (.iand, 1, [], []) := by decide +kernel
theorem f86_22 : fr 86 22 = some (.iadd, 1, [], []) := by decide +kernel
theorem f86_23 : fr 86 23 = some (.istore 0, 1, [], []) := by decide +kernel
theorem f86_24 : fr 86 24 = some (.iload 0, 1, [], []) := by decide +kernel
theorem f86_25 : fr 86 25 = some (.iload 0, 1, [0], []) := by decide +kernel
theorem f86_26 : fr 86 26 = some (.iconst 4, 1, [], []) := by decide +kernel
theorem f86_27 : fr 86 27 = some (.iushr, 1, [], []) := by decide +kernel
theorem f86_28 : fr 86 28 = some (.iadd, 1, [], []) := by decide +kernel
theorem f86_29 : fr 86 29 = some (.iconst 252645135, 3, [], []) := by decide +kernel
theorem f86_32 : fr 86 32 = some (.iand, 1, [], []) := by decide +kernel
theorem f86_33 : fr 86 33 = some (.istore 0, 1, [], []) := by decide +kernel
theorem f86_34 : fr 86 34 = some (.iload 0, 1, [], []) := by decide +kernel
theorem f86_35 : fr 86 35 = some (.iload 0, 1, [0], []) := by decide +kernel
theorem f86_36 : fr 86 36 = some (.iconst 8, 2, [], []) := by decide +kernel
theorem f86_38 : fr 86 38 = some (.iushr, 1, [], []) := by decide +kernel
theorem f86_39 : fr 86 39 = some (.iadd, 1, [], []) := by decide +kernel
theorem f86_40 : fr 86 40 = some (.istore 0, 1, [], []) := by decide +kernel
theorem f86_41 : fr 86 41 = some (.iload 0, 1, [], []) := by decide +kernel
theorem f86_42 : fr 86 42 = some (.iload 0, 1, [0], []) := by decide +kernel
theorem f86_43 : fr 86 43 = some (.iconst 16, 2, [], []) := by decide +kernel
theorem f86_45 : fr 86 45 = some (.iushr, 1, [], []) := by decide +kernel
theorem f86_46 : fr 86 46 = some (.iadd, 1, [], []) := by decide +kernel
theorem f86_47 : fr 86 47 = some (.istore 0, 1, [], []) := by decide +kernel
theorem f86_48 : fr 86 48 = some (.iload 0, 1, [0], []) := by decide +kernel
theorem f86_49 : fr 86 49 = some (.iconst 63, 2, [], []) := by decide +kernel
theorem f86_51 : fr 86 51 = some (.iand, 1, [], []) := by decide +kernel
theorem f86_52 : fr 86 52 = some (.ireturn, 1, [], []) := by decide +kernel
theorem t86_0 {X : XX} {d : Nat} {sz sl : Nat} {sh : Nat → Nat × Nat} {R : Nat → Nat → Option Nat} {I : Nat → Nat → Int32} {J : Nat → Nat → Int64} {l0 : Int32} : exe X d 86 0 [Value.int l0] [] (sz, sl, sh, R, I, J) =
    exe X d 86 10 [Value.int (l0 - ((ush l0 (1)) &&& (1431655765)))] [] (sz, sl, sh, R, I, J) :=
  tq ((E_iload (x := l0) rfl f86_0)) (tq ((E_iload (x := l0) rfl f86_1)) (tq ((E_iconst (x := (1)) (by decide) f86_2)) (tq ((E_ush f86_3)) (tq ((E_iconst (x := (1431655765)) (by decide) f86_4)) (tq ((E_iand f86_7)) (tq ((E_isub f86_8)) ((E_istore rfl f86_9))))))))
theorem t86_10 {X : XX} {d : Nat} {sz sl : Nat} {sh : Nat → Nat × Nat} {R : Nat → Nat → Option Nat} {I : Nat → Nat → Int32} {J : Nat → Nat → Int64} {l0 : Int32} : exe X d 86 10 [Value.int l0] [] (sz, sl, sh, R, I, J) =
    exe X d 86 24 [Value.int ((l0 &&& (858993459)) + ((ush l0 (2)) &&& (858993459)))] [] (sz, sl, sh, R, I, J) :=
  tq ((E_iload (x := l0) rfl f86_10)) (tq ((E_iconst (x := (858993459)) (by decide) f86_11)) (tq ((E_iand f86_14)) (tq ((E_iload (x := l0) rfl f86_15)) (tq ((E_iconst (x := (2)) (by decide) f86_16)) (tq ((E_ush f86_17)) (tq ((E_iconst (x := (858993459)) (by decide) f86_18)) (tq ((E_iand f86_21)) (tq ((E_iadd f86_22)) ((E_istore rfl f86_23))))))))))
theorem t86_24 {X : XX} {d : Nat} {sz sl : Nat} {sh : Nat → Nat × Nat} {R : Nat → Nat → Option Nat} {I : Nat → Nat → Int32} {J : Nat → Nat → Int64} {l0 : Int32} : exe X d 86 24 [Value.int l0] [] (sz, sl, sh, R, I, J) =
    exe X d 86 34 [Value.int ((l0 + (ush l0 (4))) &&& (252645135))] [] (sz, sl, sh, R, I, J) :=
  tq ((E_iload (x := l0) rfl f86_24)) (tq ((E_iload (x := l0) rfl f86_25)) (tq ((E_iconst (x := (4)) (by decide) f86_26)) (tq ((E_ush f86_27)) (tq ((E_iadd f86_28)) (tq ((E_iconst (x := (252645135)) (by decide) f86_29)) (tq ((E_iand f86_32)) ((E_istore rfl f86_33))))))))
theorem t86_34 {X : XX} {d : Nat} {sz sl : Nat} {sh : Nat → Nat × Nat} {R : Nat → Nat → Option Nat} {I : Nat → Nat → Int32} {J : Nat → Nat → Int64} {l0 : Int32} : exe X d 86 34 [Value.int l0] [] (sz, sl, sh, R, I, J) =
    some (some (Value.int (((l0 + (ush l0 (8))) + (ush (l0 + (ush l0 (8))) (16))) &&& (63))), (sz, sl, sh, R, I, J)) :=
  tq ((E_iload (x := l0) rfl f86_34)) (tq ((E_iload (x := l0) rfl f86_35)) (tq ((E_iconst (x := (8)) (by decide) f86_36)) (tq ((E_ush f86_38)) (tq ((E_iadd f86_39)) (tq ((E_istore rfl f86_40)) (tq ((E_iload (x := (l0 + (ush l0 (8)))) rfl f86_41)) (tq ((E_iload (x := (l0 + (ush l0 (8)))) rfl f86_42)) (tq ((E_iconst (x := (16)) (by decide) f86_43)) (tq ((E_ush f86_45)) (tq ((E_iadd f86_46)) (tq ((E_istore rfl f86_47)) (tq ((E_iload (x := ((l0 + (ush l0 (8))) + (ush (l0 + (ush l0 (8))) (16)))) rfl f86_48)) (tq ((E_iconst (x := (63)) (by decide) f86_49)) (tq ((E_iand f86_51)) ((E_iret pr_86 f86_52))))))))))))))))
theorem n86 {X : XX} {d : Nat} {h : HP} {a0 : Int32} : ev X (d + 1) 86 [Value.int a0] h = exe X d 86 0 [Value.int a0] [] h := ev_exe (Nat.le_of_ble_eq_true rfl)
theorem f87_0 : fr 87 0 = some (.iconst 0, 1, [], []) := by decide +kernel
theorem f87_1 : fr 87 1 = some (.istore 3, 1, [], []) := by decide +kernel
theorem f87_2 : fr 87 2 = some (.aload 0, 1, [], []) := by decide +kernel
theorem f87_3 : fr 87 3 = some (.getfield 8, 3, [], []) := by decide +kernel
theorem f87_6 : fr 87 6 = some (.invokevirtual 88, 3, [], []) := by decide +kernel
theorem f87_9 : fr 87 9 = some (.iconst 0, 1, [], []) := by decide +kernel
theorem f87_10 : fr 87 10 = some (.istore 4, 2, [], []) := by decide +kernel
theorem f87_12 : fr 87 12 = some (.iload 4, 2, [], []) := by decide +kernel
theorem f87_14 : fr 87 14 = some (.aload 0, 1, [], []) := by decide +kernel
theorem f87_15 : fr 87 15 = some (.getfield 1, 3, [], []) := by decide +kernel
theorem f87_18 : fr 87 18 = some (.if_icmp .ge 78, 3, [], [0, 1, 2, 4]) := by decide +kernel
theorem f87_21 : fr 87 21 = some (.aload 0, 1, [], []) := by decide +kernel
theorem f87_22 : fr 87 22 = some (.iload 4, 2, [], []) := by decide +kernel
theorem f87_24 : fr 87 24 = some (.invokevirtual 12, 3, [], []) := by decide +kernel
theorem f87_27 : fr 87 27 = some (.astore 5, 2, [], []) := by decide +kernel
theorem f87_29 : fr 87 29 = some (.iconst 0, 1, [], []) := by decide +kernel
theorem f87_30 : fr 87 30 = some (.istore 6, 2, [], []) := by decide +kernel
theorem f87_32 : fr 87 32 = some (.iload 6, 2, [], []) := by decide +kernel
theorem f87_34 : fr 87 34 = some (.iconst 8, 2, [], []) := by decide +kernel
theorem f87_36 : fr 87 36 = some (.if_icmp .ge 72, 3, [], [5, 6]) := by decide +kernel
theorem f87_39 : fr 87 39 = some (.aload 5, 2, [], []) := by decide +kernel
theorem f87_41 : fr 87 41 = some (.ifnull 66, 3, [], []) := by decide +kernel
theorem f87_44 : fr 87 44 = some (.aload 5, 2, [], []) := by decide +kernel
theorem f87_46 : fr 87 46 = some (.iload 6, 2, [], []) := by decide +kernel
theorem f87_48 : fr 87 48 = some (.invokevirtual 16, 3, [], []) := by decide +kernel
theorem f87_51 : fr 87 51 = some (.ifCond .le 66, 3, [3], []) := by decide +kernel
theorem f87_54 : fr 87 54 = some (.aload 0, 1, [], []) := by decide +kernel
theorem f87_55 : fr 87 55 = some (.aload 1, 1, [], []) := by decide +kernel
theorem f87_56 : fr 87 56 = some (.aload 5, 2, [], []) := by decide +kernel
theorem f87_58 : fr 87 58 = some (.iload 6, 2, [], []) := by decide +kernel
theorem f87_60 : fr 87 60 = some (.iload 2, 1, [], []) := by decide +kernel
theorem f87_61 : fr 87 61 = some (.invokevirtual 89, 3, [], []) := by decide +kernel
theorem f87_64 : fr 87 64 = some (.iconst 1, 1, [], []) := by decide +kernel
theorem f87_65 : fr 87 65 = some (.istore 3, 1, [], []) := by decide +kernel
theorem f87_66 : fr 87 66 = some (.iinc 6 1, 3, [], []) := by decide +kernel
theorem f87_69 : fr 87 69 = some (.goto 32, 3, [], []) := by decide +kernel
theorem f87_72 : fr 87 72 = some (.iinc 4 1, 3, [], []) := by decide +kernel
theorem f87_75 : fr 87 75 = some (.goto 12, 3, [], []) := by decide +kernel
theorem f87_78 : fr 87 78 = some (.iload 3, 1, [3], []) := by decide +kernel
theorem f87_79 : fr 87 79 = some (.ireturn, 1, [], []) := by decide +kernel
theorem t87_0 {X : XX} {d : Nat} {sz sl : Nat} {sh : Nat → Nat × Nat} {R : Nat → Nat → Option Nat} {I : Nat → Nat → Int32} {J : Nat → Nat → Int64} (hS : SF sh R) {l1 : Nat} {l2 : Int32} : exe X d 87 0 [Value.ref 0, Value.ref l1, Value.int l2, dm, dm, dm, dm] [] (sz, sl, sh, R, I, J) =
    ((ev X d 88 [Value.ref 11] (sz, sl, sh, R, I, J)).bind fun q => exe X d 87 9 [Value.ref 0, Value.ref l1, Value.int l2, Value.int (0), dm, dm, dm] (q.1.toList ++ []) q.2) :=
  tq ((E_iconst (x := (0)) (by decide) f87_0)) (tq ((E_istore rfl f87_1)) (tq ((E_aload (v := Value.ref 0) rfl rfl f87_2)) (tq (tq ((G8 f87_3)) (if_pos (zS0 hS))) (tq (exe_R (zR0_8 hS)) ((tq ((E_callV pn_88 pc_88 rfl rfl (Nat.le_of_ble_eq_true rfl) f87_6)) (if_pos (zS11 hS))))))))
theorem t87_9 {X : XX} {d : Nat} {sz sl : Nat} {sh : Nat → Nat × Nat} {R : Nat → Nat → Option Nat} {I : Nat → Nat → Int32} {J : Nat → Nat → Int64} {l1 : Nat} {l2 : Int32} {l3 : Int32} : exe X d 87 9 [Value.ref 0, Value.ref l1, Value.int l2, Value.int l3, dm, dm, dm] [] (sz, sl, sh, R, I, J) =
    exe X d 87 12 [Value.ref 0, Value.ref l1, Value.int l2, Value.int l3, Value.int (0), dm, dm] [] (sz, sl, sh, R, I, J) :=
  tq ((E_iconst (x := (0)) (by decide) f87_9)) ((E_istore rfl f87_10))
theorem t87_12 {X : XX} {d : Nat} {sz sl : Nat} {sh : Nat → Nat × Nat} {R : Nat → Nat → Option Nat} {I : Nat → Nat → Int32} {J : Nat → Nat → Int64} (hS : SF sh R) {l1 : Nat} {l2 : Int32} {l3 : Int32} {l4 : Int32} : exe X d 87 12 [Value.ref 0, Value.ref l1, Value.int l2, Value.int l3, Value.int l4, dm, dm] [] (sz, sl, sh, R, I, J) =
    (if (I 0 1) ≤ l4 then (if l3 = 0 ∨ l3 = 1 then some (some (Value.int l3), (sz, sl, sh, R, I, J)) else none) else ((ev X d 12 [Value.ref 0, Value.int l4] (sz, sl, sh, R, I, J)).bind fun q => exe X d 87 27 [Value.ref 0, Value.ref l1, Value.int l2, Value.int l3, Value.int l4, dm, dm] (q.1.toList ++ []) q.2)) :=
  tq ((E_iload (x := l4) rfl f87_12)) (tq ((E_aload (v := Value.ref 0) rfl rfl f87_14)) (tq (tq ((G1 f87_15)) (if_pos (zS0 hS))) (tq ((E_ic_ge f87_18)) (ite_c (tq ((E_iload (x := l3) rfl f87_78)) ((E_zret pr_87 f87_79))) (tq ((E_aload (v := Value.ref 0) rfl rfl f87_21)) (tq ((E_iload (x := l4) rfl f87_22)) ((tq ((E_callV pn_12 pc_12 rfl rfl (Nat.le_of_ble_eq_true rfl) f87_24)) (if_pos (zS0 hS))))))))))
theorem t87_27 {X : XX} {d : Nat} {sz sl : Nat} {sh : Nat → Nat × Nat} {R : Nat → Nat → Option Nat} {I : Nat → Nat → Int32} {J : Nat → Nat → Int64} {l1 : Nat} {l2 : Int32} {l3 : Int32} {l4 : Int32} {s0 : Value} (k0 : isB s0 = true) : exe X d 87 27 [Value.ref 0, Value.ref l1, Value.int l2, Value.int l3, Value.int l4, dm, dm] [s0] (sz, sl, sh, R, I, J) =
    exe X d 87 32 [Value.ref 0, Value.ref l1, Value.int l2, Value.int l3, Value.int l4, s0, Value.int (0)] [] (sz, sl, sh, R, I, J) :=
  tq ((E_astore k0 rfl f87_27)) (tq ((E_iconst (x := (0)) (by decide) f87_29)) ((E_istore (okS_A (Nat.lt_of_sub_eq_succ rfl) rfl k0) f87_30)))
theorem t87_32 {X : XX} {d : Nat} {sz sl : Nat} {sh : Nat → Nat × Nat} {R : Nat → Nat → Option Nat} {I : Nat → Nat → Int32} {J : Nat → Nat → Int64} {l1 : Nat} {l2 : Int32} {l3 : Int32} {l4 : Int32} {l5 : Value} (h5 : isB l5 = true) {l6 : Int32} : exe X d 87 32 [Value.ref 0, Value.ref l1, Value.int l2, Value.int l3, Value.int l4, l5, Value.int l6] [] (sz, sl, sh, R, I, J) =
    (if (8) ≤ l6 then exe X d 87 12 [Value.ref 0, Value.ref l1, Value.int l2, Value.int l3, Value.int (l4 + (1)), dm, dm] [] (sz, sl, sh, R, I, J) else (nn (l5) (exe X d 87 32 [Value.ref 0, Value.ref l1, Value.int l2, Value.int l3, Value.int l4, l5, Value.int (l6 + (1))] [] (sz, sl, sh, R, I, J)) ((rf (l5) fun p1 => if sh p1 = (15, 0) then ((ev X d 16 [Value.ref p1, Value.int l6] (sz, sl, sh, R, I, J)).bind fun q => exe X d 87 51 [Value.ref 0, Value.ref l1, Value.int l2, Value.int l3, Value.int l4, l5, Value.int l6] (q.1.toList ++ []) q.2) else none)))) :=
  tq ((E_iload (x := l6) rfl f87_32)) (tq ((E_iconst (x := (8)) (by decide) f87_34)) (tq ((E_ic_ge f87_36)) (ite_c (tq ((E_iinc (x := l4) (x' := (1)) rfl rfl (by decide) f87_72)) ((E_goto f87_75))) (tq ((E_aload (v := l5) rfl (isBA h5) f87_39)) (tq ((E_ifnull f87_41)) (nn_c (tq ((E_iinc (x := l6) (x' := (1)) rfl (okS_A (Nat.lt_of_sub_eq_succ rfl) rfl h5) (by decide) f87_66)) ((E_goto f87_69))) (tq ((E_aload (v := l5) rfl (isBA h5) f87_44)) (tq ((E_iload (x := l6) rfl f87_46)) ((E_callV pn_16 pc_16 rfl rfl (Nat.le_of_ble_eq_true rfl) f87_48))))))))))
theorem t87_51 {X : XX} {d : Nat} {sz sl : Nat} {sh : Nat → Nat × Nat} {R : Nat → Nat → Option Nat} {I : Nat → Nat → Int32} {J : Nat → Nat → Int64} (hS : SF sh R) {l1 : Nat} {l2 : Int32} {l3 : Int32} {l4 : Int32} {l5 : Value} (h5 : isB l5 = true) {l6 : Int32} {s0 : Int32} : exe X d 87 51 [Value.ref 0, Value.ref l1, Value.int l2, Value.int l3, Value.int l4, l5, Value.int l6] [Value.int s0] (sz, sl, sh, R, I, J) =
    (if s0 ≤ 0 then exe X d 87 32 [Value.ref 0, Value.ref l1, Value.int l2, Value.int l3, Value.int l4, l5, Value.int (l6 + (1))] [] (sz, sl, sh, R, I, J) else ((ev X d 89 [Value.ref 0, Value.ref l1, l5, Value.int l6, Value.int l2] (sz, sl, sh, R, I, J)).bind fun q => exe X d 87 64 [Value.ref 0, Value.ref l1, Value.int l2, dm, Value.int l4, l5, Value.int l6] (q.1.toList ++ []) q.2)) :=
  tq ((E_if_le f87_51)) (ite_c (tq ((E_iinc (x := l6) (x' := (1)) rfl (okS_A (Nat.lt_of_sub_eq_succ rfl) rfl h5) (by decide) f87_66)) ((E_goto f87_69))) (tq ((E_aload (v := Value.ref 0) rfl rfl f87_54)) (tq ((E_aload (v := Value.ref l1) rfl rfl f87_55)) (tq ((E_aload (v := l5) rfl (isBA h5) f87_56)) (tq ((E_iload (x := l6) rfl f87_58)) (tq ((E_iload (x := l2) rfl f87_60)) ((tq ((E_callV pn_89 pc_89 rfl rfl (Nat.le_of_ble_eq_true rfl) f87_61)) (if_pos (zS0 hS))))))))))
theorem t87_64 {X : XX} {d : Nat} {sz sl : Nat} {sh : Nat → Nat × Nat} {R : Nat → Nat → Option Nat} {I : Nat → Nat → Int32} {J : Nat → Nat → Int64} {l1 : Nat} {l2 : Int32} {l4 : Int32} {l5 : Value} (h5 : isB l5 = true) {l6 : Int32} : exe X d 87 64 [Value.ref 0, Value.ref l1, Value.int l2, dm, Value.int l4, l5, Value.int l6] [] (sz, sl, sh, R, I, J) =
    exe X d 87 32 [Value.ref 0, Value.ref l1, Value.int l2, Value.int (1), Value.int l4, l5, Value.int (l6 + (1))] [] (sz, sl, sh, R, I, J) :=
  tq ((E_iconst (x := (1)) (by decide) f87_64)) (tq ((E_istore rfl f87_65)) (tq ((E_iinc (x := l6) (x' := (1)) rfl (okS_A (Nat.lt_of_sub_eq_succ rfl) rfl h5) (by decide) f87_66)) ((E_goto f87_69))))
theorem n87 {X : XX} {d : Nat} {h : HP} {a0 : Nat} {a1 : Int32} : ev X (d + 1) 87 [Value.ref 0, Value.ref a0, Value.int a1] h = exe X d 87 0 [Value.ref 0, Value.ref a0, Value.int a1, dm, dm, dm, dm] [] h := ev_exe (Nat.le_of_ble_eq_true rfl)
theorem f88_0 : fr 88 0 = some (.iconst 0, 1, [], []) := by decide +kernel
theorem f88_1 : fr 88 1 = some (.istore 1, 1, [], []) := by decide +kernel
theorem f88_2 : fr 88 2 = some (.iload 1, 1, [], []) := by decide +kernel
theorem f88_3 : fr 88 3 = some (.aload 0, 1, [], []) := by decide +kernel
theorem f88_4 : fr 88 4 = some (.getfield 5001, 3, [], []) := by decide +kernel
theorem f88_7 : fr 88 7 = some (.arraylength, 1, [], []) := by decide +kernel
theorem f88_8 : fr 88 8 = some (.if_icmp .ge 31, 3, [], [1]) := by decide +kernel
theorem f88_11 : fr 88 11 = some (.aload 0, 1, [], []) := by decide +kernel
theorem f88_12 : fr 88 12 = some (.getfield 5001, 3, [], []) := by decide +kernel
theorem f88_15 : fr 88 15 = some (.iload 1, 1, [], []) := by decide +kernel
theorem f88_16 : fr 88 16 = some (.jsr_w 0, 1, [], []) := by decide +kernel
theorem f88_17 : fr 88 17 = some (.lastore, 1, [], []) := by decide +kernel
theorem f88_18 : fr 88 18 = some (.aload 0, 1, [], []) := by decide +kernel
theorem f88_19 : fr 88 19 = some (.getfield 5002, 3, [], []) := by decide +kernel
theorem f88_22 : fr 88 22 = some (.iload 1, 1, [], []) := by decide +kernel
theorem f88_23 : fr 88 23 = some (.jsr_w 0, 1, [], []) := by decide +kernel
theorem f88_24 : fr 88 24 = some (.lastore, 1, [], []) := by decide +kernel
theorem f88_25 : fr 88 25 = some (.iinc 1 1, 3, [], []) := by decide +kernel
theorem f88_28 : fr 88 28 = some (.goto 2, 3, [], []) := by decide +kernel
theorem f88_31 : fr 88 31 = some (.aload 0, 1, [0], []) := by decide +kernel
theorem f88_32 : fr 88 32 = some (.iconst 1, 1, [], []) := by decide +kernel
theorem f88_33 : fr 88 33 = some (.putfield 5003, 3, [], []) := by decide +kernel
theorem f88_36 : fr 88 36 = some (.return_, 1, [], []) := by decide +kernel
theorem t88_0 {X : XX} {d : Nat} {sz sl : Nat} {sh : Nat → Nat × Nat} {R : Nat → Nat → Option Nat} {I : Nat → Nat → Int32} {J : Nat → Nat → Int64}  : exe X d 88 0 [Value.ref 11, dm] [] (sz, sl, sh, R, I, J) =
    exe X d 88 2 [Value.ref 11, Value.int (0)] [] (sz, sl, sh, R, I, J) :=
  tq ((E_iconst (x := (0)) (by decide) f88_0)) ((E_istore rfl f88_1))
theorem t88_2 {X : XX} {d : Nat} {sz sl : Nat} {sh : Nat → Nat × Nat} {R : Nat → Nat → Option Nat} {I : Nat → Nat → Int32} {J : Nat → Nat → Int64} (hS : SF sh R) {l1 : Int32} : exe X d 88 2 [Value.ref 11, Value.int l1] [] (sz, sl, sh, R, I, J) =
    (if (256) ≤ l1 then some (none, (sz, sl, sh, R, (u2 I 11 3 (1)), J)) else (if inb l1 256 then (if inb l1 256 then exe X d 88 2 [Value.ref 11, Value.int (l1 + (1))] [] (sz, sl, sh, R, I, (u2 (u2 J 13 l1.toNatClampNeg (0)) 14 l1.toNatClampNeg (0))) else none) else none)) :=
  tq ((E_iload (x := l1) rfl f88_2)) (tq ((E_aload (v := Value.ref 11) rfl rfl f88_3)) (tq (tq ((G5001 f88_4)) (if_pos (zS11 hS))) (tq (exe_R (zR11_1 hS)) (tq (tq (E_len f88_7) (ite_len (m := 256) (A := fun m => exe X d 88 8 [Value.ref 11, Value.int l1] (.int (Int32.ofNat m) :: [Value.int l1]) (sz, sl, sh, R, I, J)) (zS13 hS) (by decide))) (tq ((E_ic_ge f88_8)) (ite_c (tq ((E_aload (v := Value.ref 11) rfl rfl f88_31)) (tq ((E_iconst (x := (1)) (by decide) f88_32)) (tq (tq ((P5003 f88_33)) (if_pos (zS11 hS))) ((E_vret pr_88 f88_36))))) (tq ((E_aload (v := Value.ref 11) rfl rfl f88_11)) (tq (tq ((G5001 f88_12)) (if_pos (zS11 hS))) (tq (exe_R (zR11_1 hS)) (tq ((E_iload (x := l1) rfl f88_15)) (tq ((E_lconst (x := (0)) (by decide) f88_16)) (tq (tq ((E_last f88_17)) (ite_ar (zS13 hS))) (ite_c (tq ((E_aload (v := Value.ref 11) rfl rfl f88_18)) (tq (tq ((G5002 f88_19)) (if_pos (zS11 hS))) (tq (exe_R (zR11_2 hS)) (tq ((E_iload (x := l1) rfl f88_22)) (tq ((E_lconst (x := (0)) (by decide) f88_23)) (tq (tq ((E_last f88_24)) (ite_ar (zS14 hS))) (ite_c (tq ((E_iinc (x := l1) (x' := (1)) rfl rfl (by decide) f88_25)) ((E_goto f88_28))) rfl))))))) rfl)))))))))))))
theorem n88 {X : XX} {d : Nat} {h : HP}  : ev X (d + 1) 88 [Value.ref 11] h = exe X d 88 0 [Value.ref 11, dm] [] h := ev_exe (Nat.le_of_ble_eq_true rfl)
theorem f89_0 : fr 89 0 = some (.aload 0, 1, [], []) := by decide +kernel
theorem f89_1 : fr 89 1 = some (.getfield 8, 3, [], []) := by decide +kernel
theorem f89_4 : fr 89 4 = some (.invokevirtual 90, 3, [], []) := by decide +kernel
theorem f89_7 : fr 89 7 = some (.iconst 0, 1, [], []) := by decide +kernel
theorem f89_8 : fr 89 8 = some (.istore 5, 2, [], []) := by decide +kernel
theorem f89_10 : fr 89 10 = some (.iload 5, 2, [], []) := by decide +kernel
theorem f89_12 : fr 89 12 = some (.aload 0, 1, [], []) := by decide +kernel
theorem f89_13 : fr 89 13 = some (.getfield 5, 3, [], []) := by decide +kernel
theorem f89_16 : fr 89 16 = some (.arraylength, 1, [], []) := by decide +kernel
theorem f89_17 : fr 89 17 = some (.if_icmp .ge 66, 3, [], [1, 4, 5]) := by decide +kernel
theorem f89_20 : fr 89 20 = some (.aload 0, 1, [], []) := by decide +kernel
theorem f89_21 : fr 89 21 = some (.getfield 5, 3, [], []) := by decide +kernel
theorem f89_24 : fr 89 24 = some (.iload 5, 2, [], []) := by decide +kernel
theorem f89_26 : fr 89 26 = some (.aaload, 1, [], []) := by decide +kernel
theorem f89_27 : fr 89 27 = some (.astore 6, 2, [], []) := by decide +kernel
theorem f89_29 : fr 89 29 = some (.aload 6, 2, [], []) := by decide +kernel
theorem f89_31 : fr 89 31 = some (.ifnull 60, 3, [], [6]) := by decide +kernel
theorem f89_34 : fr 89 34 = some (.iload 4, 2, [], []) := by decide +kernel
theorem f89_36 : fr 89 36 = some (.iload 5, 2, [], []) := by decide +kernel
theorem f89_38 : fr 89 38 = some (.ishr, 1, [], []) := by decide +kernel
theorem f89_39 : fr 89 39 = some (.iconst 1, 1, [], []) := by decide +kernel
theorem f89_40 : fr 89 40 = some (.iand, 1, [], []) := by decide +kernel
theorem f89_41 : fr 89 41 = some (.iconst 1, 1, [], []) := by decide +kernel
theorem f89_42 : fr 89 42 = some (.if_icmp .ne 60, 3, [], [6]) := by decide +kernel
theorem f89_45 : fr 89 45 = some (.aload 0, 1, [], []) := by decide +kernel
theorem f89_46 : fr 89 46 = some (.getfield 8, 3, [], []) := by decide +kernel
theorem f89_49 : fr 89 49 = some (.aload 6, 2, [6], []) := by decide +kernel
theorem f89_51 : fr 89 51 = some (.aload 1, 1, [], []) := by decide +kernel
theorem f89_52 : fr 89 52 = some (.aload 2, 1, [], []) := by decide +kernel
theorem f89_53 : fr 89 53 = some (.iload 3, 1, [], []) := by decide +kernel
theorem f89_54 : fr 89 54 = some (.invokevirtual 67, 3, [], []) := by decide +kernel
theorem f89_57 : fr 89 57 = some (.invokevirtual 91, 3, [], []) := by decide +kernel
theorem f89_60 : fr 89 60 = some (.iinc 5 1, 3, [], []) := by decide +kernel
theorem f89_63 : fr 89 63 = some (.goto 10, 3, [], []) := by decide +kernel
theorem f89_66 : fr 89 66 = some (.aload 0, 1, [0], []) := by decide +kernel
theorem f89_67 : fr 89 67 = some (.getfield 8, 3, [], []) := by decide +kernel
theorem f89_70 : fr 89 70 = some (.aload 2, 1, [2], []) := by decide +kernel
theorem f89_71 : fr 89 71 = some (.iload 3, 1, [3], []) := by decide +kernel
theorem f89_72 : fr 89 72 = some (.invokevirtual 16, 3, [], []) := by decide +kernel
theorem f89_75 : fr 89 75 = some (.invokevirtual 92, 3, [], []) := by decide +kernel
theorem f89_78 : fr 89 78 = some (.return_, 1, [], []) := by decide +kernel
theorem t89_0 {X : XX} {d : Nat} {sz sl : Nat} {sh : Nat → Nat × Nat} {R : Nat → Nat → Option Nat} {I : Nat → Nat → Int32} {J : Nat → Nat → Int64} (hS : SF sh R) {l1 : Nat} {l2 : Nat} {l3 : Int32} {l4 : Int32} : exe X d 89 0 [Value.ref 0, Value.ref l1, Value.ref l2, Value.int l3, Value.int l4, dm, dm] [] (sz, sl, sh, R, I, J) =
    ((ev X d 90 [Value.ref 11] (sz, sl, sh, R, I, J)).bind fun q => exe X d 89 7 [Value.ref 0, Value.ref l1, Value.ref l2, Value.int l3, Value.int l4, dm, dm] (q.1.toList ++ []) q.2) :=
  tq ((E_aload (v := Value.ref 0) rfl rfl f89_0)) (tq (tq ((G8 f89_1)) (if_pos (zS0 hS))) (tq (exe_R (zR0_8 hS)) ((tq ((E_callV pn_90 pc_90 rfl rfl (Nat.le_of_ble_eq_true rfl) f89_4)) (if_pos (zS11 hS))))))
theorem t89_7 {X : XX} {d : Nat} {sz sl : Nat} {sh : Nat → Nat × Nat} {R : Nat → Nat → Option Nat} {I : Nat → Nat → Int32} {J : Nat → Nat → Int64} {l1 : Nat} {l2 : Nat} {l3 : Int32} {l4 : Int32} : exe X d 89 7 [Value.ref 0, Value.ref l1, Value.ref l2, Value.int l3, Value.int l4, dm, dm] [] (sz, sl, sh, R, I, J) =
    exe X d 89 10 [Value.ref 0, Value.ref l1, Value.ref l2, Value.int l3, Value.int l4, Value.int (0), dm] [] (sz, sl, sh, R, I, J) :=
  tq ((E_iconst (x := (0)) (by decide) f89_7)) ((E_istore rfl f89_8))
theorem t89_10 {X : XX} {d : Nat} {sz sl : Nat} {sh : Nat → Nat × Nat} {R : Nat → Nat → Option Nat} {I : Nat → Nat → Int32} {J : Nat → Nat → Int64} (hS : SF sh R) {l1 : Nat} {l2 : Nat} {l3 : Int32} {l4 : Int32} {l5 : Int32} : exe X d 89 10 [Value.ref 0, Value.ref l1, Value.ref l2, Value.int l3, Value.int l4, Value.int l5, dm] [] (sz, sl, sh, R, I, J) =
    (if (10) ≤ l5 then (if sh l2 = (15, 0) then ((ev X d 16 [Value.ref l2, Value.int l3] (sz, sl, sh, R, I, J)).bind fun q => exe X d 89 75 [dm, dm, dm, dm, dm, dm, dm] (q.1.toList ++ [Value.ref 11]) q.2) else none) else (if inb l5 10 then (nn ((rfv (R 6 l5.toNatClampNeg))) (exe X d 89 60 [Value.ref 0, Value.ref l1, Value.ref l2, Value.int l3, Value.int l4, Value.int l5, dm] [] (sz, sl, sh, R, I, J)) ((if ¬ ((l4 >>> (l5 &&& 31)) &&& (1)) = (1) then exe X d 89 60 [Value.ref 0, Value.ref l1, Value.ref l2, Value.int l3, Value.int l4, Value.int l5, dm] [] (sz, sl, sh, R, I, J) else (rf ((rfv (R 6 l5.toNatClampNeg))) fun p1 => if sh p1 = (16, 0) then ((ev X d 67 [Value.ref p1, Value.ref l1, Value.ref l2, Value.int l3] (sz, sl, sh, R, I, J)).bind fun q => exe X d 89 57 [Value.ref 0, Value.ref l1, Value.ref l2, Value.int l3, Value.int l4, Value.int l5, dm] (q.1.toList ++ [Value.ref 11]) q.2) else none)))) else none)) :=
  tq ((E_iload (x := l5) rfl f89_10)) (tq ((E_aload (v := Value.ref 0) rfl rfl f89_12)) (tq (tq ((G5 f89_13)) (if_pos (zS0 hS))) (tq (exe_R (zR0_5 hS)) (tq (tq (E_len f89_16) (ite_len (m := 10) (A := fun m => exe X d 89 17 [Value.ref 0, Value.ref l1, Value.ref l2, Value.int l3, Value.int l4, Value.int l5, dm] (.int (Int32.ofNat m) :: [Value.int l5]) (sz, sl, sh, R, I, J)) (zS6 hS) (by decide))) (tq ((E_ic_ge f89_17)) (ite_c (tq ((E_aload (v := Value.ref 0) rfl rfl f89_66)) (tq (tq ((G8 f89_67)) (if_pos (zS0 hS))) (tq (exe_R (zR0_8 hS)) (tq ((E_aload (v := Value.ref l2) rfl rfl f89_70)) (tq ((E_iload (x := l3) rfl f89_71)) (tq ((E_callV pn_16 pc_16 rfl rfl (Nat.le_of_ble_eq_true rfl) f89_72)) rf_ref)))))) (tq ((E_aload (v := Value.ref 0) rfl rfl f89_20)) (tq (tq ((G5 f89_21)) (if_pos (zS0 hS))) (tq (exe_R (zR0_5 hS)) (tq ((E_iload (x := l5) rfl f89_24)) (tq (tq ((E_aald f89_26)) (ite_aq (zS6 hS) (by decide))) (ite_c (tq ((E_astore (isB_rfv _) rfl f89_27)) (tq ((E_aload (v := (rfv (R 6 l5.toNatClampNeg))) rfl (isBA (isB_rfv _)) f89_29)) (tq ((E_ifnull f89_31)) (nn_c (rfl) (tq ((E_iload (x := l4) rfl f89_34)) (tq ((E_iload (x := l5) rfl f89_36)) (tq ((E_ishr f89_38)) (tq ((E_iconst (x := (1)) (by decide) f89_39)) (tq ((E_iand f89_40)) (tq ((E_iconst (x := (1)) (by decide) f89_41)) (tq ((E_ic_ne f89_42)) (ite_c (rfl) (tq ((E_aload (v := Value.ref 0) rfl rfl f89_45)) (tq (tq ((G8 f89_46)) (if_pos (zS0 hS))) (tq (exe_R (zR0_8 hS)) (tq ((E_aload (v := (rfv (R 6 l5.toNatClampNeg))) rfl (isBA (isB_rfv _)) f89_49)) (tq ((E_aload (v := Value.ref l1) rfl rfl f89_51)) (tq ((E_aload (v := Value.ref l2) rfl rfl f89_52)) (tq ((E_iload (x := l3) rfl f89_53)) ((E_callV pn_67 pc_67 rfl rfl (Nat.le_of_ble_eq_true rfl) f89_54))))))))))))))))))))) rfl))))))))))))
theorem t89_57 {X : XX} {d : Nat} {sz sl : Nat} {sh : Nat → Nat × Nat} {R : Nat → Nat → Option Nat} {I : Nat → Nat → Int32} {J : Nat → Nat → Int64} {l1 : Nat} {l2 : Nat} {l3 : Int32} {l4 : Int32} {l5 : Int32} {s0 : Int64} {s1 : Value} (k1 : isB s1 = true) : exe X d 89 57 [Value.ref 0, Value.ref l1, Value.ref l2, Value.int l3, Value.int l4, Value.int l5, dm] [Value.long s0, s1] (sz, sl, sh, R, I, J) =
    (rf (s1) fun p1 => if sh p1 = (12, 0) then ((ev X d 91 [Value.ref p1, Value.long s0] (sz, sl, sh, R, I, J)).bind fun q => exe X d 89 60 [Value.ref 0, Value.ref l1, Value.ref l2, Value.int l3, Value.int l4, Value.int l5, dm] (q.1.toList ++ []) q.2) else none) :=
  (E_callV pn_91 pc_91 rfl rfl (Nat.le_of_ble_eq_true rfl) f89_57)
theorem t89_60 {X : XX} {d : Nat} {sz sl : Nat} {sh : Nat → Nat × Nat} {R : Nat → Nat → Option Nat} {I : Nat → Nat → Int32} {J : Nat → Nat → Int64} {l1 : Nat} {l2 : Nat} {l3 : Int32} {l4 : Int32} {l5 : Int32} : exe X d 89 60 [Value.ref 0, Value.ref l1, Value.ref l2, Value.int l3, Value.int l4, Value.int l5, dm] [] (sz, sl, sh, R, I, J) =
    exe X d 89 10 [Value.ref 0, Value.ref l1, Value.ref l2, Value.int l3, Value.int l4, Value.int (l5 + (1)), dm] [] (sz, sl, sh, R, I, J) :=
  tq ((E_iinc (x := l5) (x' := (1)) rfl rfl (by decide) f89_60)) ((E_goto f89_63))
theorem t89_75 {X : XX} {d : Nat} {sz sl : Nat} {sh : Nat → Nat × Nat} {R : Nat → Nat → Option Nat} {I : Nat → Nat → Int32} {J : Nat → Nat → Int64} {s0 : Int32} {s1 : Value} (k1 : isB s1 = true) : exe X d 89 75 [dm, dm, dm, dm, dm, dm, dm] [Value.int s0, s1] (sz, sl, sh, R, I, J) =
    (rf (s1) fun p1 => if sh p1 = (12, 0) then ((ev X d 92 [Value.ref p1, Value.int s0] (sz, sl, sh, R, I, J)).bind fun q => exe X d 89 78 [dm, dm, dm, dm, dm, dm, dm] (q.1.toList ++ []) q.2) else none) :=
  (E_callV pn_92 pc_92 rfl rfl (Nat.le_of_ble_eq_true rfl) f89_75)
theorem t89_78 {X : XX} {d : Nat} {sz sl : Nat} {sh : Nat → Nat × Nat} {R : Nat → Nat → Option Nat} {I : Nat → Nat → Int32} {J : Nat → Nat → Int64}  : exe X d 89 78 [dm, dm, dm, dm, dm, dm, dm] [] (sz, sl, sh, R, I, J) =
    some (none, (sz, sl, sh, R, I, J)) :=
  (E_vret pr_89 f89_78)
theorem n89 {X : XX} {d : Nat} {h : HP} {a0 : Nat} {a1 : Nat} {a2 : Int32} {a3 : Int32} : ev X (d + 1) 89 [Value.ref 0, Value.ref a0, Value.ref a1, Value.int a2, Value.int a3] h = exe X d 89 0 [Value.ref 0, Value.ref a0, Value.ref a1, Value.int a2, Value.int a3, dm, dm] [] h := ev_exe (Nat.le_of_ble_eq_true rfl)
theorem f90_0 : fr 90 0 = some (.aload 0, 1, [], []) := by decide +kernel
theorem f90_1 : fr 90 1 = some (.getfield 5000, 3, [], []) := by decide +kernel
theorem f90_4 : fr 90 4 = some (.iconst 0, 1, [], []) := by decide +kernel
theorem f90_5 : fr 90 5 = some (.jsr_w 0, 1, [], []) := by decide +kernel
theorem f90_6 : fr 90 6 = some (.lastore, 1, [], []) := by decide +kernel
theorem f90_7 : fr 90 7 = some (.aload 0, 1, [0], []) := by decide +kernel
theorem f90_8 : fr 90 8 = some (.iconst 1, 1, [], []) := by decide +kernel
theorem f90_9 : fr 90 9 = some (.putfield 5003, 3, [], []) := by decide +kernel
theorem f90_12 : fr 90 12 = some (.return_, 1, [], []) := by decide +kernel
theorem t90_0 {X : XX} {d : Nat} {sz sl : Nat} {sh : Nat → Nat × Nat} {R : Nat → Nat → Option Nat} {I : Nat → Nat → Int32} {J : Nat → Nat → Int64} (hS : SF sh R)  : exe X d 90 0 [Value.ref 11] [] (sz, sl, sh, R, I, J) =
    some (none, (sz, sl, sh, R, (u2 I 11 3 (1)), (u2 J 12 0 (0)))) :=
  tq ((E_aload (v := Value.ref 11) rfl rfl f90_0)) (tq (tq ((G5000 f90_1)) (if_pos (zS11 hS))) (tq (exe_R (zR11_0 hS)) (tq ((E_iconst (x := (0)) (by decide) f90_4)) (tq ((E_lconst (x := (0)) (by decide) f90_5)) (tq (tq (tq ((E_last f90_6)) (ite_ar (zS12 hS))) (if_pos (by decide))) (tq ((E_aload (v := Value.ref 11) rfl rfl f90_7)) (tq ((E_iconst (x := (1)) (by decide) f90_8)) (tq (tq ((P5003 f90_9)) (if_pos (zS11 hS))) ((E_vret pr_90 f90_12))))))))))
theorem n90 {X : XX} {d : Nat} {h : HP}  : ev X (d + 1) 90 [Value.ref 11] h = exe X d 90 0 [Value.ref 11] [] h := ev_exe (Nat.le_of_ble_eq_true rfl)
theorem f91_0 : fr 91 0 = some (.iconst 2, 1, [], []) := by decide +kernel
theorem f91_1 : fr 91 1 = some (.aload 0, 1, [], []) := by decide +kernel
theorem f91_2 : fr 91 2 = some (.getfield 5003, 3, [], []) := by decide +kernel
theorem f91_5 : fr 91 5 = some (.imul, 1, [], []) := by decide +kernel
theorem f91_6 : fr 91 6 = some (.aload 0, 1, [], []) := by decide +kernel
theorem f91_7 : fr 91 7 = some (.getfield 5000, 3, [], []) := by decide +kernel
theorem f91_10 : fr 91 10 = some (.arraylength, 1, [], []) := by decide +kernel
theorem f91_11 : fr 91 11 = some (.if_icmp .le 15, 3, [0, 1], []) := by decide +kernel
theorem f91_14 : fr 91 14 = some (.return_, 1, [], []) := by decide +kernel
theorem f91_15 : fr 91 15 = some (.iconst 0, 1, [], []) := by decide +kernel
theorem f91_16 : fr 91 16 = some (.istore 3, 1, [], []) := by decide +kernel
theorem f91_17 : fr 91 17 = some (.iload 3, 1, [], []) := by decide +kernel
theorem f91_18 : fr 91 18 = some (.aload 0, 1, [], []) := by decide +kernel
theorem f91_19 : fr 91 19 = some (.getfield 5003, 3, [], []) := by decide +kernel
theorem f91_22 : fr 91 22 = some (.if_icmp .ge 50, 3, [], [1, 3]) := by decide +kernel
theorem f91_25 : fr 91 25 = some (.aload 0, 1, [], []) := by decide +kernel
theorem f91_26 : fr 91 26 = some (.getfield 5000, 3, [], []) := by decide +kernel
theorem f91_29 : fr 91 29 = some (.aload 0, 1, [], []) := by decide +kernel
theorem f91_30 : fr 91 30 = some (.getfield 5003, 3, [], []) := by decide +kernel
theorem f91_33 : fr 91 33 = some (.iload 3, 1, [], []) := by decide +kernel
theorem f91_34 : fr 91 34 = some (.iadd, 1, [], []) := by decide +kernel
theorem f91_35 : fr 91 35 = some (.aload 0, 1, [], []) := by decide +kernel
theorem f91_36 : fr 91 36 = some (.getfield 5000, 3, [], []) := by decide +kernel
theorem f91_39 : fr 91 39 = some (.iload 3, 1, [], []) := by decide +kernel
theorem f91_40 : fr 91 40 = some (.laload, 1, [], []) := by decide +kernel
theorem f91_41 : fr 91 41 = some (.lload 1, 1, [], []) := by decide +kernel
theorem f91_42 : fr 91 42 = some (.ladd, 1, [], []) := by decide +kernel
theorem f91_43 : fr 91 43 = some (.lastore, 1, [], []) := by decide +kernel
theorem f91_44 : fr 91 44 = some (.iinc 3 1, 3, [], []) := by decide +kernel
theorem f91_47 : fr 91 47 = some (.goto 17, 3, [], []) := by decide +kernel
theorem f91_50 : fr 91 50 = some (.aload 0, 1, [0], []) := by decide +kernel
theorem f91_51 : fr 91 51 = some (.dup, 1, [], []) := by decide +kernel
theorem f91_52 : fr 91 52 = some (.getfield 5003, 3, [], []) := by decide +kernel
theorem f91_55 : fr 91 55 = some (.iconst 2, 1, [], []) := by decide +kernel
theorem f91_56 : fr 91 56 = some (.imul, 1, [], []) := by decide +kernel
theorem f91_57 : fr 91 57 = some (.putfield 5003, 3, [], []) := by decide +kernel
theorem f91_60 : fr 91 60 = some (.return_, 1, [], []) := by decide +kernel
theorem t91_0 {X : XX} {d : Nat} {sz sl : Nat} {sh : Nat → Nat × Nat} {R : Nat → Nat → Option Nat} {I : Nat → Nat → Int32} {J : Nat → Nat → Int64} (hS : SF sh R) {l1 : Int64} : exe X d 91 0 [Value.ref 11, Value.long l1, dm, dm] [] (sz, sl, sh, R, I, J) =
    (if ((2) * (I 11 3)) ≤ (256) then exe X d 91 17 [Value.ref 11, Value.long l1, dm, Value.int (0)] [] (sz, sl, sh, R, I, J) else some (none, (sz, sl, sh, R, I, J))) :=
  tq ((E_iconst (x := (2)) (by decide) f91_0)) (tq ((E_aload (v := Value.ref 11) rfl rfl f91_1)) (tq (tq ((G5003 f91_2)) (if_pos (zS11 hS))) (tq ((E_imul f91_5)) (tq ((E_aload (v := Value.ref 11) rfl rfl f91_6)) (tq (tq ((G5000 f91_7)) (if_pos (zS11 hS))) (tq (exe_R (zR11_0 hS)) (tq (tq (E_len f91_10) (ite_len (m := 256) (A := fun m => exe X d 91 11 [Value.ref 11, Value.long l1, dm, dm] (.int (Int32.ofNat m) :: [Value.int ((2) * (I 11 3))]) (sz, sl, sh, R, I, J)) (zS12 hS) (by decide))) (tq ((E_ic_le f91_11)) (ite_c (tq ((E_iconst (x := (0)) (by decide) f91_15)) ((E_istore rfl f91_16))) ((E_vret pr_91 f91_14)))))))))))
theorem t91_17 {X : XX} {d : Nat} {sz sl : Nat} {sh : Nat → Nat × Nat} {R : Nat → Nat → Option Nat} {I : Nat → Nat → Int32} {J : Nat → Nat → Int64} (hS : SF sh R) {l1 : Int64} {l3 : Int32} : exe X d 91 17 [Value.ref 11, Value.long l1, dm, Value.int l3] [] (sz, sl, sh, R, I, J) =
    (if (I 11 3) ≤ l3 then some (none, (sz, sl, sh, R, (u2 I 11 3 ((I 11 3) * (2))), J)) else (if inb l3 256 then (if inb ((I 11 3) + l3) 256 then exe X d 91 17 [Value.ref 11, Value.long l1, dm, Value.int (l3 + (1))] [] (sz, sl, sh, R, I, (u2 J 12 ((I 11 3) + l3).toNatClampNeg ((J 12 l3.toNatClampNeg) + l1))) else none) else none)) :=
  tq ((E_iload (x := l3) rfl f91_17)) (tq ((E_aload (v := Value.ref 11) rfl rfl f91_18)) (tq (tq ((G5003 f91_19)) (if_pos (zS11 hS))) (tq ((E_ic_ge f91_22)) (ite_c (tq ((E_aload (v := Value.ref 11) rfl rfl f91_50)) (tq ((E_dup rfl f91_51)) (tq (tq ((G5003 f91_52)) (if_pos (zS11 hS))) (tq ((E_iconst (x := (2)) (by decide) f91_55)) (tq ((E_imul f91_56)) (tq (tq ((P5003 f91_57)) (if_pos (zS11 hS))) ((E_vret pr_91 f91_60)))))))) (tq ((E_aload (v := Value.ref 11) rfl rfl f91_25)) (tq (tq ((G5000 f91_26)) (if_pos (zS11 hS))) (tq (exe_R (zR11_0 hS)) (tq ((E_aload (v := Value.ref 11) rfl rfl f91_29)) (tq (tq ((G5003 f91_30)) (if_pos (zS11 hS))) (tq ((E_iload (x := l3) rfl f91_33)) (tq ((E_iadd f91_34)) (tq ((E_aload (v := Value.ref 11) rfl rfl f91_35)) (tq (tq ((G5000 f91_36)) (if_pos (zS11 hS))) (tq (exe_R (zR11_0 hS)) (tq ((E_iload (x := l3) rfl f91_39)) (tq (tq ((E_lald f91_40)) (ite_ar (zS12 hS))) (ite_c (tq ((E_lload (x := l1) rfl f91_41)) (tq ((E_ladd f91_42)) (tq (tq ((E_last f91_43)) (ite_ar (zS12 hS))) (ite_c (tq ((E_iinc (x := l3) (x' := (1)) rfl rfl (by decide) f91_44)) ((E_goto f91_47))) rfl)))) rfl)))))))))))))))))
theorem n91 {X : XX} {d : Nat} {h : HP} {a0 : Int64} : ev X (d + 1) 91 [Value.ref 11, Value.long a0] h = exe X d 91 0 [Value.ref 11, Value.long a0, dm, dm] [] h := ev_exe (Nat.le_of_ble_eq_true rfl)
theorem f92_0 : fr 92 0 = some (.iconst 0, 1, [], []) := by decide +kernel
theorem f92_1 : fr 92 1 = some (.istore 2, 1, [], []) := by decide +kernel
theorem f92_2 : fr 92 2 = some (.iload 2, 1, [], []) := by decide +kernel
theorem f92_3 : fr 92 3 = some (.aload 0, 1, [], []) := by decide +kernel
theorem f92_4 : fr 92 4 = some (.getfield 5003, 3, [], []) := by decide +kernel
theorem f92_7 : fr 92 7 = some (.if_icmp .ge 64, 3, [], [0, 1, 2]) := by decide +kernel
theorem f92_10 : fr 92 10 = some (.iload 2, 1, [], []) := by decide +kernel
theorem f92_11 : fr 92 11 = some (.aload 0, 1, [], []) := by decide +kernel
theorem f92_12 : fr 92 12 = some (.getfield 5000, 3, [], []) := by decide +kernel
theorem f92_15 : fr 92 15 = some (.arraylength, 1, [], []) := by decide +kernel
theorem f92_16 : fr 92 16 = some (.if_icmp .ge 64, 3, [], [0, 1, 2]) := by decide +kernel
theorem f92_19 : fr 92 19 = some (.aload 0, 1, [], []) := by decide +kernel
theorem f92_20 : fr 92 20 = some (.getfield 5000, 3, [], []) := by decide +kernel
theorem f92_23 : fr 92 23 = some (.iload 2, 1, [], []) := by decide +kernel
theorem f92_24 : fr 92 24 = some (.laload, 1, [], []) := by decide +kernel
theorem f92_25 : fr 92 25 = some (.iload 1, 1, [], []) := by decide +kernel
theorem f92_26 : fr 92 26 = some (.i2l, 1, [], []) := by decide +kernel
theorem f92_27 : fr 92 27 = some (.lsub, 1, [], []) := by decide +kernel
theorem f92_28 : fr 92 28 = some (.dneg, 3, [], []) := by decide +kernel
theorem f92_31 : fr 92 31 = some (.lstore 3, 1, [], []) := by decide +kernel
theorem f92_32 : fr 92 32 = some (.aload 0, 1, [], []) := by decide +kernel
theorem f92_33 : fr 92 33 = some (.getfield 5001, 3, [], []) := by decide +kernel
theorem f92_36 : fr 92 36 = some (.iload 2, 1, [], []) := by decide +kernel
theorem f92_37 : fr 92 37 = some (.dup2, 1, [], []) := by decide +kernel
theorem f92_38 : fr 92 38 = some (.laload, 1, [], []) := by decide +kernel
theorem f92_39 : fr 92 39 = some (.lload 3, 1, [], []) := by decide +kernel
theorem f92_40 : fr 92 40 = some (.ladd, 1, [], []) := by decide +kernel
theorem f92_41 : fr 92 41 = some (.lastore, 1, [], []) := by decide +kernel
theorem f92_42 : fr 92 42 = some (.aload 0, 1, [], []) := by decide +kernel
theorem f92_43 : fr 92 43 = some (.getfield 5002, 3, [], []) := by decide +kernel
theorem f92_46 : fr 92 46 = some (.iload 2, 1, [], []) := by decide +kernel
theorem f92_47 : fr 92 47 = some (.aload 0, 1, [], []) := by decide +kernel
theorem f92_48 : fr 92 48 = some (.getfield 5002, 3, [], []) := by decide +kernel
theorem f92_51 : fr 92 51 = some (.iload 2, 1, [], []) := by decide +kernel
theorem f92_52 : fr 92 52 = some (.laload, 1, [], []) := by decide +kernel
theorem f92_53 : fr 92 53 = some (.lload 3, 1, [3], []) := by decide +kernel
theorem f92_54 : fr 92 54 = some (.dadd, 3, [], []) := by decide +kernel
theorem f92_57 : fr 92 57 = some (.lastore, 1, [], []) := by decide +kernel
theorem f92_58 : fr 92 58 = some (.iinc 2 1, 3, [], []) := by decide +kernel
theorem f92_61 : fr 92 61 = some (.goto 2, 3, [], []) := by decide +kernel
theorem f92_64 : fr 92 64 = some (.return_, 1, [], []) := by decide +kernel
theorem t92_0 {X : XX} {d : Nat} {sz sl : Nat} {sh : Nat → Nat × Nat} {R : Nat → Nat → Option Nat} {I : Nat → Nat → Int32} {J : Nat → Nat → Int64} {l1 : Int32} : exe X d 92 0 [Value.ref 11, Value.int l1, dm, dm, dm] [] (sz, sl, sh, R, I, J) =
    exe X d 92 2 [Value.ref 11, Value.int l1, Value.int (0), dm, dm] [] (sz, sl, sh, R, I, J) :=
  tq ((E_iconst (x := (0)) (by decide) f92_0)) ((E_istore rfl f92_1))
theorem t92_2 {X : XX} {d : Nat} {sz sl : Nat} {sh : Nat → Nat × Nat} {R : Nat → Nat → Option Nat} {I : Nat → Nat → Int32} {J : Nat → Nat → Int64} (hS : SF sh R) {l1 : Int32} {l2 : Int32} : exe X d 92 2 [Value.ref 11, Value.int l1, Value.int l2, dm, dm] [] (sz, sl, sh, R, I, J) =
    (if (I 11 3) ≤ l2 then some (none, (sz, sl, sh, R, I, J)) else (if (256) ≤ l2 then some (none, (sz, sl, sh, R, I, J)) else (if inb l2 256 then (if inb l2 256 then (if inb l2 256 then (if inb l2 256 then (if inb l2 256 then exe X d 92 2 [Value.ref 11, Value.int l1, Value.int (l2 + (1)), dm, dm] [] (sz, sl, sh, R, I, (u2 (u2 J 13 l2.toNatClampNeg ((J 13 l2.toNatClampNeg) + (if 0 < ((J 12 l2.toNatClampNeg) - (Int32.toInt64 l1)) then ((J 12 l2.toNatClampNeg) - (Int32.toInt64 l1)) else -((J 12 l2.toNatClampNeg) - (Int32.toInt64 l1))))) 14 l2.toNatClampNeg (if (if 0 < ((J 12 l2.toNatClampNeg) - (Int32.toInt64 l1)) then ((J 12 l2.toNatClampNeg) - (Int32.toInt64 l1)) else -((J 12 l2.toNatClampNeg) - (Int32.toInt64 l1))) < ((u2 J 13 l2.toNatClampNeg ((J 13 l2.toNatClampNeg) + (if 0 < ((J 12 l2.toNatClampNeg) - (Int32.toInt64 l1)) then ((J 12 l2.toNatClampNeg) - (Int32.toInt64 l1)) else -((J 12 l2.toNatClampNeg) - (Int32.toInt64 l1))))) 14 l2.toNatClampNeg) then ((u2 J 13 l2.toNatClampNeg ((J 13 l2.toNatClampNeg) + (if 0 < ((J 12 l2.toNatClampNeg) - (Int32.toInt64 l1)) then ((J 12 l2.toNatClampNeg) - (Int32.toInt64 l1)) else -((J 12 l2.toNatClampNeg) - (Int32.toInt64 l1))))) 14 l2.toNatClampNeg) else (if 0 < ((J 12 l2.toNatClampNeg) - (Int32.toInt64 l1)) then ((J 12 l2.toNatClampNeg) - (Int32.toInt64 l1)) else -((J 12 l2.toNatClampNeg) - (Int32.toInt64 l1)))))) else none) else none) else none) else none) else none))) :=
  tq ((E_iload (x := l2) rfl f92_2)) (tq ((E_aload (v := Value.ref 11) rfl rfl f92_3)) (tq (tq ((G5003 f92_4)) (if_pos (zS11 hS))) (tq ((E_ic_ge f92_7)) (ite_c ((E_vret pr_92 f92_64)) (tq ((E_iload (x := l2) rfl f92_10)) (tq ((E_aload (v := Value.ref 11) rfl rfl f92_11)) (tq (tq ((G5000 f92_12)) (if_pos (zS11 hS))) (tq (exe_R (zR11_0 hS)) (tq (tq (E_len f92_15) (ite_len (m := 256) (A := fun m => exe X d 92 16 [Value.ref 11, Value.int l1, Value.int l2, dm, dm] (.int (Int32.ofNat m) :: [Value.int l2]) (sz, sl, sh, R, I, J)) (zS12 hS) (by decide))) (tq ((E_ic_ge f92_16)) (ite_c ((E_vret pr_92 f92_64)) (tq ((E_aload (v := Value.ref 11) rfl rfl f92_19)) (tq (tq ((G5000 f92_20)) (if_pos (zS11 hS))) (tq (exe_R (zR11_0 hS)) (tq ((E_iload (x := l2) rfl f92_23)) (tq (tq ((E_lald f92_24)) (ite_ar (zS12 hS))) (ite_c (tq ((E_iload (x := l1) rfl f92_25)) (tq ((E_i2l f92_26)) (tq ((E_lsub f92_27)) (tq ((E_dneg (Nat.le_of_ble_eq_true rfl) f92_28)) (tq ((E_lstore rfl (Nat.le_of_ble_eq_true rfl) f92_31)) (tq ((E_aload (v := Value.ref 11) rfl rfl f92_32)) (tq (tq ((G5001 f92_33)) (if_pos (zS11 hS))) (tq (exe_R (zR11_1 hS)) (tq ((E_iload (x := l2) rfl f92_36)) (tq ((E_dup2 rfl rfl f92_37)) (tq (tq ((E_lald f92_38)) (ite_ar (zS13 hS))) (ite_c (tq ((E_lload (x := (if 0 < ((J 12 l2.toNatClampNeg) - (Int32.toInt64 l1)) then ((J 12 l2.toNatClampNeg) - (Int32.toInt64 l1)) else -((J 12 l2.toNatClampNeg) - (Int32.toInt64 l1)))) rfl f92_39)) (tq ((E_ladd f92_40)) (tq (tq ((E_last f92_41)) (ite_ar (zS13 hS))) (ite_c (tq ((E_aload (v := Value.ref 11) rfl rfl f92_42)) (tq (tq ((G5002 f92_43)) (if_pos (zS11 hS))) (tq (exe_R (zR11_2 hS)) (tq ((E_iload (x := l2) rfl f92_46)) (tq ((E_aload (v := Value.ref 11) rfl rfl f92_47)) (tq (tq ((G5002 f92_48)) (if_pos (zS11 hS))) (tq (exe_R (zR11_2 hS)) (tq ((E_iload (x := l2) rfl f92_51)) (tq (tq ((E_lald f92_52)) (ite_ar (zS14 hS))) (ite_c (tq ((E_lload (x := (if 0 < ((J 12 l2.toNatClampNeg) - (Int32.toInt64 l1)) then ((J 12 l2.toNatClampNeg) - (Int32.toInt64 l1)) else -((J 12 l2.toNatClampNeg) - (Int32.toInt64 l1)))) rfl f92_53)) (tq ((E_dadd (Nat.le_of_ble_eq_true rfl) f92_54)) (tq (tq ((E_last f92_57)) (ite_ar (zS14 hS))) (ite_c (tq ((E_iinc (x := l2) (x' := (1)) rfl rfl (by decide) f92_58)) ((E_goto f92_61))) rfl)))) rfl)))))))))) rfl)))) rfl)))))))))))) rfl)))))))))))))))))
theorem n92 {X : XX} {d : Nat} {h : HP} {a0 : Int32} : ev X (d + 1) 92 [Value.ref 11, Value.int a0] h = exe X d 92 0 [Value.ref 11, Value.int a0, dm, dm, dm] [] h := ev_exe (Nat.le_of_ble_eq_true rfl)
theorem f93_0 : fr 93 0 = some (.iconst 0, 1, [], []) := by decide +kernel
theorem f93_1 : fr 93 1 = some (.istore 2, 1, [], []) := by decide +kernel
theorem f93_2 : fr 93 2 = some (.iconst 0, 1, [], []) := by decide +kernel
theorem f93_3 : fr 93 3 = some (.istore 3, 1, [], []) := by decide +kernel
theorem f93_4 : fr 93 4 = some (.iload 3, 1, [], []) := by decide +kernel
theorem f93_5 : fr 93 5 = some (.aload 0, 1, [], []) := by decide +kernel
theorem f93_6 : fr 93 6 = some (.getfield 5003, 3, [], []) := by decide +kernel
theorem f93_9 : fr 93 9 = some (.if_icmp .ge 42, 3, [], [0, 1, 3]) := by decide +kernel
theorem f93_12 : fr 93 12 = some (.iload 3, 1, [], []) := by decide +kernel
theorem f93_13 : fr 93 13 = some (.aload 0, 1, [], []) := by decide +kernel
theorem f93_14 : fr 93 14 = some (.getfield 5002, 3, [], []) := by decide +kernel
theorem f93_17 : fr 93 17 = some (.arraylength, 1, [], []) := by decide +kernel
theorem f93_18 : fr 93 18 = some (.if_icmp .ge 42, 3, [], [0, 1, 3]) := by decide +kernel
theorem f93_21 : fr 93 21 = some (.aload 0, 1, [], []) := by decide +kernel
theorem f93_22 : fr 93 22 = some (.getfield 5002, 3, [], []) := by decide +kernel
theorem f93_25 : fr 93 25 = some (.iload 3, 1, [], []) := by decide +kernel
theorem f93_26 : fr 93 26 = some (.laload, 1, [], []) := by decide +kernel
theorem f93_27 : fr 93 27 = some (.iload 1, 1, [], []) := by decide +kernel
theorem f93_28 : fr 93 28 = some (.i2l, 1, [], []) := by decide +kernel
theorem f93_29 : fr 93 29 = some (.lcmp, 1, [], []) := by decide +kernel
theorem f93_30 : fr 93 30 = some (.ifCond .gt 36, 3, [], []) := by decide +kernel
theorem f93_33 : fr 93 33 = some (.iinc 2 1, 3, [], []) := by decide +kernel
theorem f93_36 : fr 93 36 = some (.iinc 3 1, 3, [], []) := by decide +kernel
theorem f93_39 : fr 93 39 = some (.goto 4, 3, [], []) := by decide +kernel
theorem f93_42 : fr 93 42 = some (.iload 2, 1, [2], []) := by decide +kernel
theorem f93_43 : fr 93 43 = some (.ireturn, 1, [], []) := by decide +kernel
theorem t93_0 {X : XX} {d : Nat} {sz sl : Nat} {sh : Nat → Nat × Nat} {R : Nat → Nat → Option Nat} {I : Nat → Nat → Int32} {J : Nat → Nat → Int64} {l1 : Int32} : exe X d 93 0 [Value.ref 11, Value.int l1, dm, dm] [] (sz, sl, sh, R, I, J) =
    exe X d 93 4 [Value.ref 11, Value.int l1, Value.int (0), Value.int (0)] [] (sz, sl, sh, R, I, J) :=
  tq ((E_iconst (x := (0)) (by decide) f93_0)) (tq ((E_istore rfl f93_1)) (tq ((E_iconst (x := (0)) (by decide) f93_2)) ((E_istore rfl f93_3))))
theorem t93_4 {X : XX} {d : Nat} {sz sl : Nat} {sh : Nat → Nat × Nat} {R : Nat → Nat → Option Nat} {I : Nat → Nat → Int32} {J : Nat → Nat → Int64} (hS : SF sh R) {l1 : Int32} {l2 : Int32} {l3 : Int32} : exe X d 93 4 [Value.ref 11, Value.int l1, Value.int l2, Value.int l3] [] (sz, sl, sh, R, I, J) =
    (if (I 11 3) ≤ l3 then some (some (Value.int l2), (sz, sl, sh, R, I, J)) else (if (256) ≤ l3 then some (some (Value.int l2), (sz, sl, sh, R, I, J)) else (if inb l3 256 then (if 0 < (lg_cmp (J 14 l3.toNatClampNeg) (Int32.toInt64 l1)) then exe X d 93 4 [Value.ref 11, Value.int l1, Value.int l2, Value.int (l3 + (1))] [] (sz, sl, sh, R, I, J) else exe X d 93 4 [Value.ref 11, Value.int l1, Value.int (l2 + (1)), Value.int (l3 + (1))] [] (sz, sl, sh, R, I, J)) else none))) :=
  tq ((E_iload (x := l3) rfl f93_4)) (tq ((E_aload (v := Value.ref 11) rfl rfl f93_5)) (tq (tq ((G5003 f93_6)) (if_pos (zS11 hS))) (tq ((E_ic_ge f93_9)) (ite_c (tq ((E_iload (x := l2) rfl f93_42)) ((E_iret pr_93 f93_43))) (tq ((E_iload (x := l3) rfl f93_12)) (tq ((E_aload (v := Value.ref 11) rfl rfl f93_13)) (tq (tq ((G5002 f93_14)) (if_pos (zS11 hS))) (tq (exe_R (zR11_2 hS)) (tq (tq (E_len f93_17) (ite_len (m := 256) (A := fun m => exe X d 93 18 [Value.ref 11, Value.int l1, Value.int l2, Value.int l3] (.int (Int32.ofNat m) :: [Value.int l3]) (sz, sl, sh, R, I, J)) (zS14 hS) (by decide))) (tq ((E_ic_ge f93_18)) (ite_c (tq ((E_iload (x := l2) rfl f93_42)) ((E_iret pr_93 f93_43))) (tq ((E_aload (v := Value.ref 11) rfl rfl f93_21)) (tq (tq ((G5002 f93_22)) (if_pos (zS11 hS))) (tq (exe_R (zR11_2 hS)) (tq ((E_iload (x := l3) rfl f93_25)) (tq (tq ((E_lald f93_26)) (ite_ar (zS14 hS))) (ite_c (tq ((E_iload (x := l1) rfl f93_27)) (tq ((E_i2l f93_28)) (tq ((E_lcmp f93_29)) (tq ((E_if_gt f93_30)) (ite_c (tq ((E_iinc (x := l3) (x' := (1)) rfl rfl (by decide) f93_36)) ((E_goto f93_39))) (tq ((E_iinc (x := l2) (x' := (1)) rfl rfl (by decide) f93_33)) (tq ((E_iinc (x := l3) (x' := (1)) rfl rfl (by decide) f93_36)) ((E_goto f93_39))))))))) rfl)))))))))))))))))
theorem n93 {X : XX} {d : Nat} {h : HP} {a0 : Int32} : ev X (d + 1) 93 [Value.ref 11, Value.int a0] h = exe X d 93 0 [Value.ref 11, Value.int a0, dm, dm] [] h := ev_exe (Nat.le_of_ble_eq_true rfl)
theorem f94_0 : fr 94 0 = some (.iconst 0, 1, [], []) := by decide +kernel
theorem f94_1 : fr 94 1 = some (.istore 2, 1, [], []) := by decide +kernel
theorem f94_2 : fr 94 2 = some (.iload 2, 1, [], []) := by decide +kernel
theorem f94_3 : fr 94 3 = some (.aload 0, 1, [], []) := by decide +kernel
theorem f94_4 : fr 94 4 = some (.getfield 5003, 3, [], []) := by decide +kernel
theorem f94_7 : fr 94 7 = some (.if_icmp .ge 39, 3, [], [0, 1, 2]) := by decide +kernel
theorem f94_10 : fr 94 10 = some (.iload 2, 1, [], []) := by decide +kernel
theorem f94_11 : fr 94 11 = some (.aload 0, 1, [], []) := by decide +kernel
theorem f94_12 : fr 94 12 = some (.getfield 5002, 3, [], []) := by decide +kernel
theorem f94_15 : fr 94 15 = some (.arraylength, 1, [], []) := by decide +kernel
theorem f94_16 : fr 94 16 = some (.if_icmp .ge 39, 3, [], [0, 1, 2]) := by decide +kernel
theorem f94_19 : fr 94 19 = some (.aload 0, 1, [], []) := by decide +kernel
theorem f94_20 : fr 94 20 = some (.getfield 5002, 3, [], []) := by decide +kernel
theorem f94_23 : fr 94 23 = some (.iload 2, 1, [], []) := by decide +kernel
theorem f94_24 : fr 94 24 = some (.laload, 1, [], []) := by decide +kernel
theorem f94_25 : fr 94 25 = some (.iload 1, 1, [], []) := by decide +kernel
theorem f94_26 : fr 94 26 = some (.i2l, 1, [], []) := by decide +kernel
theorem f94_27 : fr 94 27 = some (.lcmp, 1, [], []) := by decide +kernel
theorem f94_28 : fr 94 28 = some (.ifCond .gt 33, 3, [0, 1], []) := by decide +kernel
theorem f94_31 : fr 94 31 = some (.iload 2, 1, [2], []) := by decide +kernel
theorem f94_32 : fr 94 32 = some (.ireturn, 1, [], []) := by decide +kernel
theorem f94_33 : fr 94 33 = some (.iinc 2 1, 3, [], []) := by decide +kernel
theorem f94_36 : fr 94 36 = some (.goto 2, 3, [], []) := by decide +kernel
theorem f94_39 : fr 94 39 = some (.iconst (-2), 2, [], []) := by decide +kernel
theorem f94_41 : fr 94 41 = some (.ireturn, 1, [], []) := by decide +kernel
theorem t94_0 {X : XX} {d : Nat} {sz sl : Nat} {sh : Nat → Nat × Nat} {R : Nat → Nat → Option Nat} {I : Nat → Nat → Int32} {J : Nat → Nat → Int64} {l1 : Int32} : exe X d 94 0 [Value.ref 11, Value.int l1, dm] [] (sz, sl, sh, R, I, J) =
    exe X d 94 2 [Value.ref 11, Value.int l1, Value.int (0)] [] (sz, sl, sh, R, I, J) :=
  tq ((E_iconst (x := (0)) (by decide) f94_0)) ((E_istore rfl f94_1))
theorem t94_2 {X : XX} {d : Nat} {sz sl : Nat} {sh : Nat → Nat × Nat} {R : Nat → Nat → Option Nat} {I : Nat → Nat → Int32} {J : Nat → Nat → Int64} (hS : SF sh R) {l1 : Int32} {l2 : Int32} : exe X d 94 2 [Value.ref 11, Value.int l1, Value.int l2] [] (sz, sl, sh, R, I, J) =
    (if (I 11 3) ≤ l2 then some (some (Value.int (-2)), (sz, sl, sh, R, I, J)) else (if (256) ≤ l2 then some (some (Value.int (-2)), (sz, sl, sh, R, I, J)) else (if inb l2 256 then (if 0 < (lg_cmp (J 14 l2.toNatClampNeg) (Int32.toInt64 l1)) then exe X d 94 2 [Value.ref 11, Value.int l1, Value.int (l2 + (1))] [] (sz, sl, sh, R, I, J) else some (some (Value.int l2), (sz, sl, sh, R, I, J))) else none))) :=
  tq ((E_iload (x := l2) rfl f94_2)) (tq ((E_aload (v := Value.ref 11) rfl rfl f94_3)) (tq (tq ((G5003 f94_4)) (if_pos (zS11 hS))) (tq ((E_ic_ge f94_7)) (ite_c (tq ((E_iconst (x := (-2)) (by decide) f94_39)) ((E_iret pr_94 f94_41))) (tq ((E_iload (x := l2) rfl f94_10)) (tq ((E_aload (v := Value.ref 11) rfl rfl f94_11)) (tq (tq ((G5002 f94_12)) (if_pos (zS11 hS))) (tq (exe_R (zR11_2 hS)) (tq (tq (E_len f94_15) (ite_len (m := 256) (A := fun m => exe X d 94 16 [Value.ref 11, Value.int l1, Value.int l2] (.int (Int32.ofNat m) :: [Value.int l2]) (sz, sl, sh, R, I, J)) (zS14 hS) (by decide))) (tq ((E_ic_ge f94_16)) (ite_c (tq ((E_iconst (x := (-2)) (by decide) f94_39)) ((E_iret pr_94 f94_41))) (tq ((E_aload (v := Value.ref 11) rfl rfl f94_19)) (tq (tq ((G5002 f94_20)) (if_pos (zS11 hS))) (tq (exe_R (zR11_2 hS)) (tq ((E_iload (x := l2) rfl f94_23)) (tq (tq ((E_lald f94_24)) (ite_ar (zS14 hS))) (ite_c (tq ((E_iload (x := l1) rfl f94_25)) (tq ((E_i2l f94_26)) (tq ((E_lcmp f94_27)) (tq ((E_if_gt f94_28)) (ite_c (tq ((E_iinc (x := l2) (x' := (1)) rfl rfl (by decide) f94_33)) ((E_goto f94_36))) (tq ((E_iload (x := l2) rfl f94_31)) ((E_iret pr_94 f94_32)))))))) rfl)))))))))))))))))
theorem n94 {X : XX} {d : Nat} {h : HP} {a0 : Int32} : ev X (d + 1) 94 [Value.ref 11, Value.int a0] h = exe X d 94 0 [Value.ref 11, Value.int a0, dm] [] h := ev_exe (Nat.le_of_ble_eq_true rfl)
theorem f95_0 : fr 95 0 = some (.iconst 0, 1, [], []) := by decide +kernel
theorem f95_1 : fr 95 1 = some (.istore 2, 1, [], []) := by decide +kernel
theorem f95_2 : fr 95 2 = some (.iload 0, 1, [0], []) := by decide +kernel
theorem f95_3 : fr 95 3 = some (.istore 3, 1, [], []) := by decide +kernel
theorem f95_4 : fr 95 4 = some (.iconst 0, 1, [], []) := by decide +kernel
theorem f95_5 : fr 95 5 = some (.istore 4, 2, [], []) := by decide +kernel
theorem f95_7 : fr 95 7 = some (.iload 4, 2, [], []) := by decide +kernel
theorem f95_9 : fr 95 9 = some (.iconst 10, 2, [], []) := by decide +kernel
theorem f95_11 : fr 95 11 = some (.if_icmp .ge 43, 3, [], [1, 3, 4]) := by decide +kernel
theorem f95_14 : fr 95 14 = some (.iload 1, 1, [], []) := by decide +kernel
theorem f95_15 : fr 95 15 = some (.iload 4, 2, [], []) := by decide +kernel
theorem f95_17 : fr 95 17 = some (.ishr, 1, [], []) := by decide +kernel
theorem f95_18 : fr 95 18 = some (.iconst 1, 1, [], []) := by decide +kernel
theorem f95_19 : fr 95 19 = some (.iand, 1, [], []) := by decide +kernel
theorem f95_20 : fr 95 20 = some (.iconst 1, 1, [], []) := by decide +kernel
theorem f95_21 : fr 95 21 = some (.if_icmp .ne 37, 3, [], []) := by decide +kernel
theorem f95_24 : fr 95 24 = some (.iload 2, 1, [2], []) := by decide +kernel
theorem f95_25 : fr 95 25 = some (.iload 3, 1, [], []) := by decide +kernel
theorem f95_26 : fr 95 26 = some (.iconst 1, 1, [], []) := by decide +kernel
theorem f95_27 : fr 95 27 = some (.iand, 1, [], []) := by decide +kernel
theorem f95_28 : fr 95 28 = some (.iload 4, 2, [], []) := by decide +kernel
theorem f95_30 : fr 95 30 = some (.ishl, 1, [], []) := by decide +kernel
theorem f95_31 : fr 95 31 = some (.ior, 1, [], []) := by decide +kernel
theorem f95_32 : fr 95 32 = some (.istore 2, 1, [], []) := by decide +kernel
theorem f95_33 : fr 95 33 = some (.iload 3, 1, [3], []) := by decide +kernel
theorem f95_34 : fr 95 34 = some (.iconst 1, 1, [], []) := by decide +kernel
theorem f95_35 : fr 95 35 = some (.ishr, 1, [], []) := by decide +kernel
theorem f95_36 : fr 95 36 = some (.istore 3, 1, [], []) := by decide +kernel
theorem f95_37 : fr 95 37 = some (.iinc 4 1, 3, [], []) := by decide +kernel
theorem f95_40 : fr 95 40 = some (.goto 7, 3, [], []) := by decide +kernel
theorem f95_43 : fr 95 43 = some (.iload 2, 1, [2], []) := by decide +kernel
theorem f95_44 : fr 95 44 = some (.ireturn, 1, [], []) := by decide +kernel
theorem t95_0 {X : XX} {d : Nat} {sz sl : Nat} {sh : Nat → Nat × Nat} {R : Nat → Nat → Option Nat} {I : Nat → Nat → Int32} {J : Nat → Nat → Int64} {l0 : Int32} {l1 : Int32} : exe X d 95 0 [Value.int l0, Value.int l1, dm, dm, dm] [] (sz, sl, sh, R, I, J) =
    exe X d 95 7 [dm, Value.int l1, Value.int (0), Value.int l0, Value.int (0)] [] (sz, sl, sh, R, I, J) :=
  tq ((E_iconst (x := (0)) (by decide) f95_0)) (tq ((E_istore rfl f95_1)) (tq ((E_iload (x := l0) rfl f95_2)) (tq ((E_istore rfl f95_3)) (tq ((E_iconst (x := (0)) (by decide) f95_4)) ((E_istore rfl f95_5))))))
theorem t95_7 {X : XX} {d : Nat} {sz sl : Nat} {sh : Nat → Nat × Nat} {R : Nat → Nat → Option Nat} {I : Nat → Nat → Int32} {J : Nat → Nat → Int64} {l1 : Int32} {l2 : Int32} {l3 : Int32} {l4 : Int32} : exe X d 95 7 [dm, Value.int l1, Value.int l2, Value.int l3, Value.int l4] [] (sz, sl, sh, R, I, J) =
    (if (10) ≤ l4 then some (some (Value.int l2), (sz, sl, sh, R, I, J)) else (if ¬ ((l1 >>> (l4 &&& 31)) &&& (1)) = (1) then exe X d 95 7 [dm, Value.int l1, Value.int l2, Value.int l3, Value.int (l4 + (1))] [] (sz, sl, sh, R, I, J) else exe X d 95 7 [dm, Value.int l1, Value.int (l2 ||| ((l3 &&& (1)) <<< (l4 &&& 31))), Value.int (l3 >>> ((1) &&& 31)), Value.int (l4 + (1))] [] (sz, sl, sh, R, I, J))) :=
  tq ((E_iload (x := l4) rfl f95_7)) (tq ((E_iconst (x := (10)) (by decide) f95_9)) (tq ((E_ic_ge f95_11)) (ite_c (tq ((E_iload (x := l2) rfl f95_43)) ((E_iret pr_95 f95_44))) (tq ((E_iload (x := l1) rfl f95_14)) (tq ((E_iload (x := l4) rfl f95_15)) (tq ((E_ishr f95_17)) (tq ((E_iconst (x := (1)) (by decide) f95_18)) (tq ((E_iand f95_19)) (tq ((E_iconst (x := (1)) (by decide) f95_20)) (tq ((E_ic_ne f95_21)) (ite_c (tq ((E_iinc (x := l4) (x' := (1)) rfl rfl (by decide) f95_37)) ((E_goto f95_40))) (tq ((E_iload (x := l2) rfl f95_24)) (tq ((E_iload (x := l3) rfl f95_25)) (tq ((E_iconst (x := (1)) (by decide) f95_26)) (tq ((E_iand f95_27)) (tq ((E_iload (x := l4) rfl f95_28)) (tq ((E_ishl f95_30)) (tq ((E_ior f95_31)) (tq ((E_istore rfl f95_32)) (tq ((E_iload (x := l3) rfl f95_33)) (tq ((E_iconst (x := (1)) (by decide) f95_34)) (tq ((E_ishr f95_35)) (tq ((E_istore rfl f95_36)) (tq ((E_iinc (x := l4) (x' := (1)) rfl rfl (by decide) f95_37)) ((E_goto f95_40))))))))))))))))))))))))))
theorem n95 {X : XX} {d : Nat} {h : HP} {a0 : Int32} {a1 : Int32} : ev X (d + 1) 95 [Value.int a0, Value.int a1] h = exe X d 95 0 [Value.int a0, Value.int a1, dm, dm, dm] [] h := ev_exe (Nat.le_of_ble_eq_true rfl)
theorem f96_0 : fr 96 0 = some (.aload 0, 1, [], []) := by decide +kernel
theorem f96_1 : fr 96 1 = some (.iload 1, 1, [1], []) := by decide +kernel
theorem f96_2 : fr 96 2 = some (.invokevirtual 57, 3, [], []) := by decide +kernel
theorem f96_5 : fr 96 5 = some (.astore 4, 2, [], []) := by decide +kernel
theorem f96_7 : fr 96 7 = some (.aload 4, 2, [], []) := by decide +kernel
theorem f96_9 : fr 96 9 = some (.ifnull 29, 3, [], [0, 2, 3, 4]) := by decide +kernel
theorem f96_12 : fr 96 12 = some (.aload 0, 1, [], []) := by decide +kernel
theorem f96_13 : fr 96 13 = some (.iload 2, 1, [], []) := by decide +kernel
theorem f96_14 : fr 96 14 = some (.invokevirtual 65, 3, [], []) := by decide +kernel
theorem f96_17 : fr 96 17 = some (.ifCond .eq 29, 3, [], [0, 2, 3, 4]) := by decide +kernel
theorem f96_20 : fr 96 20 = some (.iload 3, 1, [], []) := by decide +kernel
theorem f96_21 : fr 96 21 = some (.iconst 0, 1, [], []) := by decide +kernel
theorem f96_22 : fr 96 22 = some (.iconst 1, 1, [], []) := by decide +kernel
theorem f96_23 : fr 96 23 = some (.invokestatic 10, 3, [], []) := by decide +kernel
theorem f96_26 : fr 96 26 = some (.ifCond .ne 31, 3, [0, 2, 3, 4], []) := by decide +kernel
theorem f96_29 : fr 96 29 = some (.iconst (-1), 1, [], []) := by decide +kernel
theorem f96_30 : fr 96 30 = some (.ireturn, 1, [], []) := by decide +kernel
theorem f96_31 : fr 96 31 = some (.iload 2, 1, [], []) := by decide +kernel
theorem f96_32 : fr 96 32 = some (.invokestatic 86, 3, [], []) := by decide +kernel
theorem f96_35 : fr 96 35 = some (.iconst 8, 2, [], []) := by decide +kernel
theorem f96_37 : fr 96 37 = some (.if_icmp .le 43, 3, [0, 2, 3, 4], []) := by decide +kernel
theorem f96_40 : fr 96 40 = some (.iconst (-4), 2, [], []) := by decide +kernel
theorem f96_42 : fr 96 42 = some (.ireturn, 1, [], []) := by decide +kernel
theorem f96_43 : fr 96 43 = some (.aload 0, 1, [], []) := by decide +kernel
theorem f96_44 : fr 96 44 = some (.aload 4, 2, [4], []) := by decide +kernel
theorem f96_46 : fr 96 46 = some (.iload 2, 1, [], []) := by decide +kernel
theorem f96_47 : fr 96 47 = some (.invokevirtual 87, 3, [], []) := by decide +kernel
theorem f96_50 : fr 96 50 = some (.ifCond .ne 56, 3, [0, 2, 3], []) := by decide +kernel
theorem f96_53 : fr 96 53 = some (.iconst (-2), 2, [], []) := by decide +kernel
theorem f96_55 : fr 96 55 = some (.ireturn, 1, [], []) := by decide +kernel
theorem f96_56 : fr 96 56 = some (.aload 0, 1, [], []) := by decide +kernel
theorem f96_57 : fr 96 57 = some (.getfield 8, 3, [], []) := by decide +kernel
theorem f96_60 : fr 96 60 = some (.invokevirtual 97, 3, [], []) := by decide +kernel
theorem f96_63 : fr 96 63 = some (.istore 5, 2, [], []) := by decide +kernel
theorem f96_65 : fr 96 65 = some (.iload 3, 1, [3], []) := by decide +kernel
theorem f96_66 : fr 96 66 = some (.ifCond .ne 78, 3, [0], [2]) := by decide +kernel
theorem f96_69 : fr 96 69 = some (.iload 5, 2, [5], []) := by decide +kernel
theorem f96_71 : fr 96 71 = some (.iload 2, 1, [2], []) := by decide +kernel
theorem f96_72 : fr 96 72 = some (.invokestatic 95, 3, [], []) := by decide +kernel
theorem f96_75 : fr 96 75 = some (.goto 90, 3, [], []) := by decide +kernel
theorem f96_78 : fr 96 78 = some (.aload 0, 1, [0], []) := by decide +kernel
theorem f96_79 : fr 96 79 = some (.getfield 8, 3, [], []) := by decide +kernel
theorem f96_82 : fr 96 82 = some (.iload 5, 2, [5], []) := by decide +kernel
theorem f96_84 : fr 96 84 = some (.invokevirtual 98, 3, [], []) := by decide +kernel
theorem f96_87 : fr 96 87 = some (.invokestatic 68, 3, [], []) := by decide +kernel
theorem f96_90 : fr 96 90 = some (.ireturn, 1, [], []) := by decide +kernel
theorem t96_0 {X : XX} {d : Nat} {sz sl : Nat} {sh : Nat → Nat × Nat} {R : Nat → Nat → Option Nat} {I : Nat → Nat → Int32} {J : Nat → Nat → Int64} (hS : SF sh R) {l1 : Int32} {l2 : Int32} {l3 : Int32} : exe X d 96 0 [Value.ref 0, Value.int l1, Value.int l2, Value.int l3, dm, dm] [] (sz, sl, sh, R, I, J) =
    ((ev X d 57 [Value.ref 0, Value.int l1] (sz, sl, sh, R, I, J)).bind fun q => exe X d 96 5 [Value.ref 0, dm, Value.int l2, Value.int l3, dm, dm] (q.1.toList ++ []) q.2) :=
  tq ((E_aload (v := Value.ref 0) rfl rfl f96_0)) (tq ((E_iload (x := l1) rfl f96_1)) ((tq ((E_callV pn_57 pc_57 rfl rfl (Nat.le_of_ble_eq_true rfl) f96_2)) (if_pos (zS0 hS)))))
theorem t96_5 {X : XX} {d : Nat} {sz sl : Nat} {sh : Nat → Nat × Nat} {R : Nat → Nat → Option Nat} {I : Nat → Nat → Int32} {J : Nat → Nat → Int64} (hS : SF sh R) {l2 : Int32} {l3 : Int32} {s0 : Value} (k0 : isB s0 = true) : exe X d 96 5 [Value.ref 0, dm, Value.int l2, Value.int l3, dm, dm] [s0] (sz, sl, sh, R, I, J) =
    (nn (s0) (some (some (Value.int (-1)), (sz, sl, sh, R, I, J))) (((ev X d 65 [Value.ref 0, Value.int l2] (sz, sl, sh, R, I, J)).bind fun q => exe X d 96 17 [Value.ref 0, dm, Value.int l2, Value.int l3, s0, dm] (q.1.toList ++ []) q.2))) :=
  tq ((E_astore k0 rfl f96_5)) (tq ((E_aload (v := s0) rfl (isBA k0) f96_7)) (tq ((E_ifnull f96_9)) (nn_c (tq ((E_iconst (x := (-1)) (by decide) f96_29)) ((E_iret pr_96 f96_30))) (tq ((E_aload (v := Value.ref 0) rfl rfl f96_12)) (tq ((E_iload (x := l2) rfl f96_13)) ((tq ((E_callV pn_65 pc_65 rfl rfl (Nat.le_of_ble_eq_true rfl) f96_14)) (if_pos (zS0 hS)))))))))
theorem t96_17 {X : XX} {d : Nat} {sz sl : Nat} {sh : Nat → Nat × Nat} {R : Nat → Nat → Option Nat} {I : Nat → Nat → Int32} {J : Nat → Nat → Int64} {l2 : Int32} {l3 : Int32} {l4 : Value} (h4 : isB l4 = true) {s0 : Int32} : exe X d 96 17 [Value.ref 0, dm, Value.int l2, Value.int l3, l4, dm] [Value.int s0] (sz, sl, sh, R, I, J) =
    (if s0 = 0 then some (some (Value.int (-1)), (sz, sl, sh, R, I, J)) else ((ev X d 10 [Value.int l3, Value.int (0), Value.int (1)] (sz, sl, sh, R, I, J)).bind fun q => exe X d 96 26 [Value.ref 0, dm, Value.int l2, Value.int l3, l4, dm] (q.1.toList ++ []) q.2)) :=
  tq ((E_if_eq f96_17)) (ite_c (tq ((E_iconst (x := (-1)) (by decide) f96_29)) ((E_iret pr_96 f96_30))) (tq ((E_iload (x := l3) rfl f96_20)) (tq ((E_iconst (x := (0)) (by decide) f96_21)) (tq ((E_iconst (x := (1)) (by decide) f96_22)) ((E_callS pn_10 rfl rfl (Nat.le_of_ble_eq_true rfl) (Nat.le_of_ble_eq_true rfl) f96_23))))))
theorem t96_26 {X : XX} {d : Nat} {sz sl : Nat} {sh : Nat → Nat × Nat} {R : Nat → Nat → Option Nat} {I : Nat → Nat → Int32} {J : Nat → Nat → Int64} {l2 : Int32} {l3 : Int32} {l4 : Value} (h4 : isB l4 = true) {s0 : Int32} : exe X d 96 26 [Value.ref 0, dm, Value.int l2, Value.int l3, l4, dm] [Value.int s0] (sz, sl, sh, R, I, J) =
    (if ¬ s0 = 0 then ((ev X d 86 [Value.int l2] (sz, sl, sh, R, I, J)).bind fun q => exe X d 96 35 [Value.ref 0, dm, Value.int l2, Value.int l3, l4, dm] (q.1.toList ++ []) q.2) else some (some (Value.int (-1)), (sz, sl, sh, R, I, J))) :=
  tq ((E_if_ne f96_26)) (ite_c (tq ((E_iload (x := l2) rfl f96_31)) ((E_callS pn_86 rfl rfl (Nat.le_of_ble_eq_true rfl) (Nat.le_of_ble_eq_true rfl) f96_32))) (tq ((E_iconst (x := (-1)) (by decide) f96_29)) ((E_iret pr_96 f96_30))))
theorem t96_35 {X : XX} {d : Nat} {sz sl : Nat} {sh : Nat → Nat × Nat} {R : Nat → Nat → Option Nat} {I : Nat → Nat → Int32} {J : Nat → Nat → Int64} (hS : SF sh R) {l2 : Int32} {l3 : Int32} {l4 : Value} (h4 : isB l4 = true) {s0 : Int32} : exe X d 96 35 [Value.ref 0, dm, Value.int l2, Value.int l3, l4, dm] [Value.int s0] (sz, sl, sh, R, I, J) =
    (if s0 ≤ (8) then ((ev X d 87 [Value.ref 0, l4, Value.int l2] (sz, sl, sh, R, I, J)).bind fun q => exe X d 96 50 [Value.ref 0, dm, Value.int l2, Value.int l3, dm, dm] (q.1.toList ++ []) q.2) else some (some (Value.int (-4)), (sz, sl, sh, R, I, J))) :=
  tq ((E_iconst (x := (8)) (by decide) f96_35)) (tq ((E_ic_le f96_37)) (ite_c (tq ((E_aload (v := Value.ref 0) rfl rfl f96_43)) (tq ((E_aload (v := l4) rfl (isBA h4) f96_44)) (tq ((E_iload (x := l2) rfl f96_46)) ((tq ((E_callV pn_87 pc_87 rfl rfl (Nat.le_of_ble_eq_true rfl) f96_47)) (if_pos (zS0 hS))))))) (tq ((E_iconst (x := (-4)) (by decide) f96_40)) ((E_iret pr_96 f96_42)))))
theorem t96_50 {X : XX} {d : Nat} {sz sl : Nat} {sh : Nat → Nat × Nat} {R : Nat → Nat → Option Nat} {I : Nat → Nat → Int32} {J : Nat → Nat → Int64} (hS : SF sh R) {l2 : Int32} {l3 : Int32} {s0 : Int32} : exe X d 96 50 [Value.ref 0, dm, Value.int l2, Value.int l3, dm, dm] [Value.int s0] (sz, sl, sh, R, I, J) =
    (if ¬ s0 = 0 then ((ev X d 97 [Value.ref 11] (sz, sl, sh, R, I, J)).bind fun q => exe X d 96 63 [Value.ref 0, dm, Value.int l2, Value.int l3, dm, dm] (q.1.toList ++ []) q.2) else some (some (Value.int (-2)), (sz, sl, sh, R, I, J))) :=
  tq ((E_if_ne f96_50)) (ite_c (tq ((E_aload (v := Value.ref 0) rfl rfl f96_56)) (tq (tq ((G8 f96_57)) (if_pos (zS0 hS))) (tq (exe_R (zR0_8 hS)) ((tq ((E_callV pn_97 pc_97 rfl rfl (Nat.le_of_ble_eq_true rfl) f96_60)) (if_pos (zS11 hS))))))) (tq ((E_iconst (x := (-2)) (by decide) f96_53)) ((E_iret pr_96 f96_55))))
theorem t96_63 {X : XX} {d : Nat} {sz sl : Nat} {sh : Nat → Nat × Nat} {R : Nat → Nat → Option Nat} {I : Nat → Nat → Int32} {J : Nat → Nat → Int64} (hS : SF sh R) {l2 : Int32} {l3 : Int32} {s0 : Int32} : exe X d 96 63 [Value.ref 0, dm, Value.int l2, Value.int l3, dm, dm] [Value.int s0] (sz, sl, sh, R, I, J) =
    (if ¬ l3 = 0 then ((ev X d 98 [Value.ref 11, Value.int s0] (sz, sl, sh, R, I, J)).bind fun q => exe X d 96 87 [dm, dm, dm, dm, dm, dm] (q.1.toList ++ []) q.2) else ((ev X d 95 [Value.int s0, Value.int l2] (sz, sl, sh, R, I, J)).bind fun q => exe X d 96 75 [dm, dm, dm, dm, dm, dm] (q.1.toList ++ []) q.2)) :=
  tq ((E_istore rfl f96_63)) (tq ((E_iload (x := l3) rfl f96_65)) (tq ((E_if_ne f96_66)) (ite_c (tq ((E_aload (v := Value.ref 0) rfl rfl f96_78)) (tq (tq ((G8 f96_79)) (if_pos (zS0 hS))) (tq (exe_R (zR0_8 hS)) (tq ((E_iload (x := s0) rfl f96_82)) ((tq ((E_callV pn_98 pc_98 rfl rfl (Nat.le_of_ble_eq_true rfl) f96_84)) (if_pos (zS11 hS)))))))) (tq ((E_iload (x := s0) rfl f96_69)) (tq ((E_iload (x := l2) rfl f96_71)) ((E_callS pn_95 rfl rfl (Nat.le_of_ble_eq_true rfl) (Nat.le_of_ble_eq_true rfl) f96_72)))))))
theorem t96_75 {X : XX} {d : Nat} {sz sl : Nat} {sh : Nat → Nat × Nat} {R : Nat → Nat → Option Nat} {I : Nat → Nat → Int32} {J : Nat → Nat → Int64} {s0 : Int32} : exe X d 96 75 [dm, dm, dm, dm, dm, dm] [Value.int s0] (sz, sl, sh, R, I, J) =
    exe X d 96 90 [dm, dm, dm, dm, dm, dm] [Value.int s0] (sz, sl, sh, R, I, J) :=
  (E_goto f96_75)
theorem t96_87 {X : XX} {d : Nat} {sz sl : Nat} {sh : Nat → Nat × Nat} {R : Nat → Nat → Option Nat} {I : Nat → Nat → Int32} {J : Nat → Nat → Int64} {s0 : Int64} : exe X d 96 87 [dm, dm, dm, dm, dm, dm] [Value.long s0] (sz, sl, sh, R, I, J) =
    ((ev X d 68 [Value.long s0] (sz, sl, sh, R, I, J)).bind fun q => exe X d 96 90 [dm, dm, dm, dm, dm, dm] (q.1.toList ++ []) q.2) :=
  (E_callS pn_68 rfl rfl (Nat.le_of_ble_eq_true rfl) (Nat.le_of_ble_eq_true rfl) f96_87)
theorem t96_90 {X : XX} {d : Nat} {sz sl : Nat} {sh : Nat → Nat × Nat} {R : Nat → Nat → Option Nat} {I : Nat → Nat → Int32} {J : Nat → Nat → Int64} {s0 : Int32} : exe X d 96 90 [dm, dm, dm, dm, dm, dm] [Value.int s0] (sz, sl, sh, R, I, J) =
    some (some (Value.int s0), (sz, sl, sh, R, I, J)) :=
  (E_iret pr_96 f96_90)
theorem n96 {X : XX} {d : Nat} {h : HP} {a0 : Int32} {a1 : Int32} {a2 : Int32} : ev X (d + 1) 96 [Value.ref 0, Value.int a0, Value.int a1, Value.int a2] h = exe X d 96 0 [Value.ref 0, Value.int a0, Value.int a1, Value.int a2, dm, dm] [] h := ev_exe (Nat.le_of_ble_eq_true rfl)
theorem f97_0 : fr 97 0 = some (.iconst 0, 1, [], []) := by decide +kernel
theorem f97_1 : fr 97 1 = some (.istore 1, 1, [], []) := by decide +kernel
theorem f97_2 : fr 97 2 = some (.iconst 1, 1, [], []) := by decide +kernel
theorem f97_3 : fr 97 3 = some (.istore 2, 1, [], []) := by decide +kernel
theorem f97_4 : fr 97 4 = some (.iload 2, 1, [], []) := by decide +kernel
theorem f97_5 : fr 97 5 = some (.aload 0, 1, [], []) := by decide +kernel
theorem f97_6 : fr 97 6 = some (.getfield 5003, 3, [], []) := by decide +kernel
theorem f97_9 : fr 97 9 = some (.if_icmp .ge 45, 3, [], [0, 2]) := by decide +kernel
theorem f97_12 : fr 97 12 = some (.iload 2, 1, [], []) := by decide +kernel
theorem f97_13 : fr 97 13 = some (.aload 0, 1, [], []) := by decide +kernel
theorem f97_14 : fr 97 14 = some (.getfield 5001, 3, [], []) := by decide +kernel
theorem f97_17 : fr 97 17 = some (.arraylength, 1, [], []) := by decide +kernel
theorem f97_18 : fr 97 18 = some (.if_icmp .ge 45, 3, [], [0, 2]) := by decide +kernel
theorem f97_21 : fr 97 21 = some (.aload 0, 1, [], []) := by decide +kernel
theorem f97_22 : fr 97 22 = some (.getfield 5001, 3, [], []) := by decide +kernel
theorem f97_25 : fr 97 25 = some (.iload 2, 1, [], []) := by decide +kernel
theorem f97_26 : fr 97 26 = some (.laload, 1, [], []) := by decide +kernel
theorem f97_27 : fr 97 27 = some (.aload 0, 1, [], []) := by decide +kernel
theorem f97_28 : fr 97 28 = some (.getfield 5001, 3, [], []) := by decide +kernel
theorem f97_31 : fr 97 31 = some (.iload 1, 1, [], []) := by decide +kernel
theorem f97_32 : fr 97 32 = some (.laload, 1, [], []) := by decide +kernel
theorem f97_33 : fr 97 33 = some (.lcmp, 1, [], []) := by decide +kernel
theorem f97_34 : fr 97 34 = some (.ifCond .ge 39, 3, [1], []) := by decide +kernel
theorem f97_37 : fr 97 37 = some (.iload 2, 1, [], []) := by decide +kernel
theorem f97_38 : fr 97 38 = some (.istore 1, 1, [], []) := by decide +kernel
theorem f97_39 : fr 97 39 = some (.iinc 2 1, 3, [], []) := by decide +kernel
theorem f97_42 : fr 97 42 = some (.goto 4, 3, [], []) := by decide +kernel
theorem f97_45 : fr 97 45 = some (.iload 1, 1, [1], []) := by decide +kernel
theorem f97_46 : fr 97 46 = some (.ireturn, 1, [], []) := by decide +kernel
theorem t97_0 {X : XX} {d : Nat} {sz sl : Nat} {sh : Nat → Nat × Nat} {R : Nat → Nat → Option Nat} {I : Nat → Nat → Int32} {J : Nat → Nat → Int64}  : exe X d 97 0 [Value.ref 11, dm, dm] [] (sz, sl, sh, R, I, J) =
    exe X d 97 4 [Value.ref 11, Value.int (0), Value.int (1)] [] (sz, sl, sh, R, I, J) :=
  tq ((E_iconst (x := (0)) (by decide) f97_0)) (tq ((E_istore rfl f97_1)) (tq ((E_iconst (x := (1)) (by decide) f97_2)) ((E_istore rfl f97_3))))
theorem t97_4 {X : XX} {d : Nat} {sz sl : Nat} {sh : Nat → Nat × Nat} {R : Nat → Nat → Option Nat} {I : Nat → Nat → Int32} {J : Nat → Nat → Int64} (hS : SF sh R) {l1 : Int32} {l2 : Int32} : exe X d 97 4 [Value.ref 11, Value.int l1, Value.int l2] [] (sz, sl, sh, R, I, J) =
    (if (I 11 3) ≤ l2 then some (some (Value.int l1), (sz, sl, sh, R, I, J)) else (if (256) ≤ l2 then some (some (Value.int l1), (sz, sl, sh, R, I, J)) else (if inb l2 256 then (if inb l1 256 then (if 0 ≤ (lg_cmp (J 13 l2.toNatClampNeg) (J 13 l1.toNatClampNeg)) then exe X d 97 4 [Value.ref 11, Value.int l1, Value.int (l2 + (1))] [] (sz, sl, sh, R, I, J) else exe X d 97 4 [Value.ref 11, Value.int l2, Value.int (l2 + (1))] [] (sz, sl, sh, R, I, J)) else none) else none))) :=
  tq ((E_iload (x := l2) rfl f97_4)) (tq ((E_aload (v := Value.ref 11) rfl rfl f97_5)) (tq (tq ((G5003 f97_6)) (if_pos (zS11 hS))) (tq ((E_ic_ge f97_9)) (ite_c (tq ((E_iload (x := l1) rfl f97_45)) ((E_iret pr_97 f97_46))) (tq ((E_iload (x := l2) rfl f97_12)) (tq ((E_aload (v := Value.ref 11) rfl rfl f97_13)) (tq (tq ((G5001 f97_14)) (if_pos (zS11 hS))) (tq (exe_R (zR11_1 hS)) (tq (tq (E_len f97_17) (ite_len (m := 256) (A := fun m => exe X d 97 18 [Value.ref 11, Value.int l1, Value.int l2] (.int (Int32.ofNat m) :: [Value.int l2]) (sz, sl, sh, R, I, J)) (zS13 hS) (by decide))) (tq ((E_ic_ge f97_18)) (ite_c (tq ((E_iload (x := l1) rfl f97_45)) ((E_iret pr_97 f97_46))) (tq ((E_aload (v := Value.ref 11) rfl rfl f97_21)) (tq (tq ((G5001 f97_22)) (if_pos (zS11 hS))) (tq (exe_R (zR11_1 hS)) (tq ((E_iload (x := l2) rfl f97_25)) (tq (tq ((E_lald f97_26)) (ite_ar (zS13 hS))) (ite_c (tq ((E_aload (v := Value.ref 11) rfl rfl f97_27)) (tq (tq ((G5001 f97_28)) (if_pos (zS11 hS))) (tq (exe_R (zR11_1 hS)) (tq ((E_iload (x := l1) rfl f97_31)) (tq (tq ((E_lald f97_32)) (ite_ar (zS13 hS))) (ite_c (tq ((E_lcmp f97_33)) (tq ((E_if_ge f97_34)) (ite_c (tq ((E_iinc (x := l2) (x' := (1)) rfl rfl (by decide) f97_39)) ((E_goto f97_42))) (tq ((E_iload (x := l2) rfl f97_37)) (tq ((E_istore rfl f97_38)) (tq ((E_iinc (x := l2) (x' := (1)) rfl rfl (by decide) f97_39)) ((E_goto f97_42)))))))) rfl)))))) rfl)))))))))))))))))
theorem n97 {X : XX} {d : Nat} {h : HP}  : ev X (d + 1) 97 [Value.ref 11] h = exe X d 97 0 [Value.ref 11, dm, dm] [] h := ev_exe (Nat.le_of_ble_eq_true rfl)
theorem f98_0 : fr 98 0 = some (.iload 1, 1, [], []) := by decide +kernel
theorem f98_1 : fr 98 1 = some (.ifCond .lt 22, 3, [], [0, 1]) := by decide +kernel
theorem f98_4 : fr 98 4 = some (.iload 1, 1, [], []) := by decide +kernel
theorem f98_5 : fr 98 5 = some (.aload 0, 1, [], []) := by decide +kernel
theorem f98_6 : fr 98 6 = some (.getfield 5001, 3, [], []) := by decide +kernel
theorem f98_9 : fr 98 9 = some (.arraylength, 1, [], []) := by decide +kernel
theorem f98_10 : fr 98 10 = some (.if_icmp .ge 22, 3, [], [0, 1]) := by decide +kernel
theorem f98_13 : fr 98 13 = some (.aload 0, 1, [0], []) := by decide +kernel
theorem f98_14 : fr 98 14 = some (.getfield 5001, 3, [], []) := by decide +kernel
theorem f98_17 : fr 98 17 = some (.iload 1, 1, [1], []) := by decide +kernel
theorem f98_18 : fr 98 18 = some (.laload, 1, [], []) := by decide +kernel
theorem f98_19 : fr 98 19 = some (.goto 23, 3, [], []) := by decide +kernel
theorem f98_22 : fr 98 22 = some (.jsr_w 0, 1, [], []) := by decide +kernel
theorem f98_23 : fr 98 23 = some (.lreturn, 1, [], []) := by decide +kernel
theorem t98_0 {X : XX} {d : Nat} {sz sl : Nat} {sh : Nat → Nat × Nat} {R : Nat → Nat → Option Nat} {I : Nat → Nat → Int32} {J : Nat → Nat → Int64} (hS : SF sh R) {l1 : Int32} : exe X d 98 0 [Value.ref 11, Value.int l1] [] (sz, sl, sh, R, I, J) =
    (if l1 < 0 then some (some (Value.long (0)), (sz, sl, sh, R, I, J)) else (if (256) ≤ l1 then some (some (Value.long (0)), (sz, sl, sh, R, I, J)) else (if inb l1 256 then some (some (Value.long (J 13 l1.toNatClampNeg)), (sz, sl, sh, R, I, J)) else none))) :=
  tq ((E_iload (x := l1) rfl f98_0)) (tq ((E_if_lt f98_1)) (ite_c (tq ((E_lconst (x := (0)) (by decide) f98_22)) ((E_lret pr_98 f98_23))) (tq ((E_iload (x := l1) rfl f98_4)) (tq ((E_aload (v := Value.ref 11) rfl rfl f98_5)) (tq (tq ((G5001 f98_6)) (if_pos (zS11 hS))) (tq (exe_R (zR11_1 hS)) (tq (tq (E_len f98_9) (ite_len (m := 256) (A := fun m => exe X d 98 10 [Value.ref 11, Value.int l1] (.int (Int32.ofNat m) :: [Value.int l1]) (sz, sl, sh, R, I, J)) (zS13 hS) (by decide))) (tq ((E_ic_ge f98_10)) (ite_c (tq ((E_lconst (x := (0)) (by decide) f98_22)) ((E_lret pr_98 f98_23))) (tq ((E_aload (v := Value.ref 11) rfl rfl f98_13)) (tq (tq ((G5001 f98_14)) (if_pos (zS11 hS))) (tq (exe_R (zR11_1 hS)) (tq ((E_iload (x := l1) rfl f98_17)) (tq (tq ((E_lald f98_18)) (ite_ar (zS13 hS))) (ite_c (tq ((E_goto f98_19)) ((E_lret pr_98 f98_23))) rfl)))))))))))))))
theorem n98 {X : XX} {d : Nat} {h : HP} {a0 : Int32} : ev X (d + 1) 98 [Value.ref 11, Value.int a0] h = exe X d 98 0 [Value.ref 11, Value.int a0] [] h := ev_exe (Nat.le_of_ble_eq_true rfl)
theorem f99_0 : fr 99 0 = some (.aload 0, 1, [], []) := by decide +kernel
theorem f99_1 : fr 99 1 = some (.iload 1, 1, [1], []) := by decide +kernel
theorem f99_2 : fr 99 2 = some (.invokevirtual 57, 3, [], []) := by decide +kernel
theorem f99_5 : fr 99 5 = some (.astore 4, 2, [], []) := by decide +kernel
theorem f99_7 : fr 99 7 = some (.aload 4, 2, [], []) := by decide +kernel
theorem f99_9 : fr 99 9 = some (.ifnull 28, 3, [], [0, 2, 3, 4]) := by decide +kernel
theorem f99_12 : fr 99 12 = some (.aload 0, 1, [], []) := by decide +kernel
theorem f99_13 : fr 99 13 = some (.iload 2, 1, [], []) := by decide +kernel
theorem f99_14 : fr 99 14 = some (.invokevirtual 65, 3, [], []) := by decide +kernel
theorem f99_17 : fr 99 17 = some (.ifCond .eq 28, 3, [], [0, 2, 3, 4]) := by decide +kernel
theorem f99_20 : fr 99 20 = some (.aload 0, 1, [], []) := by decide +kernel
theorem f99_21 : fr 99 21 = some (.iload 3, 1, [], []) := by decide +kernel
theorem f99_22 : fr 99 22 = some (.invokevirtual 65, 3, [], []) := by decide +kernel
theorem f99_25 : fr 99 25 = some (.ifCond .ne 30, 3, [0, 2, 3, 4], []) := by decide +kernel
theorem f99_28 : fr 99 28 = some (.iconst (-1), 1, [], []) := by decide +kernel
theorem f99_29 : fr 99 29 = some (.ireturn, 1, [], []) := by decide +kernel
theorem f99_30 : fr 99 30 = some (.iconst (-2), 2, [], []) := by decide +kernel
theorem f99_32 : fr 99 32 = some (.istore 5, 2, [], []) := by decide +kernel
theorem f99_34 : fr 99 34 = some (.jsr_w 0, 1, [], []) := by decide +kernel
theorem f99_35 : fr 99 35 = some (.lstore 6, 2, [], []) := by decide +kernel
theorem f99_37 : fr 99 37 = some (.iconst 0, 1, [], []) := by decide +kernel
theorem f99_38 : fr 99 38 = some (.istore 8, 2, [], []) := by decide +kernel
theorem f99_40 : fr 99 40 = some (.iload 8, 2, [], []) := by decide +kernel
theorem f99_42 : fr 99 42 = some (.aload 0, 1, [], []) := by decide +kernel
theorem f99_43 : fr 99 43 = some (.getfield 1, 3, [], []) := by decide +kernel
theorem f99_46 : fr 99 46 = some (.if_icmp .ge 104, 3, [], [0, 2, 3, 4, 6, 8]) := by decide +kernel
theorem f99_49 : fr 99 49 = some (.aload 0, 1, [], []) := by decide +kernel
theorem f99_50 : fr 99 50 = some (.iload 8, 2, [], []) := by decide +kernel
theorem f99_52 : fr 99 52 = some (.invokevirtual 12, 3, [], []) := by decide +kernel
theorem f99_55 : fr 99 55 = some (.astore 9, 2, [], []) := by decide +kernel
theorem f99_57 : fr 99 57 = some (.aload 9, 2, [], []) := by decide +kernel
theorem f99_59 : fr 99 59 = some (.ifnull 98, 3, [], [9]) := by decide +kernel
theorem f99_62 : fr 99 62 = some (.aload 9, 2, [], []) := by decide +kernel
theorem f99_64 : fr 99 64 = some (.invokevirtual 83, 3, [], []) := by decide +kernel
theorem f99_67 : fr 99 67 = some (.ifCond .ne 98, 3, [], [9]) := by decide +kernel
theorem f99_70 : fr 99 70 = some (.aload 0, 1, [], []) := by decide +kernel
theorem f99_71 : fr 99 71 = some (.aload 4, 2, [], []) := by decide +kernel
theorem f99_73 : fr 99 73 = some (.aload 9, 2, [9], []) := by decide +kernel
theorem f99_75 : fr 99 75 = some (.iload 2, 1, [], []) := by decide +kernel
theorem f99_76 : fr 99 76 = some (.iload 3, 1, [], []) := by decide +kernel
theorem f99_77 : fr 99 77 = some (.invokevirtual 100, 3, [], []) := by decide +kernel
theorem f99_80 : fr 99 80 = some (.lstore 10, 2, [], []) := by decide +kernel
theorem f99_82 : fr 99 82 = some (.lload 10, 2, [], []) := by decide +kernel
theorem f99_84 : fr 99 84 = some (.lload 6, 2, [], []) := by decide +kernel
theorem f99_86 : fr 99 86 = some (.lcmp, 1, [], []) := by decide +kernel
theorem f99_87 : fr 99 87 = some (.ifCond .le 98, 3, [5, 6], [10]) := by decide +kernel
theorem f99_90 : fr 99 90 = some (.iload 8, 2, [], []) := by decide +kernel
theorem f99_92 : fr 99 92 = some (.istore 5, 2, [], []) := by decide +kernel
theorem f99_94 : fr 99 94 = some (.lload 10, 2, [10], []) := by decide +kernel
theorem f99_96 : fr 99 96 = some (.lstore 6, 2, [], []) := by decide +kernel
theorem f99_98 : fr 99 98 = some (.iinc 8 1, 3, [], []) := by decide +kernel
theorem f99_101 : fr 99 101 = some (.goto 40, 3, [], []) := by decide +kernel
theorem f99_104 : fr 99 104 = some (.iload 5, 2, [5], []) := by decide +kernel
theorem f99_106 : fr 99 106 = some (.ireturn, 1, [], []) := by decide +kernel
theorem t99_0 {X : XX} {d : Nat} {sz sl : Nat} {sh : Nat → Nat × Nat} {R : Nat → Nat → Option Nat} {I : Nat → Nat → Int32} {J : Nat → Nat → Int64} (hS : SF sh R) {l1 : Int32} {l2 : Int32} {l3 : Int32} : exe X d 99 0 [Value.ref 0, Value.int l1, Value.int l2, Value.int l3, dm, dm, dm, dm, dm, dm, dm, dm] [] (sz, sl, sh, R, I, J) =
    ((ev X d 57 [Value.ref 0, Value.int l1] (sz, sl, sh, R, I, J)).bind fun q => exe X d 99 5 [Value.ref 0, dm, Value.int l2, Value.int l3, dm, dm, dm, dm, dm, dm, dm, dm] (q.1.toList ++ []) q.2) :=
  tq ((E_aload (v := Value.ref 0) rfl rfl f99_0)) (tq ((E_iload (x := l1) rfl f99_1)) ((tq ((E_callV pn_57 pc_57 rfl rfl (Nat.le_of_ble_eq_true rfl) f99_2)) (if_pos (zS0 hS)))))
theorem t99_5 {X : XX} {d : Nat} {sz sl : Nat} {sh : Nat → Nat × Nat} {R : Nat → Nat → Option Nat} {I : Nat → Nat → Int32} {J : Nat → Nat → Int64} (hS : SF sh R) {l2 : Int32} {l3 : Int32} {s0 : Value} (k0 : isB s0 = true) : exe X d 99 5 [Value.ref 0, dm, Value.int l2, Value.int l3, dm, dm, dm, dm, dm, dm, dm, dm] [s0] (sz, sl, sh, R, I, J) =
    (nn (s0) (some (some (Value.int (-1)), (sz, sl, sh, R, I, J))) (((ev X d 65 [Value.ref 0, Value.int l2] (sz, sl, sh, R, I, J)).bind fun q => exe X d 99 17 [Value.ref 0, dm, Value.int l2, Value.int l3, s0, dm, dm, dm, dm, dm, dm, dm] (q.1.toList ++ []) q.2))) :=
  tq ((E_astore k0 rfl f99_5)) (tq ((E_aload (v := s0) rfl (isBA k0) f99_7)) (tq ((E_ifnull f99_9)) (nn_c (tq ((E_iconst (x := (-1)) (by decide) f99_28)) ((E_iret pr_99 f99_29))) (tq ((E_aload (v := Value.ref 0) rfl rfl f99_12)) (tq ((E_iload (x := l2) rfl f99_13)) ((tq ((E_callV pn_65 pc_65 rfl rfl (Nat.le_of_ble_eq_true rfl) f99_14)) (if_pos (zS0 hS)))))))))
theorem t99_17 {X : XX} {d : Nat} {sz sl : Nat} {sh : Nat → Nat × Nat} {R : Nat → Nat → Option Nat} {I : Nat → Nat → Int32} {J : Nat → Nat → Int64} (hS : SF sh R) {l2 : Int32} {l3 : Int32} {l4 : Value} (h4 : isB l4 = true) {s0 : Int32} : exe X d 99 17 [Value.ref 0, dm, Value.int l2, Value.int l3, l4, dm, dm, dm, dm, dm, dm, dm] [Value.int s0] (sz, sl, sh, R, I, J) =
    (if s0 = 0 then some (some (Value.int (-1)), (sz, sl, sh, R, I, J)) else ((ev X d 65 [Value.ref 0, Value.int l3] (sz, sl, sh, R, I, J)).bind fun q => exe X d 99 25 [Value.ref 0, dm, Value.int l2, Value.int l3, l4, dm, dm, dm, dm, dm, dm, dm] (q.1.toList ++ []) q.2)) :=
  tq ((E_if_eq f99_17)) (ite_c (tq ((E_iconst (x := (-1)) (by decide) f99_28)) ((E_iret pr_99 f99_29))) (tq ((E_aload (v := Value.ref 0) rfl rfl f99_20)) (tq ((E_iload (x := l3) rfl f99_21)) ((tq ((E_callV pn_65 pc_65 rfl rfl (Nat.le_of_ble_eq_true rfl) f99_22)) (if_pos (zS0 hS)))))))
theorem t99_25 {X : XX} {d : Nat} {sz sl : Nat} {sh : Nat → Nat × Nat} {R : Nat → Nat → Option Nat} {I : Nat → Nat → Int32} {J : Nat → Nat → Int64} {l2 : Int32} {l3 : Int32} {l4 : Value} (h4 : isB l4 = true) {s0 : Int32} : exe X d 99 25 [Value.ref 0, dm, Value.int l2, Value.int l3, l4, dm, dm, dm, dm, dm, dm, dm] [Value.int s0] (sz, sl, sh, R, I, J) =
    (if ¬ s0 = 0 then exe X d 99 40 [Value.ref 0, dm, Value.int l2, Value.int l3, l4, Value.int (-2), Value.long (0), dm, Value.int (0), dm, dm, dm] [] (sz, sl, sh, R, I, J) else some (some (Value.int (-1)), (sz, sl, sh, R, I, J))) :=
  tq ((E_if_ne f99_25)) (ite_c (tq ((E_iconst (x := (-2)) (by decide) f99_30)) (tq ((E_istore (okS_A (Nat.lt_of_sub_eq_succ rfl) rfl h4) f99_32)) (tq ((E_lconst (x := (0)) (by decide) f99_34)) (tq ((E_lstore rfl (Nat.le_of_ble_eq_true rfl) f99_35)) (tq ((E_iconst (x := (0)) (by decide) f99_37)) ((E_istore rfl f99_38))))))) (tq ((E_iconst (x := (-1)) (by decide) f99_28)) ((E_iret pr_99 f99_29))))
theorem t99_40 {X : XX} {d : Nat} {sz sl : Nat} {sh : Nat → Nat × Nat} {R : Nat → Nat → Option Nat} {I : Nat → Nat → Int32} {J : Nat → Nat → Int64} (hS : SF sh R) {l2 : Int32} {l3 : Int32} {l4 : Value} (h4 : isB l4 = true) {l5 : Int32} {l6 : Int64} {l8 : Int32} : exe X d 99 40 [Value.ref 0, dm, Value.int l2, Value.int l3, l4, Value.int l5, Value.long l6, dm, Value.int l8, dm, dm, dm] [] (sz, sl, sh, R, I, J) =
    (if (I 0 1) ≤ l8 then some (some (Value.int l5), (sz, sl, sh, R, I, J)) else ((ev X d 12 [Value.ref 0, Value.int l8] (sz, sl, sh, R, I, J)).bind fun q => exe X d 99 55 [Value.ref 0, dm, Value.int l2, Value.int l3, l4, Value.int l5, Value.long l6, dm, Value.int l8, dm, dm, dm] (q.1.toList ++ []) q.2)) :=
  tq ((E_iload (x := l8) rfl f99_40)) (tq ((E_aload (v := Value.ref 0) rfl rfl f99_42)) (tq (tq ((G1 f99_43)) (if_pos (zS0 hS))) (tq ((E_ic_ge f99_46)) (ite_c (tq ((E_iload (x := l5) rfl f99_104)) ((E_iret pr_99 f99_106))) (tq ((E_aload (v := Value.ref 0) rfl rfl f99_49)) (tq ((E_iload (x := l8) rfl f99_50)) ((tq ((E_callV pn_12 pc_12 rfl rfl (Nat.le_of_ble_eq_true rfl) f99_52)) (if_pos (zS0 hS))))))))))
theorem t99_55 {X : XX} {d : Nat} {sz sl : Nat} {sh : Nat → Nat × Nat} {R : Nat → Nat → Option Nat} {I : Nat → Nat → Int32} {J : Nat → Nat → Int64} {l2 : Int32} {l3 : Int32} {l4 : Value} (h4 : isB l4 = true) {l5 : Int32} {l6 : Int64} {l8 : Int32} {s0 : Value} (k0 : isB s0 = true) : exe X d 99 55 [Value.ref 0, dm, Value.int l2, Value.int l3, l4, Value.int l5, Value.long l6, dm, Value.int l8, dm, dm, dm] [s0] (sz, sl, sh, R, I, J) =
    (nn (s0) (exe X d 99 40 [Value.ref 0, dm, Value.int l2, Value.int l3, l4, Value.int l5, Value.long l6, dm, Value.int (l8 + (1)), dm, dm, dm] [] (sz, sl, sh, R, I, J)) ((rf (s0) fun p1 => if sh p1 = (15, 0) then ((ev X d 83 [Value.ref p1] (sz, sl, sh, R, I, J)).bind fun q => exe X d 99 67 [Value.ref 0, dm, Value.int l2, Value.int l3, l4, Value.int l5, Value.long l6, dm, Value.int l8, s0, dm, dm] (q.1.toList ++ []) q.2) else none))) :=
  tq ((E_astore k0 rfl f99_55)) (tq ((E_aload (v := s0) rfl (isBA k0) f99_57)) (tq ((E_ifnull f99_59)) (nn_c (tq ((E_iinc (x := l8) (x' := (1)) rfl rfl (by decide) f99_98)) ((E_goto f99_101))) (tq ((E_aload (v := s0) rfl (isBA k0) f99_62)) ((E_callV pn_83 pc_83 rfl rfl (Nat.le_of_ble_eq_true rfl) f99_64))))))
theorem t99_67 {X : XX} {d : Nat} {sz sl : Nat} {sh : Nat → Nat × Nat} {R : Nat → Nat → Option Nat} {I : Nat → Nat → Int32} {J : Nat → Nat → Int64} (hS : SF sh R) {l2 : Int32} {l3 : Int32} {l4 : Value} (h4 : isB l4 = true) {l5 : Int32} {l6 : Int64} {l8 : Int32} {l9 : Value} (h9 : isB l9 = true) {s0 : Int32} : exe X d 99 67 [Value.ref 0, dm, Value.int l2, Value.int l3, l4, Value.int l5, Value.long l6, dm, Value.int l8, l9, dm, dm] [Value.int s0] (sz, sl, sh, R, I, J) =
    (if ¬ s0 = 0 then exe X d 99 40 [Value.ref 0, dm, Value.int l2, Value.int l3, l4, Value.int l5, Value.long l6, dm, Value.int (l8 + (1)), dm, dm, dm] [] (sz, sl, sh, R, I, J) else ((ev X d 100 [Value.ref 0, l4, l9, Value.int l2, Value.int l3] (sz, sl, sh, R, I, J)).bind fun q => exe X d 99 80 [Value.ref 0, dm, Value.int l2, Value.int l3, l4, Value.int l5, Value.long l6, dm, Value.int l8, dm, dm, dm] (q.1.toList ++ []) q.2)) :=
  tq ((E_if_ne f99_67)) (ite_c (tq ((E_iinc (x := l8) (x' := (1)) rfl rfl (by decide) f99_98)) ((E_goto f99_101))) (tq ((E_aload (v := Value.ref 0) rfl rfl f99_70)) (tq ((E_aload (v := l4) rfl (isBA h4) f99_71)) (tq ((E_aload (v := l9) rfl (isBA h9) f99_73)) (tq ((E_iload (x := l2) rfl f99_75)) (tq ((E_iload (x := l3) rfl f99_76)) ((tq ((E_callV pn_100 pc_100 rfl rfl (Nat.le_of_ble_eq_true rfl) f99_77)) (if_pos (zS0 hS))))))))))
theorem t99_80 {X : XX} {d : Nat} {sz sl : Nat} {sh : Nat → Nat × Nat} {R : Nat → Nat → Option Nat} {I : Nat → Nat → Int32} {J : Nat → Nat → Int64} {l2 : Int32} {l3 : Int32} {l4 : Value} (h4 : isB l4 = true) {l5 : Int32} {l6 : Int64} {l8 : Int32} {s0 : Int64} : exe X d 99 80 [Value.ref 0, dm, Value.int l2, Value.int l3, l4, Value.int l5, Value.long l6, dm, Value.int l8, dm, dm, dm] [Value.long s0] (sz, sl, sh, R, I, J) =
    (if (lg_cmp s0 l6) ≤ 0 then exe X d 99 40 [Value.ref 0, dm, Value.int l2, Value.int l3, l4, Value.int l5, Value.long l6, dm, Value.int (l8 + (1)), dm, dm, dm] [] (sz, sl, sh, R, I, J) else exe X d 99 40 [Value.ref 0, dm, Value.int l2, Value.int l3, l4, Value.int l8, Value.long s0, dm, Value.int (l8 + (1)), dm, dm, dm] [] (sz, sl, sh, R, I, J)) :=
  tq ((E_lstore rfl (Nat.le_of_ble_eq_true rfl) f99_80)) (tq ((E_lload (x := s0) rfl f99_82)) (tq ((E_lload (x := l6) rfl f99_84)) (tq ((E_lcmp f99_86)) (tq ((E_if_le f99_87)) (ite_c (tq ((E_iinc (x := l8) (x' := (1)) rfl rfl (by decide) f99_98)) ((E_goto f99_101))) (tq ((E_iload (x := l8) rfl f99_90)) (tq ((E_istore (okS_A (Nat.lt_of_sub_eq_succ rfl) rfl h4) f99_92)) (tq ((E_lload (x := s0) rfl f99_94)) (tq ((E_lstore rfl (Nat.le_of_ble_eq_true rfl) f99_96)) (tq ((E_iinc (x := l8) (x' := (1)) rfl rfl (by decide) f99_98)) ((E_goto f99_101))))))))))))
theorem n99 {X : XX} {d : Nat} {h : HP} {a0 : Int32} {a1 : Int32} {a2 : Int32} : ev X (d + 1) 99 [Value.ref 0, Value.int a0, Value.int a1, Value.int a2] h = exe X d 99 0 [Value.ref 0, Value.int a0, Value.int a1, Value.int a2, dm, dm, dm, dm, dm, dm, dm, dm] [] h := ev_exe (Nat.le_of_ble_eq_true rfl)
theorem f100_0 : fr 100 0 = some (.jsr_w 0, 1, [], []) := by decide +kernel
theorem f100_1 : fr 100 1 = some (.lstore 5, 2, [], []) := by decide +kernel
theorem f100_3 : fr 100 3 = some (.iconst 0, 1, [], []) := by decide +kernel
theorem f100_4 : fr 100 4 = some (.istore 7, 2, [], []) := by decide +kernel
theorem f100_6 : fr 100 6 = some (.iload 7, 2, [], []) := by decide +kernel
theorem f100_8 : fr 100 8 = some (.iconst 8, 2, [], []) := by decide +kernel
theorem f100_10 : fr 100 10 = some (.if_icmp .ge 53, 3, [], [0, 1, 2, 3, 4, 7]) := by decide +kernel
theorem f100_13 : fr 100 13 = some (.aload 0, 1, [], []) := by decide +kernel
theorem f100_14 : fr 100 14 = some (.aload 1, 1, [], []) := by decide +kernel
theorem f100_15 : fr 100 15 = some (.aload 2, 1, [], []) := by decide +kernel
theorem f100_16 : fr 100 16 = some (.iload 7, 2, [], []) := by decide +kernel
theorem f100_18 : fr 100 18 = some (.iload 3, 1, [], []) := by decide +kernel
theorem f100_19 : fr 100 19 = some (.invokevirtual 66, 3, [], []) := by decide +kernel
theorem f100_22 : fr 100 22 = some (.aload 0, 1, [], []) := by decide +kernel
theorem f100_23 : fr 100 23 = some (.aload 1, 1, [], []) := by decide +kernel
theorem f100_24 : fr 100 24 = some (.aload 2, 1, [], []) := by decide +kernel
theorem f100_25 : fr 100 25 = some (.iload 7, 2, [], []) := by decide +kernel
theorem f100_27 : fr 100 27 = some (.iload 4, 2, [], []) := by decide +kernel
theorem f100_29 : fr 100 29 = some (.invokevirtual 66, 3, [], []) := by decide +kernel
theorem f100_32 : fr 100 32 = some (.lsub, 1, [], []) := by decide +kernel
theorem f100_33 : fr 100 33 = some (.lstore 8, 2, [], []) := by decide +kernel
theorem f100_35 : fr 100 35 = some (.lload 5, 2, [5], []) := by decide +kernel
theorem f100_37 : fr 100 37 = some (.lload 8, 2, [8], []) := by decide +kernel
theorem f100_39 : fr 100 39 = some (.dneg, 3, [], []) := by decide +kernel
theorem f100_42 : fr 100 42 = some (.dadd, 3, [], []) := by decide +kernel
theorem f100_45 : fr 100 45 = some (.lstore 5, 2, [], []) := by decide +kernel
theorem f100_47 : fr 100 47 = some (.iinc 7 1, 3, [], []) := by decide +kernel
theorem f100_50 : fr 100 50 = some (.goto 6, 3, [], []) := by decide +kernel
theorem f100_53 : fr 100 53 = some (.lload 5, 2, [5], []) := by decide +kernel
theorem f100_55 : fr 100 55 = some (.lreturn, 1, [], []) := by decide +kernel
theorem t100_0 {X : XX} {d : Nat} {sz sl : Nat} {sh : Nat → Nat × Nat} {R : Nat → Nat → Option Nat} {I : Nat → Nat → Int32} {J : Nat → Nat → Int64} {l1 : Nat} {l2 : Nat} {l3 : Int32} {l4 : Int32} : exe X d 100 0 [Value.ref 0, Value.ref l1, Value.ref l2, Value.int l3, Value.int l4, dm, dm, dm, dm, dm] [] (sz, sl, sh, R, I, J) =
    exe X d 100 6 [Value.ref 0, Value.ref l1, Value.ref l2, Value.int l3, Value.int l4, Value.long (0), dm, Value.int (0), dm, dm] [] (sz, sl, sh, R, I, J) :=
  tq ((E_lconst (x := (0)) (by decide) f100_0)) (tq ((E_lstore rfl (Nat.le_of_ble_eq_true rfl) f100_1)) (tq ((E_iconst (x := (0)) (by decide) f100_3)) ((E_istore rfl f100_4))))
theorem t100_6 {X : XX} {d : Nat} {sz sl : Nat} {sh : Nat → Nat × Nat} {R : Nat → Nat → Option Nat} {I : Nat → Nat → Int32} {J : Nat → Nat → Int64} (hS : SF sh R) {l1 : Nat} {l2 : Nat} {l3 : Int32} {l4 : Int32} {l5 : Int64} {l7 : Int32} : exe X d 100 6 [Value.ref 0, Value.ref l1, Value.ref l2, Value.int l3, Value.int l4, Value.long l5, dm, Value.int l7, dm, dm] [] (sz, sl, sh, R, I, J) =
    (if (8) ≤ l7 then some (some (Value.long l5), (sz, sl, sh, R, I, J)) else ((ev X d 66 [Value.ref 0, Value.ref l1, Value.ref l2, Value.int l7, Value.int l3] (sz, sl, sh, R, I, J)).bind fun q => exe X d 100 22 [Value.ref 0, Value.ref l1, Value.ref l2, Value.int l3, Value.int l4, Value.long l5, dm, Value.int l7, dm, dm] (q.1.toList ++ []) q.2)) :=
  tq ((E_iload (x := l7) rfl f100_6)) (tq ((E_iconst (x := (8)) (by decide) f100_8)) (tq ((E_ic_ge f100_10)) (ite_c (tq ((E_lload (x := l5) rfl f100_53)) ((E_lret pr_100 f100_55))) (tq ((E_aload (v := Value.ref 0) rfl rfl f100_13)) (tq ((E_aload (v := Value.ref l1) rfl rfl f100_14)) (tq ((E_aload (v := Value.ref l2) rfl rfl f100_15)) (tq ((E_iload (x := l7) rfl f100_16)) (tq ((E_iload (x := l3) rfl f100_18)) ((tq ((E_callV pn_66 pc_66 rfl rfl (Nat.le_of_ble_eq_true rfl) f100_19)) (if_pos (zS0 hS))))))))))))
theorem t100_22 {X : XX} {d : Nat} {sz sl : Nat} {sh : Nat → Nat × Nat} {R : Nat → Nat → Option Nat} {I : Nat → Nat → Int32} {J : Nat → Nat → Int64} (hS : SF sh R) {l1 : Nat} {l2 : Nat} {l3 : Int32} {l4 : Int32} {l5 : Int64} {l7 : Int32} {s0 : Int64} : exe X d 100 22 [Value.ref 0, Value.ref l1, Value.ref l2, Value.int l3, Value.int l4, Value.long l5, dm, Value.int l7, dm, dm] [Value.long s0] (sz, sl, sh, R, I, J) =
    ((ev X d 66 [Value.ref 0, Value.ref l1, Value.ref l2, Value.int l7, Value.int l4] (sz, sl, sh, R, I, J)).bind fun q => exe X d 100 32 [Value.ref 0, Value.ref l1, Value.ref l2, Value.int l3, Value.int l4, Value.long l5, dm, Value.int l7, dm, dm] (q.1.toList ++ [Value.long s0]) q.2) :=
  tq ((E_aload (v := Value.ref 0) rfl rfl f100_22)) (tq ((E_aload (v := Value.ref l1) rfl rfl f100_23)) (tq ((E_aload (v := Value.ref l2) rfl rfl f100_24)) (tq ((E_iload (x := l7) rfl f100_25)) (tq ((E_iload (x := l4) rfl f100_27)) ((tq ((E_callV pn_66 pc_66 rfl rfl (Nat.le_of_ble_eq_true rfl) f100_29)) (if_pos (zS0 hS))))))))
theorem t100_32 {X : XX} {d : Nat} {sz sl : Nat} {sh : Nat → Nat × Nat} {R : Nat → Nat → Option Nat} {I : Nat → Nat → Int32} {J : Nat → Nat → Int64} {l1 : Nat} {l2 : Nat} {l3 : Int32} {l4 : Int32} {l5 : Int64} {l7 : Int32} {s0 : Int64} {s1 : Int64} : exe X d 100 32 [Value.ref 0, Value.ref l1, Value.ref l2, Value.int l3, Value.int l4, Value.long l5, dm, Value.int l7, dm, dm] [Value.long s0, Value.long s1] (sz, sl, sh, R, I, J) =
    exe X d 100 6 [Value.ref 0, Value.ref l1, Value.ref l2, Value.int l3, Value.int l4, Value.long (if (if 0 < (s1 - s0) then (s1 - s0) else -(s1 - s0)) < l5 then l5 else (if 0 < (s1 - s0) then (s1 - s0) else -(s1 - s0))), dm, Value.int (l7 + (1)), dm, dm] [] (sz, sl, sh, R, I, J) :=
  tq ((E_lsub f100_32)) (tq ((E_lstore rfl (Nat.le_of_ble_eq_true rfl) f100_33)) (tq ((E_lload (x := l5) rfl f100_35)) (tq ((E_lload (x := (s1 - s0)) rfl f100_37)) (tq ((E_dneg (Nat.le_of_ble_eq_true rfl) f100_39)) (tq ((E_dadd (Nat.le_of_ble_eq_true rfl) f100_42)) (tq ((E_lstore rfl (Nat.le_of_ble_eq_true rfl) f100_45)) (tq ((E_iinc (x := l7) (x' := (1)) rfl rfl (by decide) f100_47)) ((E_goto f100_50)))))))))
theorem n100 {X : XX} {d : Nat} {h : HP} {a0 : Nat} {a1 : Nat} {a2 : Int32} {a3 : Int32} : ev X (d + 1) 100 [Value.ref 0, Value.ref a0, Value.ref a1, Value.int a2, Value.int a3] h = exe X d 100 0 [Value.ref 0, Value.ref a0, Value.ref a1, Value.int a2, Value.int a3, dm, dm, dm, dm, dm] [] h := ev_exe (Nat.le_of_ble_eq_true rfl)
theorem f101_0 : fr 101 0 = some (.aload 0, 1, [], []) := by decide +kernel
theorem f101_1 : fr 101 1 = some (.iload 1, 1, [1], []) := by decide +kernel
theorem f101_2 : fr 101 2 = some (.invokevirtual 57, 3, [], []) := by decide +kernel
theorem f101_5 : fr 101 5 = some (.astore 4, 2, [], []) := by decide +kernel
theorem f101_7 : fr 101 7 = some (.aload 4, 2, [], []) := by decide +kernel
theorem f101_9 : fr 101 9 = some (.ifnull 31, 3, [], [0, 2, 3, 4]) := by decide +kernel
theorem f101_12 : fr 101 12 = some (.iload 2, 1, [2], []) := by decide +kernel
theorem f101_13 : fr 101 13 = some (.iconst 0, 1, [], []) := by decide +kernel
theorem f101_14 : fr 101 14 = some (.iconst 7, 2, [], []) := by decide +kernel
theorem f101_16 : fr 101 16 = some (.invokestatic 10, 3, [], []) := by decide +kernel
theorem f101_19 : fr 101 19 = some (.ifCond .eq 31, 3, [], [0, 3, 4]) := by decide +kernel
theorem f101_22 : fr 101 22 = some (.iload 3, 1, [], []) := by decide +kernel
theorem f101_23 : fr 101 23 = some (.iconst 0, 1, [], []) := by decide +kernel
theorem f101_24 : fr 101 24 = some (.iconst 1, 1, [], []) := by decide +kernel
theorem f101_25 : fr 101 25 = some (.invokestatic 10, 3, [], []) := by decide +kernel
theorem f101_28 : fr 101 28 = some (.ifCond .ne 33, 3, [0, 3, 4], []) := by decide +kernel
theorem f101_31 : fr 101 31 = some (.iconst (-1), 1, [], []) := by decide +kernel
theorem f101_32 : fr 101 32 = some (.ireturn, 1, [], []) := by decide +kernel
theorem f101_33 : fr 101 33 = some (.aload 0, 1, [], []) := by decide +kernel
theorem f101_34 : fr 101 34 = some (.invokevirtual 102, 3, [], []) := by decide +kernel
theorem f101_37 : fr 101 37 = some (.istore 5, 2, [], []) := by decide +kernel
theorem f101_39 : fr 101 39 = some (.aload 0, 1, [0], []) := by decide +kernel
theorem f101_40 : fr 101 40 = some (.iload 5, 2, [], []) := by decide +kernel
theorem f101_42 : fr 101 42 = some (.invokevirtual 12, 3, [], []) := by decide +kernel
theorem f101_45 : fr 101 45 = some (.astore 6, 2, [], []) := by decide +kernel
theorem f101_47 : fr 101 47 = some (.aload 6, 2, [], []) := by decide +kernel
theorem f101_49 : fr 101 49 = some (.ifnonnull 55, 3, [3, 4, 5, 6], []) := by decide +kernel
theorem f101_52 : fr 101 52 = some (.iconst (-2), 2, [], []) := by decide +kernel
theorem f101_54 : fr 101 54 = some (.ireturn, 1, [], []) := by decide +kernel
theorem f101_55 : fr 101 55 = some (.iload 3, 1, [3], []) := by decide +kernel
theorem f101_56 : fr 101 56 = some (.ifCond .ne 62, 3, [4, 6], [5]) := by decide +kernel
theorem f101_59 : fr 101 59 = some (.iload 5, 2, [5], []) := by decide +kernel
theorem f101_61 : fr 101 61 = some (.ireturn, 1, [], []) := by decide +kernel
theorem f101_62 : fr 101 62 = some (.aload 4, 2, [], []) := by decide +kernel
theorem f101_64 : fr 101 64 = some (.aload 6, 2, [], []) := by decide +kernel
theorem f101_66 : fr 101 66 = some (.getfield 8002, 3, [], []) := by decide +kernel
theorem f101_69 : fr 101 69 = some (.aload 6, 2, [], []) := by decide +kernel
theorem f101_71 : fr 101 71 = some (.getfield 8001, 3, [], []) := by decide +kernel
theorem f101_74 : fr 101 74 = some (.aload 6, 2, [], []) := by decide +kernel
theorem f101_76 : fr 101 76 = some (.invokevirtual 15, 3, [], []) := by decide +kernel
theorem f101_79 : fr 101 79 = some (.iconst 0, 1, [], []) := by decide +kernel
theorem f101_80 : fr 101 80 = some (.iconst 1, 1, [], []) := by decide +kernel
theorem f101_81 : fr 101 81 = some (.iconst 0, 1, [], []) := by decide +kernel
theorem f101_82 : fr 101 82 = some (.iconst 0, 1, [], []) := by decide +kernel
theorem f101_83 : fr 101 83 = some (.invokevirtual 59, 3, [], []) := by decide +kernel
theorem f101_86 : fr 101 86 = some (.istore 7, 2, [], []) := by decide +kernel
theorem f101_88 : fr 101 88 = some (.aload 4, 2, [4], []) := by decide +kernel
theorem f101_90 : fr 101 90 = some (.aload 6, 2, [], []) := by decide +kernel
theorem f101_92 : fr 101 92 = some (.getfield 8002, 3, [], []) := by decide +kernel
theorem f101_95 : fr 101 95 = some (.aload 6, 2, [6], []) := by decide +kernel
theorem f101_97 : fr 101 97 = some (.getfield 8001, 3, [], []) := by decide +kernel
theorem f101_100 : fr 101 100 = some (.iconst 0, 1, [], []) := by decide +kernel
theorem f101_101 : fr 101 101 = some (.iconst 0, 1, [], []) := by decide +kernel
theorem f101_102 : fr 101 102 = some (.iconst 1, 1, [], []) := by decide +kernel
theorem f101_103 : fr 101 103 = some (.iconst 0, 1, [], []) := by decide +kernel
theorem f101_104 : fr 101 104 = some (.iconst 0, 1, [], []) := by decide +kernel
theorem f101_105 : fr 101 105 = some (.invokevirtual 59, 3, [], []) := by decide +kernel
theorem f101_108 : fr 101 108 = some (.istore 8, 2, [], []) := by decide +kernel
theorem f101_110 : fr 101 110 = some (.iload 8, 2, [], []) := by decide +kernel
theorem f101_112 : fr 101 112 = some (.ifCond .ne 119, 3, [7, 8], []) := by decide +kernel
theorem f101_115 : fr 101 115 = some (.iconst 0, 1, [], []) := by decide +kernel
theorem f101_116 : fr 101 116 = some (.goto 131, 3, [], []) := by decide +kernel
theorem f101_119 : fr 101 119 = some (.iload 7, 2, [7], []) := by decide +kernel
theorem f101_121 : fr 101 121 = some (.iload 8, 2, [], []) := by decide +kernel
theorem f101_123 : fr 101 123 = some (.isub, 1, [], []) := by decide +kernel
theorem f101_124 : fr 101 124 = some (.iconst 1000, 3, [], []) := by decide +kernel
theorem f101_127 : fr 101 127 = some (.imul, 1, [], []) := by decide +kernel
theorem f101_128 : fr 101 128 = some (.iload 8, 2, [8], []) := by decide +kernel
theorem f101_130 : fr 101 130 = some (.idiv, 1, [], []) := by decide +kernel
theorem f101_131 : fr 101 131 = some (.ireturn, 1, [], []) := by decide +kernel
theorem t101_0 {X : XX} {d : Nat} {sz sl : Nat} {sh : Nat → Nat × Nat} {R : Nat → Nat → Option Nat} {I : Nat → Nat → Int32} {J : Nat → Nat → Int64} (hS : SF sh R) {l1 : Int32} {l2 : Int32} {l3 : Int32} : exe X d 101 0 [Value.ref 0, Value.int l1, Value.int l2, Value.int l3, dm, dm, dm, dm, dm] [] (sz, sl, sh, R, I, J) =
    ((ev X d 57 [Value.ref 0, Value.int l1] (sz, sl, sh, R, I, J)).bind fun q => exe X d 101 5 [Value.ref 0, dm, Value.int l2, Value.int l3, dm, dm, dm, dm, dm] (q.1.toList ++ []) q.2) :=
  tq ((E_aload (v := Value.ref 0) rfl rfl f101_0)) (tq ((E_iload (x := l1) rfl f101_1)) ((tq ((E_callV pn_57 pc_57 rfl rfl (Nat.le_of_ble_eq_true rfl) f101_2)) (if_pos (zS0 hS)))))
theorem t101_5 {X : XX} {d : Nat} {sz sl : Nat} {sh : Nat → Nat × Nat} {R : Nat → Nat → Option Nat} {I : Nat → Nat → Int32} {J : Nat → Nat → Int64} {l2 : Int32} {l3 : Int32} {s0 : Value} (k0 : isB s0 = true) : exe X d 101 5 [Value.ref 0, dm, Value.int l2, Value.int l3, dm, dm, dm, dm, dm] [s0] (sz, sl, sh, R, I, J) =
    (nn (s0) (some (some (Value.int (-1)), (sz, sl, sh, R, I, J))) (((ev X d 10 [Value.int l2, Value.int (0), Value.int (7)] (sz, sl, sh, R, I, J)).bind fun q => exe X d 101 19 [Value.ref 0, dm, dm, Value.int l3, s0, dm, dm, dm, dm] (q.1.toList ++ []) q.2))) :=
  tq ((E_astore k0 rfl f101_5)) (tq ((E_aload (v := s0) rfl (isBA k0) f101_7)) (tq ((E_ifnull f101_9)) (nn_c (tq ((E_iconst (x := (-1)) (by decide) f101_31)) ((E_iret pr_101 f101_32))) (tq ((E_iload (x := l2) rfl f101_12)) (tq ((E_iconst (x := (0)) (by decide) f101_13)) (tq ((E_iconst (x := (7)) (by decide) f101_14)) ((E_callS pn_10 rfl rfl (Nat.le_of_ble_eq_true rfl) (Nat.le_of_ble_eq_true rfl) f101_16))))))))
theorem t101_19 {X : XX} {d : Nat} {sz sl : Nat} {sh : Nat → Nat × Nat} {R : Nat → Nat → Option Nat} {I : Nat → Nat → Int32} {J : Nat → Nat → Int64} {l3 : Int32} {l4 : Value} (h4 : isB l4 = true) {s0 : Int32} : exe X d 101 19 [Value.ref 0, dm, dm, Value.int l3, l4, dm, dm, dm, dm] [Value.int s0] (sz, sl, sh, R, I, J) =
    (if s0 = 0 then some (some (Value.int (-1)), (sz, sl, sh, R, I, J)) else ((ev X d 10 [Value.int l3, Value.int (0), Value.int (1)] (sz, sl, sh, R, I, J)).bind fun q => exe X d 101 28 [Value.ref 0, dm, dm, Value.int l3, l4, dm, dm, dm, dm] (q.1.toList ++ []) q.2)) :=
  tq ((E_if_eq f101_19)) (ite_c (tq ((E_iconst (x := (-1)) (by decide) f101_31)) ((E_iret pr_101 f101_32))) (tq ((E_iload (x := l3) rfl f101_22)) (tq ((E_iconst (x := (0)) (by decide) f101_23)) (tq ((E_iconst (x := (1)) (by decide) f101_24)) ((E_callS pn_10 rfl rfl (Nat.le_of_ble_eq_true rfl) (Nat.le_of_ble_eq_true rfl) f101_25))))))
theorem t101_28 {X : XX} {d : Nat} {sz sl : Nat} {sh : Nat → Nat × Nat} {R : Nat → Nat → Option Nat} {I : Nat → Nat → Int32} {J : Nat → Nat → Int64} (hS : SF sh R) {l3 : Int32} {l4 : Value} (h4 : isB l4 = true) {s0 : Int32} : exe X d 101 28 [Value.ref 0, dm, dm, Value.int l3, l4, dm, dm, dm, dm] [Value.int s0] (sz, sl, sh, R, I, J) =
    (if ¬ s0 = 0 then ((ev X d 102 [Value.ref 0] (sz, sl, sh, R, I, J)).bind fun q => exe X d 101 37 [Value.ref 0, dm, dm, Value.int l3, l4, dm, dm, dm, dm] (q.1.toList ++ []) q.2) else some (some (Value.int (-1)), (sz, sl, sh, R, I, J))) :=
  tq ((E_if_ne f101_28)) (ite_c (tq ((E_aload (v := Value.ref 0) rfl rfl f101_33)) ((tq ((E_callV pn_102 pc_102 rfl rfl (Nat.le_of_ble_eq_true rfl) f101_34)) (if_pos (zS0 hS))))) (tq ((E_iconst (x := (-1)) (by decide) f101_31)) ((E_iret pr_101 f101_32))))
theorem t101_37 {X : XX} {d : Nat} {sz sl : Nat} {sh : Nat → Nat × Nat} {R : Nat → Nat → Option Nat} {I : Nat → Nat → Int32} {J : Nat → Nat → Int64} (hS : SF sh R) {l3 : Int32} {l4 : Value} (h4 : isB l4 = true) {s0 : Int32} : exe X d 101 37 [Value.ref 0, dm, dm, Value.int l3, l4, dm, dm, dm, dm] [Value.int s0] (sz, sl, sh, R, I, J) =
    ((ev X d 12 [Value.ref 0, Value.int s0] (sz, sl, sh, R, I, J)).bind fun q => exe X d 101 45 [dm, dm, dm, Value.int l3, l4, Value.int s0, dm, dm, dm] (q.1.toList ++ []) q.2) :=
  tq ((E_istore (okS_A (Nat.lt_of_sub_eq_succ rfl) rfl h4) f101_37)) (tq ((E_aload (v := Value.ref 0) rfl rfl f101_39)) (tq ((E_iload (x := s0) rfl f101_40)) ((tq ((E_callV pn_12 pc_12 rfl rfl (Nat.le_of_ble_eq_true rfl) f101_42)) (if_pos (zS0 hS))))))
theorem t101_45 {X : XX} {d : Nat} {sz sl : Nat} {sh : Nat → Nat × Nat} {R : Nat → Nat → Option Nat} {I : Nat → Nat → Int32} {J : Nat → Nat → Int64} {l3 : Int32} {l4 : Value} (h4 : isB l4 = true) {l5 : Int32} {s0 : Value} (k0 : isB s0 = true) : exe X d 101 45 [dm, dm, dm, Value.int l3, l4, Value.int l5, dm, dm, dm] [s0] (sz, sl, sh, R, I, J) =
    (nn (s0) (some (some (Value.int (-2)), (sz, sl, sh, R, I, J))) ((if ¬ l3 = 0 then (rf (s0) fun p1 => if sh p1 = (15, 0) then (rf (s0) fun p2 => if sh p2 = (15, 0) then (rf (s0) fun p3 => if sh p3 = (15, 0) then ((ev X d 15 [Value.ref p3] (sz, sl, sh, R, I, J)).bind fun q => exe X d 101 79 [dm, dm, dm, dm, l4, dm, s0, dm, dm] (q.1.toList ++ [Value.int (I p2 1), Value.int (I p1 2), l4]) q.2) else none) else none) else none) else some (some (Value.int l5), (sz, sl, sh, R, I, J))))) :=
  tq ((E_astore k0 rfl f101_45)) (tq ((E_aload (v := s0) rfl (isBA k0) f101_47)) (tq ((E_ifnonnull f101_49)) (nn_c (tq ((E_iconst (x := (-2)) (by decide) f101_52)) ((E_iret pr_101 f101_54))) (tq ((E_iload (x := l3) rfl f101_55)) (tq ((E_if_ne f101_56)) (ite_c (tq ((E_aload (v := l4) rfl (isBA h4) f101_62)) (tq ((E_aload (v := s0) rfl (isBA k0) f101_64)) (tq ((G8002 f101_66)) (rf_c fun p1 => ite_c (tq ((E_aload (v := s0) rfl (isBA k0) f101_69)) (tq ((G8001 f101_71)) (rf_c fun p2 => ite_c (tq ((E_aload (v := s0) rfl (isBA k0) f101_74)) ((E_callV pn_15 pc_15 rfl rfl (by simp [cats, cat_i, cat_l, cat_r, catB h4]) f101_76))) rfl))) rfl)))) (tq ((E_iload (x := l5) rfl f101_59)) ((E_iret pr_101 f101_61)))))))))
theorem t101_79 {X : XX} {d : Nat} {sz sl : Nat} {sh : Nat → Nat × Nat} {R : Nat → Nat → Option Nat} {I : Nat → Nat → Int32} {J : Nat → Nat → Int64} {l4 : Value} (h4 : isB l4 = true) {l6 : Value} (h6 : isB l6 = true) {s0 : Int32} {s1 : Int32} {s2 : Int32} {s3 : Value} (k3 : isB s3 = true) : exe X d 101 79 [dm, dm, dm, dm, l4, dm, l6, dm, dm] [Value.int s0, Value.int s1, Value.int s2, s3] (sz, sl, sh, R, I, J) =
    (rf (s3) fun p1 => if sh p1 = (10, 0) then ((ev X d 59 [Value.ref p1, Value.int s2, Value.int s1, Value.int s0, Value.int (0), Value.int (1), Value.int (0), Value.int (0)] (sz, sl, sh, R, I, J)).bind fun q => exe X d 101 86 [dm, dm, dm, dm, l4, dm, l6, dm, dm] (q.1.toList ++ []) q.2) else none) :=
  tq ((E_iconst (x := (0)) (by decide) f101_79)) (tq ((E_iconst (x := (1)) (by decide) f101_80)) (tq ((E_iconst (x := (0)) (by decide) f101_81)) (tq ((E_iconst (x := (0)) (by decide) f101_82)) ((E_callV pn_59 pc_59 rfl rfl (Nat.le_of_ble_eq_true rfl) f101_83)))))
theorem t101_86 {X : XX} {d : Nat} {sz sl : Nat} {sh : Nat → Nat × Nat} {R : Nat → Nat → Option Nat} {I : Nat → Nat → Int32} {J : Nat → Nat → Int64} {l4 : Value} (h4 : isB l4 = true) {l6 : Value} (h6 : isB l6 = true) {s0 : Int32} : exe X d 101 86 [dm, dm, dm, dm, l4, dm, l6, dm, dm] [Value.int s0] (sz, sl, sh, R, I, J) =
    (rf (l6) fun p1 => if sh p1 = (15, 0) then (rf (l6) fun p2 => if sh p2 = (15, 0) then (rf (l4) fun p3 => if sh p3 = (10, 0) then ((ev X d 59 [Value.ref p3, Value.int (I p1 2), Value.int (I p2 1), Value.int (0), Value.int (0), Value.int (1), Value.int (0), Value.int (0)] (sz, sl, sh, R, I, J)).bind fun q => exe X d 101 108 [dm, dm, dm, dm, dm, dm, dm, Value.int s0, dm] (q.1.toList ++ []) q.2) else none) else none) else none) :=
  tq ((E_istore (okS_A (Nat.lt_of_sub_eq_succ rfl) rfl h6) f101_86)) (tq ((E_aload (v := l4) rfl (isBA h4) f101_88)) (tq ((E_aload (v := l6) rfl (isBA h6) f101_90)) (tq ((G8002 f101_92)) (rf_c fun p1 => ite_c (tq ((E_aload (v := l6) rfl (isBA h6) f101_95)) (tq ((G8001 f101_97)) (rf_c fun p2 => ite_c (tq ((E_iconst (x := (0)) (by decide) f101_100)) (tq ((E_iconst (x := (0)) (by decide) f101_101)) (tq ((E_iconst (x := (1)) (by decide) f101_102)) (tq ((E_iconst (x := (0)) (by decide) f101_103)) (tq ((E_iconst (x := (0)) (by decide) f101_104)) ((E_callV pn_59 pc_59 rfl rfl (Nat.le_of_ble_eq_true rfl) f101_105))))))) rfl))) rfl))))
theorem t101_108 {X : XX} {d : Nat} {sz sl : Nat} {sh : Nat → Nat × Nat} {R : Nat → Nat → Option Nat} {I : Nat → Nat → Int32} {J : Nat → Nat → Int64} {l7 : Int32} {s0 : Int32} : exe X d 101 108 [dm, dm, dm, dm, dm, dm, dm, Value.int l7, dm] [Value.int s0] (sz, sl, sh, R, I, J) =
    (if ¬ s0 = 0 then (if s0 = 0 then none else some (some (Value.int (((l7 - s0) * (1000)) / s0)), (sz, sl, sh, R, I, J))) else some (some (Value.int (0)), (sz, sl, sh, R, I, J))) :=
  tq ((E_istore rfl f101_108)) (tq ((E_iload (x := s0) rfl f101_110)) (tq ((E_if_ne f101_112)) (ite_c (tq ((E_iload (x := l7) rfl f101_119)) (tq ((E_iload (x := s0) rfl f101_121)) (tq ((E_isub f101_123)) (tq ((E_iconst (x := (1000)) (by decide) f101_124)) (tq ((E_imul f101_127)) (tq ((E_iload (x := s0) rfl f101_128)) (tq (E_idiv' f101_130) (ite_c rfl ((E_iret pr_101 f101_131)))))))))) (tq ((E_iconst (x := (0)) (by decide) f101_115)) (tq ((E_goto f101_116)) ((E_iret pr_101 f101_131)))))))
theorem n101 {X : XX} {d : Nat} {h : HP} {a0 : Int32} {a1 : Int32} {a2 : Int32} : ev X (d + 1) 101 [Value.ref 0, Value.int a0, Value.int a1, Value.int a2] h = exe X d 101 0 [Value.ref 0, Value.int a0, Value.int a1, Value.int a2, dm, dm, dm, dm, dm] [] h := ev_exe (Nat.le_of_ble_eq_true rfl)
theorem f102_0 : fr 102 0 = some (.iconst (-2), 2, [], []) := by decide +kernel
theorem f102_2 : fr 102 2 = some (.istore 1, 1, [], []) := by decide +kernel
theorem f102_3 : fr 102 3 = some (.iconst 0, 1, [], []) := by decide +kernel
theorem f102_4 : fr 102 4 = some (.istore 2, 1, [], []) := by decide +kernel
theorem f102_5 : fr 102 5 = some (.iconst 0, 1, [], []) := by decide +kernel
theorem f102_6 : fr 102 6 = some (.istore 3, 1, [], []) := by decide +kernel
theorem f102_7 : fr 102 7 = some (.iload 3, 1, [], []) := by decide +kernel
theorem f102_8 : fr 102 8 = some (.aload 0, 1, [], []) := by decide +kernel
theorem f102_9 : fr 102 9 = some (.getfield 1, 3, [], []) := by decide +kernel
theorem f102_12 : fr 102 12 = some (.if_icmp .ge 50, 3, [], [0, 2, 3]) := by decide +kernel
theorem f102_15 : fr 102 15 = some (.aload 0, 1, [], []) := by decide +kernel
theorem f102_16 : fr 102 16 = some (.iload 3, 1, [], []) := by decide +kernel
theorem f102_17 : fr 102 17 = some (.invokevirtual 12, 3, [], []) := by decide +kernel
theorem f102_20 : fr 102 20 = some (.astore 4, 2, [], []) := by decide +kernel
theorem f102_22 : fr 102 22 = some (.aload 4, 2, [], []) := by decide +kernel
theorem f102_24 : fr 102 24 = some (.ifnull 44, 3, [], [4]) := by decide +kernel
theorem f102_27 : fr 102 27 = some (.aload 4, 2, [], []) := by decide +kernel
theorem f102_29 : fr 102 29 = some (.invokevirtual 15, 3, [], []) := by decide +kernel
theorem f102_32 : fr 102 32 = some (.iload 2, 1, [], []) := by decide +kernel
theorem f102_33 : fr 102 33 = some (.if_icmp .le 44, 3, [1, 2], [4]) := by decide +kernel
theorem f102_36 : fr 102 36 = some (.iload 3, 1, [], []) := by decide +kernel
theorem f102_37 : fr 102 37 = some (.istore 1, 1, [], []) := by decide +kernel
theorem f102_38 : fr 102 38 = some (.aload 4, 2, [4], []) := by decide +kernel
theorem f102_40 : fr 102 40 = some (.invokevirtual 15, 3, [], []) := by decide +kernel
theorem f102_43 : fr 102 43 = some (.istore 2, 1, [], []) := by decide +kernel
theorem f102_44 : fr 102 44 = some (.iinc 3 1, 3, [], []) := by decide +kernel
theorem f102_47 : fr 102 47 = some (.goto 7, 3, [], []) := by decide +kernel
theorem f102_50 : fr 102 50 = some (.iload 1, 1, [1], []) := by decide +kernel
theorem f102_51 : fr 102 51 = some (.ireturn, 1, [], []) := by decide +kernel
theorem t102_0 {X : XX} {d : Nat} {sz sl : Nat} {sh : Nat → Nat × Nat} {R : Nat → Nat → Option Nat} {I : Nat → Nat → Int32} {J : Nat → Nat → Int64}  : exe X d 102 0 [Value.ref 0, dm, dm, dm, dm] [] (sz, sl, sh, R, I, J) =
    exe X d 102 7 [Value.ref 0, Value.int (-2), Value.int (0), Value.int (0), dm] [] (sz, sl, sh, R, I, J) :=
  tq ((E_iconst (x := (-2)) (by decide) f102_0)) (tq ((E_istore rfl f102_2)) (tq ((E_iconst (x := (0)) (by decide) f102_3)) (tq ((E_istore rfl f102_4)) (tq ((E_iconst (x := (0)) (by decide) f102_5)) ((E_istore rfl f102_6))))))
theorem t102_7 {X : XX} {d : Nat} {sz sl : Nat} {sh : Nat → Nat × Nat} {R : Nat → Nat → Option Nat} {I : Nat → Nat → Int32} {J : Nat → Nat → Int64} (hS : SF sh R) {l1 : Int32} {l2 : Int32} {l3 : Int32} : exe X d 102 7 [Value.ref 0, Value.int l1, Value.int l2, Value.int l3, dm] [] (sz, sl, sh, R, I, J) =
    (if (I 0 1) ≤ l3 then some (some (Value.int l1), (sz, sl, sh, R, I, J)) else ((ev X d 12 [Value.ref 0, Value.int l3] (sz, sl, sh, R, I, J)).bind fun q => exe X d 102 20 [Value.ref 0, Value.int l1, Value.int l2, Value.int l3, dm] (q.1.toList ++ []) q.2)) :=
  tq ((E_iload (x := l3) rfl f102_7)) (tq ((E_aload (v := Value.ref 0) rfl rfl f102_8)) (tq (tq ((G1 f102_9)) (if_pos (zS0 hS))) (tq ((E_ic_ge f102_12)) (ite_c (tq ((E_iload (x := l1) rfl f102_50)) ((E_iret pr_102 f102_51))) (tq ((E_aload (v := Value.ref 0) rfl rfl f102_15)) (tq ((E_iload (x := l3) rfl f102_16)) ((tq ((E_callV pn_12 pc_12 rfl rfl (Nat.le_of_ble_eq_true rfl) f102_17)) (if_pos (zS0 hS))))))))))
theorem t102_20 {X : XX} {d : Nat} {sz sl : Nat} {sh : Nat → Nat × Nat} {R : Nat → Nat → Option Nat} {I : Nat → Nat → Int32} {J : Nat → Nat → Int64} {l1 : Int32} {l2 : Int32} {l3 : Int32} {s0 : Value} (k0 : isB s0 = true) : exe X d 102 20 [Value.ref 0, Value.int l1, Value.int l2, Value.int l3, dm] [s0] (sz, sl, sh, R, I, J) =
    (nn (s0) (exe X d 102 7 [Value.ref 0, Value.int l1, Value.int l2, Value.int (l3 + (1)), dm] [] (sz, sl, sh, R, I, J)) ((rf (s0) fun p1 => if sh p1 = (15, 0) then ((ev X d 15 [Value.ref p1] (sz, sl, sh, R, I, J)).bind fun q => exe X d 102 32 [Value.ref 0, Value.int l1, Value.int l2, Value.int l3, s0] (q.1.toList ++ []) q.2) else none))) :=
  tq ((E_astore k0 rfl f102_20)) (tq ((E_aload (v := s0) rfl (isBA k0) f102_22)) (tq ((E_ifnull f102_24)) (nn_c (tq ((E_iinc (x := l3) (x' := (1)) rfl rfl (by decide) f102_44)) ((E_goto f102_47))) (tq ((E_aload (v := s0) rfl (isBA k0) f102_27)) ((E_callV pn_15 pc_15 rfl rfl (Nat.le_of_ble_eq_true rfl) f102_29))))))
theorem t102_32 {X : XX} {d : Nat} {sz sl : Nat} {sh : Nat → Nat × Nat} {R : Nat → Nat → Option Nat} {I : Nat → Nat → Int32} {J : Nat → Nat → Int64} {l1 : Int32} {l2 : Int32} {l3 : Int32} {l4 : Value} (h4 : isB l4 = true) {s0 : Int32} : exe X d 102 32 [Value.ref 0, Value.int l1, Value.int l2, Value.int l3, l4] [Value.int s0] (sz, sl, sh, R, I, J) =
    (if s0 ≤ l2 then exe X d 102 7 [Value.ref 0, Value.int l1, Value.int l2, Value.int (l3 + (1)), dm] [] (sz, sl, sh, R, I, J) else (rf (l4) fun p1 => if sh p1 = (15, 0) then ((ev X d 15 [Value.ref p1] (sz, sl, sh, R, I, J)).bind fun q => exe X d 102 43 [Value.ref 0, Value.int l3, dm, Value.int l3, dm] (q.1.toList ++ []) q.2) else none)) :=
  tq ((E_iload (x := l2) rfl f102_32)) (tq ((E_ic_le f102_33)) (ite_c (tq ((E_iinc (x := l3) (x' := (1)) rfl rfl (by decide) f102_44)) ((E_goto f102_47))) (tq ((E_iload (x := l3) rfl f102_36)) (tq ((E_istore rfl f102_37)) (tq ((E_aload (v := l4) rfl (isBA h4) f102_38)) ((E_callV pn_15 pc_15 rfl rfl (Nat.le_of_ble_eq_true rfl) f102_40)))))))
theorem t102_43 {X : XX} {d : Nat} {sz sl : Nat} {sh : Nat → Nat × Nat} {R : Nat → Nat → Option Nat} {I : Nat → Nat → Int32} {J : Nat → Nat → Int64} {l1 : Int32} {l3 : Int32} {s0 : Int32} : exe X d 102 43 [Value.ref 0, Value.int l1, dm, Value.int l3, dm] [Value.int s0] (sz, sl, sh, R, I, J) =
    exe X d 102 7 [Value.ref 0, Value.int l1, Value.int s0, Value.int (l3 + (1)), dm] [] (sz, sl, sh, R, I, J) :=
  tq ((E_istore rfl f102_43)) (tq ((E_iinc (x := l3) (x' := (1)) rfl rfl (by decide) f102_44)) ((E_goto f102_47)))
theorem n102 {X : XX} {d : Nat} {h : HP}  : ev X (d + 1) 102 [Value.ref 0] h = exe X d 102 0 [Value.ref 0, dm, dm, dm, dm] [] h := ev_exe (Nat.le_of_ble_eq_true rfl)
theorem f103_0 : fr 103 0 = some (.iload 1, 1, [], []) := by decide +kernel
theorem f103_1 : fr 103 1 = some (.iconst 0, 1, [], []) := by decide +kernel
theorem f103_2 : fr 103 2 = some (.iconst 9999, 3, [], []) := by decide +kernel
theorem f103_5 : fr 103 5 = some (.invokestatic 10, 3, [], []) := by decide +kernel
theorem f103_8 : fr 103 8 = some (.ifCond .ne 13, 3, [0, 1], []) := by decide +kernel
theorem f103_11 : fr 103 11 = some (.iconst (-1), 1, [], []) := by decide +kernel
theorem f103_12 : fr 103 12 = some (.ireturn, 1, [], []) := by decide +kernel
theorem f103_13 : fr 103 13 = some (.aload 0, 1, [], []) := by decide +kernel
theorem f103_14 : fr 103 14 = some (.getfield 9, 3, [], []) := by decide +kernel
theorem f103_17 : fr 103 17 = some (.iload 1, 1, [1], []) := by decide +kernel
theorem f103_18 : fr 103 18 = some (.invokevirtual 104, 3, [], []) := by decide +kernel
theorem f103_21 : fr 103 21 = some (.ifCond .eq 34, 3, [], [0]) := by decide +kernel
theorem f103_24 : fr 103 24 = some (.aload 0, 1, [0], []) := by decide +kernel
theorem f103_25 : fr 103 25 = some (.getfield 9, 3, [], []) := by decide +kernel
theorem f103_28 : fr 103 28 = some (.getfield 2001, 3, [], []) := by decide +kernel
theorem f103_31 : fr 103 31 = some (.goto 36, 3, [], []) := by decide +kernel
theorem f103_34 : fr 103 34 = some (.iconst (-3), 2, [], []) := by decide +kernel
theorem f103_36 : fr 103 36 = some (.ireturn, 1, [], []) := by decide +kernel
theorem t103_0 {X : XX} {d : Nat} {sz sl : Nat} {sh : Nat → Nat × Nat} {R : Nat → Nat → Option Nat} {I : Nat → Nat → Int32} {J : Nat → Nat → Int64} {l1 : Int32} : exe X d 103 0 [Value.ref 0, Value.int l1] [] (sz, sl, sh, R, I, J) =
    ((ev X d 10 [Value.int l1, Value.int (0), Value.int (9999)] (sz, sl, sh, R, I, J)).bind fun q => exe X d 103 8 [Value.ref 0, Value.int l1] (q.1.toList ++ []) q.2) :=
  tq ((E_iload (x := l1) rfl f103_0)) (tq ((E_iconst (x := (0)) (by decide) f103_1)) (tq ((E_iconst (x := (9999)) (by decide) f103_2)) ((E_callS pn_10 rfl rfl (Nat.le_of_ble_eq_true rfl) (Nat.le_of_ble_eq_true rfl) f103_5))))
theorem t103_8 {X : XX} {d : Nat} {sz sl : Nat} {sh : Nat → Nat × Nat} {R : Nat → Nat → Option Nat} {I : Nat → Nat → Int32} {J : Nat → Nat → Int64} (hS : SF sh R) {l1 : Int32} {s0 : Int32} : exe X d 103 8 [Value.ref 0, Value.int l1] [Value.int s0] (sz, sl, sh, R, I, J) =
    (if ¬ s0 = 0 then ((ev X d 104 [Value.ref 15, Value.int l1] (sz, sl, sh, R, I, J)).bind fun q => exe X d 103 21 [Value.ref 0, dm] (q.1.toList ++ []) q.2) else some (some (Value.int (-1)), (sz, sl, sh, R, I, J))) :=
  tq ((E_if_ne f103_8)) (ite_c (tq ((E_aload (v := Value.ref 0) rfl rfl f103_13)) (tq (tq ((G9 f103_14)) (if_pos (zS0 hS))) (tq (exe_R (zR0_9 hS)) (tq ((E_iload (x := l1) rfl f103_17)) ((tq ((E_callV pn_104 pc_104 rfl rfl (Nat.le_of_ble_eq_true rfl) f103_18)) (if_pos (zS15 hS)))))))) (tq ((E_iconst (x := (-1)) (by decide) f103_11)) ((E_iret pr_103 f103_12))))
theorem t103_21 {X : XX} {d : Nat} {sz sl : Nat} {sh : Nat → Nat × Nat} {R : Nat → Nat → Option Nat} {I : Nat → Nat → Int32} {J : Nat → Nat → Int64} (hS : SF sh R) {s0 : Int32} : exe X d 103 21 [Value.ref 0, dm] [Value.int s0] (sz, sl, sh, R, I, J) =
    (if s0 = 0 then some (some (Value.int (-3)), (sz, sl, sh, R, I, J)) else some (some (Value.int (I 15 1)), (sz, sl, sh, R, I, J))) :=
  tq ((E_if_eq f103_21)) (ite_c (tq ((E_iconst (x := (-3)) (by decide) f103_34)) ((E_iret pr_103 f103_36))) (tq ((E_aload (v := Value.ref 0) rfl rfl f103_24)) (tq (tq ((G9 f103_25)) (if_pos (zS0 hS))) (tq (exe_R (zR0_9 hS)) (tq (tq ((G2001 f103_28)) (if_pos (zS15 hS))) (tq ((E_goto f103_31)) ((E_iret pr_103 f103_36))))))))
theorem n103 {X : XX} {d : Nat} {h : HP} {a0 : Int32} : ev X (d + 1) 103 [Value.ref 0, Value.int a0] h = exe X d 103 0 [Value.ref 0, Value.int a0] [] h := ev_exe (Nat.le_of_ble_eq_true rfl)
theorem f104_0 : fr 104 0 = some (.aload 0, 1, [], []) := by decide +kernel
theorem f104_1 : fr 104 1 = some (.getfield 2001, 3, [], []) := by decide +kernel
theorem f104_4 : fr 104 4 = some (.aload 0, 1, [], []) := by decide +kernel
theorem f104_5 : fr 104 5 = some (.getfield 2000, 3, [], []) := by decide +kernel
theorem f104_8 : fr 104 8 = some (.arraylength, 1, [], []) := by decide +kernel
theorem f104_9 : fr 104 9 = some (.if_icmp .lt 14, 3, [0, 1], []) := by decide +kernel
theorem f104_12 : fr 104 12 = some (.iconst 0, 1, [], []) := by decide +kernel
theorem f104_13 : fr 104 13 = some (.ireturn, 1, [], []) := by decide +kernel
theorem f104_14 : fr 104 14 = some (.aload 0, 1, [], []) := by decide +kernel
theorem f104_15 : fr 104 15 = some (.getfield 2000, 3, [], []) := by decide +kernel
theorem f104_18 : fr 104 18 = some (.aload 0, 1, [], []) := by decide +kernel
theorem f104_19 : fr 104 19 = some (.getfield 2001, 3, [], []) := by decide +kernel
theorem f104_22 : fr 104 22 = some (.iload 1, 1, [1], []) := by decide +kernel
theorem f104_23 : fr 104 23 = some (.iastore, 1, [], []) := by decide +kernel
theorem f104_24 : fr 104 24 = some (.aload 0, 1, [0], []) := by decide +kernel
theorem f104_25 : fr 104 25 = some (.dup, 1, [], []) := by decide +kernel
theorem f104_26 : fr 104 26 = some (.getfield 2001, 3, [], []) := by decide +kernel
theorem f104_29 : fr 104 29 = some (.iconst 1, 1, [], []) := by decide +kernel
theorem f104_30 : fr 104 30 = some (.iadd, 1, [], []) := by decide +kernel
theorem f104_31 : fr 104 31 = some (.putfield 2001, 3, [], []) := by decide +kernel
theorem f104_34 : fr 104 34 = some (.iconst 1, 1, [], []) := by decide +kernel
theorem f104_35 : fr 104 35 = some (.ireturn, 1, [], []) := by decide +kernel
theorem t104_0 {X : XX} {d : Nat} {sz sl : Nat} {sh : Nat → Nat × Nat} {R : Nat → Nat → Option Nat} {I : Nat → Nat → Int32} {J : Nat → Nat → Int64} (hS : SF sh R) {l1 : Int32} : exe X d 104 0 [Value.ref 15, Value.int l1] [] (sz, sl, sh, R, I, J) =
    (if (I 15 1) < (30) then (if inb (I 15 1) 30 then some (some (Value.int (1)), (sz, sl, sh, R, (u2 (u2 I 16 (I 15 1).toNatClampNeg l1) 15 1 ((I 15 1) + (1))), J)) else none) else some (some (Value.int (0)), (sz, sl, sh, R, I, J))) :=
  tq ((E_aload (v := Value.ref 15) rfl rfl f104_0)) (tq (tq ((G2001 f104_1)) (if_pos (zS15 hS))) (tq ((E_aload (v := Value.ref 15) rfl rfl f104_4)) (tq (tq ((G2000 f104_5)) (if_pos (zS15 hS))) (tq (exe_R (zR15_0 hS)) (tq (tq (E_len f104_8) (ite_len (m := 30) (A := fun m => exe X d 104 9 [Value.ref 15, Value.int l1] (.int (Int32.ofNat m) :: [Value.int (I 15 1)]) (sz, sl, sh, R, I, J)) (zS16 hS) (by decide))) (tq ((E_ic_lt f104_9)) (ite_c (tq ((E_aload (v := Value.ref 15) rfl rfl f104_14)) (tq (tq ((G2000 f104_15)) (if_pos (zS15 hS))) (tq (exe_R (zR15_0 hS)) (tq ((E_aload (v := Value.ref 15) rfl rfl f104_18)) (tq (tq ((G2001 f104_19)) (if_pos (zS15 hS))) (tq ((E_iload (x := l1) rfl f104_22)) (tq (tq ((E_iast f104_23)) (ite_ar (zS16 hS))) (ite_c (tq ((E_aload (v := Value.ref 15) rfl rfl f104_24)) (tq ((E_dup rfl f104_25)) (tq (tq (tq ((G2001 f104_26)) (if_pos (zS15 hS))) (exe_i (u2_pa (by decide)))) (tq ((E_iconst (x := (1)) (by decide) f104_29)) (tq ((E_iadd f104_30)) (tq (tq ((P2001 f104_31)) (if_pos (zS15 hS))) (tq ((E_iconst (x := (1)) (by decide) f104_34)) (tq (E_zret pr_104 f104_35) (if_pos (by decide)))))))))) rfl)))))))) (tq ((E_iconst (x := (0)) (by decide) f104_12)) (tq (E_zret pr_104 f104_13) (if_pos (by decide)))))))))))
theorem n104 {X : XX} {d : Nat} {h : HP} {a0 : Int32} : ev X (d + 1) 104 [Value.ref 15, Value.int a0] h = exe X d 104 0 [Value.ref 15, Value.int a0] [] h := ev_exe (Nat.le_of_ble_eq_true rfl)
theorem f105_0 : fr 105 0 = some (.iload 1, 1, [], []) := by decide +kernel
theorem f105_1 : fr 105 1 = some (.iconst 0, 1, [], []) := by decide +kernel
theorem f105_2 : fr 105 2 = some (.iconst 1, 1, [], []) := by decide +kernel
theorem f105_3 : fr 105 3 = some (.invokestatic 10, 3, [], []) := by decide +kernel
theorem f105_6 : fr 105 6 = some (.ifCond .ne 11, 3, [0, 1], []) := by decide +kernel
theorem f105_9 : fr 105 9 = some (.iconst (-1), 1, [], []) := by decide +kernel
theorem f105_10 : fr 105 10 = some (.ireturn, 1, [], []) := by decide +kernel
theorem f105_11 : fr 105 11 = some (.aload 0, 1, [], []) := by decide +kernel
theorem f105_12 : fr 105 12 = some (.getfield 9, 3, [], []) := by decide +kernel
theorem f105_15 : fr 105 15 = some (.getfield 2001, 3, [], []) := by decide +kernel
theorem f105_18 : fr 105 18 = some (.ifCond .ne 24, 3, [0, 1], []) := by decide +kernel
theorem f105_21 : fr 105 21 = some (.iconst (-5), 2, [], []) := by decide +kernel
theorem f105_23 : fr 105 23 = some (.ireturn, 1, [], []) := by decide +kernel
theorem f105_24 : fr 105 24 = some (.iload 1, 1, [1], []) := by decide +kernel
theorem f105_25 : fr 105 25 = some (.ifCond .ne 38, 3, [], []) := by decide +kernel
theorem f105_28 : fr 105 28 = some (.aload 0, 1, [0], []) := by decide +kernel
theorem f105_29 : fr 105 29 = some (.getfield 9, 3, [], []) := by decide +kernel
theorem f105_32 : fr 105 32 = some (.invokevirtual 106, 3, [], []) := by decide +kernel
theorem f105_35 : fr 105 35 = some (.goto 45, 3, [], []) := by decide +kernel
theorem f105_38 : fr 105 38 = some (.aload 0, 1, [0], []) := by decide +kernel
theorem f105_39 : fr 105 39 = some (.getfield 9, 3, [], []) := by decide +kernel
theorem f105_42 : fr 105 42 = some (.invokevirtual 107, 3, [], []) := by decide +kernel
theorem f105_45 : fr 105 45 = some (.ireturn, 1, [], []) := by decide +kernel
theorem t105_0 {X : XX} {d : Nat} {sz sl : Nat} {sh : Nat → Nat × Nat} {R : Nat → Nat → Option Nat} {I : Nat → Nat → Int32} {J : Nat → Nat → Int64} {l1 : Int32} : exe X d 105 0 [Value.ref 0, Value.int l1] [] (sz, sl, sh, R, I, J) =
    ((ev X d 10 [Value.int l1, Value.int (0), Value.int (1)] (sz, sl, sh, R, I, J)).bind fun q => exe X d 105 6 [Value.ref 0, Value.int l1] (q.1.toList ++ []) q.2) :=
  tq ((E_iload (x := l1) rfl f105_0)) (tq ((E_iconst (x := (0)) (by decide) f105_1)) (tq ((E_iconst (x := (1)) (by decide) f105_2)) ((E_callS pn_10 rfl rfl (Nat.le_of_ble_eq_true rfl) (Nat.le_of_ble_eq_true rfl) f105_3))))
theorem t105_6 {X : XX} {d : Nat} {sz sl : Nat} {sh : Nat → Nat × Nat} {R : Nat → Nat → Option Nat} {I : Nat → Nat → Int32} {J : Nat → Nat → Int64} (hS : SF sh R) {l1 : Int32} {s0 : Int32} : exe X d 105 6 [Value.ref 0, Value.int l1] [Value.int s0] (sz, sl, sh, R, I, J) =
    (if ¬ s0 = 0 then (if ¬ (I 15 1) = 0 then (if ¬ l1 = 0 then ((ev X d 107 [Value.ref 15] (sz, sl, sh, R, I, J)).bind fun q => exe X d 105 45 [dm, dm] (q.1.toList ++ []) q.2) else ((ev X d 106 [Value.ref 15] (sz, sl, sh, R, I, J)).bind fun q => exe X d 105 35 [dm, dm] (q.1.toList ++ []) q.2)) else some (some (Value.int (-5)), (sz, sl, sh, R, I, J))) else some (some (Value.int (-1)), (sz, sl, sh, R, I, J))) :=
  tq ((E_if_ne f105_6)) (ite_c (tq ((E_aload (v := Value.ref 0) rfl rfl f105_11)) (tq (tq ((G9 f105_12)) (if_pos (zS0 hS))) (tq (exe_R (zR0_9 hS)) (tq (tq ((G2001 f105_15)) (if_pos (zS15 hS))) (tq ((E_if_ne f105_18)) (ite_c (tq ((E_iload (x := l1) rfl f105_24)) (tq ((E_if_ne f105_25)) (ite_c (tq ((E_aload (v := Value.ref 0) rfl rfl f105_38)) (tq (tq ((G9 f105_39)) (if_pos (zS0 hS))) (tq (exe_R (zR0_9 hS)) ((tq ((E_callV pn_107 pc_107 rfl rfl (Nat.le_of_ble_eq_true rfl) f105_42)) (if_pos (zS15 hS))))))) (tq ((E_aload (v := Value.ref 0) rfl rfl f105_28)) (tq (tq ((G9 f105_29)) (if_pos (zS0 hS))) (tq (exe_R (zR0_9 hS)) ((tq ((E_callV pn_106 pc_106 rfl rfl (Nat.le_of_ble_eq_true rfl) f105_32)) (if_pos (zS15 hS)))))))))) (tq ((E_iconst (x := (-5)) (by decide) f105_21)) ((E_iret pr_105 f105_23))))))))) (tq ((E_iconst (x := (-1)) (by decide) f105_9)) ((E_iret pr_105 f105_10))))
theorem t105_35 {X : XX} {d : Nat} {sz sl : Nat} {sh : Nat → Nat × Nat} {R : Nat → Nat → Option Nat} {I : Nat → Nat → Int32} {J : Nat → Nat → Int64} {s0 : Int32} : exe X d 105 35 [dm, dm] [Value.int s0] (sz, sl, sh, R, I, J) =
    exe X d 105 45 [dm, dm] [Value.int s0] (sz, sl, sh, R, I, J) :=
  (E_goto f105_35)
theorem t105_45 {X : XX} {d : Nat} {sz sl : Nat} {sh : Nat → Nat × Nat} {R : Nat → Nat → Option Nat} {I : Nat → Nat → Int32} {J : Nat → Nat → Int64} {s0 : Int32} : exe X d 105 45 [dm, dm] [Value.int s0] (sz, sl, sh, R, I, J) =
    some (some (Value.int s0), (sz, sl, sh, R, I, J)) :=
  (E_iret pr_105 f105_45)
theorem n105 {X : XX} {d : Nat} {h : HP} {a0 : Int32} : ev X (d + 1) 105 [Value.ref 0, Value.int a0] h = exe X d 105 0 [Value.ref 0, Value.int a0] [] h := ev_exe (Nat.le_of_ble_eq_true rfl)
theorem f106_0 : fr 106 0 = some (.iconst 0, 1, [], []) := by decide +kernel
theorem f106_1 : fr 106 1 = some (.istore 1, 1, [], []) := by decide +kernel
theorem f106_2 : fr 106 2 = some (.iconst 0, 1, [], []) := by decide +kernel
theorem f106_3 : fr 106 3 = some (.istore 2, 1, [], []) := by decide +kernel
theorem f106_4 : fr 106 4 = some (.iload 2, 1, [], []) := by decide +kernel
theorem f106_5 : fr 106 5 = some (.aload 0, 1, [], []) := by decide +kernel
theorem f106_6 : fr 106 6 = some (.getfield 2001, 3, [], []) := by decide +kernel
theorem f106_9 : fr 106 9 = some (.if_icmp .ge 36, 3, [], [2]) := by decide +kernel
theorem f106_12 : fr 106 12 = some (.iload 2, 1, [], []) := by decide +kernel
theorem f106_13 : fr 106 13 = some (.aload 0, 1, [], []) := by decide +kernel
theorem f106_14 : fr 106 14 = some (.getfield 2000, 3, [], []) := by decide +kernel
theorem f106_17 : fr 106 17 = some (.arraylength, 1, [], []) := by decide +kernel
theorem f106_18 : fr 106 18 = some (.if_icmp .ge 36, 3, [], [2]) := by decide +kernel
theorem f106_21 : fr 106 21 = some (.iload 1, 1, [1], []) := by decide +kernel
theorem f106_22 : fr 106 22 = some (.aload 0, 1, [], []) := by decide +kernel
theorem f106_23 : fr 106 23 = some (.getfield 2000, 3, [], []) := by decide +kernel
theorem f106_26 : fr 106 26 = some (.iload 2, 1, [], []) := by decide +kernel
theorem f106_27 : fr 106 27 = some (.iaload, 1, [], []) := by decide +kernel
theorem f106_28 : fr 106 28 = some (.iadd, 1, [], []) := by decide +kernel
theorem f106_29 : fr 106 29 = some (.istore 1, 1, [], []) := by decide +kernel
theorem f106_30 : fr 106 30 = some (.iinc 2 1, 3, [], []) := by decide +kernel
theorem f106_33 : fr 106 33 = some (.goto 4, 3, [], []) := by decide +kernel
theorem f106_36 : fr 106 36 = some (.aload 0, 1, [], []) := by decide +kernel
theorem f106_37 : fr 106 37 = some (.getfield 2001, 3, [], []) := by decide +kernel
theorem f106_40 : fr 106 40 = some (.ifCond .ne 47, 3, [0, 1], []) := by decide +kernel
theorem f106_43 : fr 106 43 = some (.iconst 0, 1, [], []) := by decide +kernel
theorem f106_44 : fr 106 44 = some (.goto 53, 3, [], []) := by decide +kernel
theorem f106_47 : fr 106 47 = some (.iload 1, 1, [1], []) := by decide +kernel
theorem f106_48 : fr 106 48 = some (.aload 0, 1, [0], []) := by decide +kernel
theorem f106_49 : fr 106 49 = some (.getfield 2001, 3, [], []) := by decide +kernel
theorem f106_52 : fr 106 52 = some (.idiv, 1, [], []) := by decide +kernel
theorem f106_53 : fr 106 53 = some (.ireturn, 1, [], []) := by decide +kernel
theorem t106_0 {X : XX} {d : Nat} {sz sl : Nat} {sh : Nat → Nat × Nat} {R : Nat → Nat → Option Nat} {I : Nat → Nat → Int32} {J : Nat → Nat → Int64}  : exe X d 106 0 [Value.ref 15, dm, dm] [] (sz, sl, sh, R, I, J) =
    exe X d 106 4 [Value.ref 15, Value.int (0), Value.int (0)] [] (sz, sl, sh, R, I, J) :=
  tq ((E_iconst (x := (0)) (by decide) f106_0)) (tq ((E_istore rfl f106_1)) (tq ((E_iconst (x := (0)) (by decide) f106_2)) ((E_istore rfl f106_3))))
theorem t106_4 {X : XX} {d : Nat} {sz sl : Nat} {sh : Nat → Nat × Nat} {R : Nat → Nat → Option Nat} {I : Nat → Nat → Int32} {J : Nat → Nat → Int64} (hS : SF sh R) {l1 : Int32} {l2 : Int32} : exe X d 106 4 [Value.ref 15, Value.int l1, Value.int l2] [] (sz, sl, sh, R, I, J) =
    (if (I 15 1) ≤ l2 then exe X d 106 36 [Value.ref 15, Value.int l1, dm] [] (sz, sl, sh, R, I, J) else (if (30) ≤ l2 then exe X d 106 36 [Value.ref 15, Value.int l1, dm] [] (sz, sl, sh, R, I, J) else (if inb l2 30 then exe X d 106 4 [Value.ref 15, Value.int (l1 + (I 16 l2.toNatClampNeg)), Value.int (l2 + (1))] [] (sz, sl, sh, R, I, J) else none))) :=
  tq ((E_iload (x := l2) rfl f106_4)) (tq ((E_aload (v := Value.ref 15) rfl rfl f106_5)) (tq (tq ((G2001 f106_6)) (if_pos (zS15 hS))) (tq ((E_ic_ge f106_9)) (ite_c (rfl) (tq ((E_iload (x := l2) rfl f106_12)) (tq ((E_aload (v := Value.ref 15) rfl rfl f106_13)) (tq (tq ((G2000 f106_14)) (if_pos (zS15 hS))) (tq (exe_R (zR15_0 hS)) (tq (tq (E_len f106_17) (ite_len (m := 30) (A := fun m => exe X d 106 18 [Value.ref 15, Value.int l1, Value.int l2] (.int (Int32.ofNat m) :: [Value.int l2]) (sz, sl, sh, R, I, J)) (zS16 hS) (by decide))) (tq ((E_ic_ge f106_18)) (ite_c (rfl) (tq ((E_iload (x := l1) rfl f106_21)) (tq ((E_aload (v := Value.ref 15) rfl rfl f106_22)) (tq (tq ((G2000 f106_23)) (if_pos (zS15 hS))) (tq (exe_R (zR15_0 hS)) (tq ((E_iload (x := l2) rfl f106_26)) (tq (tq ((E_iald f106_27)) (ite_ar (zS16 hS))) (ite_c (tq ((E_iadd f106_28)) (tq ((E_istore rfl f106_29)) (tq ((E_iinc (x := l2) (x' := (1)) rfl rfl (by decide) f106_30)) ((E_goto f106_33))))) rfl))))))))))))))))))
theorem t106_36 {X : XX} {d : Nat} {sz sl : Nat} {sh : Nat → Nat × Nat} {R : Nat → Nat → Option Nat} {I : Nat → Nat → Int32} {J : Nat → Nat → Int64} (hS : SF sh R) {l1 : Int32} : exe X d 106 36 [Value.ref 15, Value.int l1, dm] [] (sz, sl, sh, R, I, J) =
    (if ¬ (I 15 1) = 0 then (if (I 15 1) = 0 then none else some (some (Value.int (l1 / (I 15 1))), (sz, sl, sh, R, I, J))) else some (some (Value.int (0)), (sz, sl, sh, R, I, J))) :=
  tq ((E_aload (v := Value.ref 15) rfl rfl f106_36)) (tq (tq ((G2001 f106_37)) (if_pos (zS15 hS))) (tq ((E_if_ne f106_40)) (ite_c (tq ((E_iload (x := l1) rfl f106_47)) (tq ((E_aload (v := Value.ref 15) rfl rfl f106_48)) (tq (tq ((G2001 f106_49)) (if_pos (zS15 hS))) (tq (E_idiv' f106_52) (ite_c rfl ((E_iret pr_106 f106_53))))))) (tq ((E_iconst (x := (0)) (by decide) f106_43)) (tq ((E_goto f106_44)) ((E_iret pr_106 f106_53)))))))
theorem n106 {X : XX} {d : Nat} {h : HP}  : ev X (d + 1) 106 [Value.ref 15] h = exe X d 106 0 [Value.ref 15, dm, dm] [] h := ev_exe (Nat.le_of_ble_eq_true rfl)
theorem f107_0 : fr 107 0 = some (.aload 0, 1, [], []) := by decide +kernel
theorem f107_1 : fr 107 1 = some (.getfield 2001, 3, [], []) := by decide +kernel
theorem f107_4 : fr 107 4 = some (.iconst 1, 1, [], []) := by decide +kernel
theorem f107_5 : fr 107 5 = some (.isub, 1, [], []) := by decide +kernel
theorem f107_6 : fr 107 6 = some (.iconst 2, 1, [], []) := by decide +kernel
theorem f107_7 : fr 107 7 = some (.idiv, 1, [], []) := by decide +kernel
theorem f107_8 : fr 107 8 = some (.istore 1, 1, [], []) := by decide +kernel
theorem f107_9 : fr 107 9 = some (.iconst 0, 1, [], []) := by decide +kernel
theorem f107_10 : fr 107 10 = some (.istore 2, 1, [], []) := by decide +kernel
theorem f107_11 : fr 107 11 = some (.iload 2, 1, [], []) := by decide +kernel
theorem f107_12 : fr 107 12 = some (.aload 0, 1, [], []) := by decide +kernel
theorem f107_13 : fr 107 13 = some (.getfield 2001, 3, [], []) := by decide +kernel
theorem f107_16 : fr 107 16 = some (.if_icmp .ge 71, 3, [], [0, 1, 2]) := by decide +kernel
theorem f107_19 : fr 107 19 = some (.iload 2, 1, [], []) := by decide +kernel
theorem f107_20 : fr 107 20 = some (.aload 0, 1, [], []) := by decide +kernel
theorem f107_21 : fr 107 21 = some (.getfield 2000, 3, [], []) := by decide +kernel
theorem f107_24 : fr 107 24 = some (.arraylength, 1, [], []) := by decide +kernel
theorem f107_25 : fr 107 25 = some (.if_icmp .ge 71, 3, [], [0, 1, 2]) := by decide +kernel
theorem f107_28 : fr 107 28 = some (.aload 0, 1, [], []) := by decide +kernel
theorem f107_29 : fr 107 29 = some (.aload 0, 1, [], []) := by decide +kernel
theorem f107_30 : fr 107 30 = some (.getfield 2000, 3, [], []) := by decide +kernel
theorem f107_33 : fr 107 33 = some (.iload 2, 1, [], []) := by decide +kernel
theorem f107_34 : fr 107 34 = some (.iaload, 1, [], []) := by decide +kernel
theorem f107_35 : fr 107 35 = some (.iconst 1, 1, [], []) := by decide +kernel
theorem f107_36 : fr 107 36 = some (.isub, 1, [], []) := by decide +kernel
theorem f107_37 : fr 107 37 = some (.invokevirtual 108, 3, [], []) := by decide +kernel
theorem f107_40 : fr 107 40 = some (.iload 1, 1, [], []) := by decide +kernel
theorem f107_41 : fr 107 41 = some (.if_icmp .gt 65, 3, [], []) := by decide +kernel
theorem f107_44 : fr 107 44 = some (.aload 0, 1, [], []) := by decide +kernel
theorem f107_45 : fr 107 45 = some (.aload 0, 1, [], []) := by decide +kernel
theorem f107_46 : fr 107 46 = some (.getfield 2000, 3, [], []) := by decide +kernel
theorem f107_49 : fr 107 49 = some (.iload 2, 1, [], []) := by decide +kernel
theorem f107_50 : fr 107 50 = some (.iaload, 1, [], []) := by decide +kernel
theorem f107_51 : fr 107 51 = some (.invokevirtual 108, 3, [], []) := by decide +kernel
theorem f107_54 : fr 107 54 = some (.iload 1, 1, [], []) := by decide +kernel
theorem f107_55 : fr 107 55 = some (.if_icmp .le 65, 3, [1], []) := by decide +kernel
theorem f107_58 : fr 107 58 = some (.aload 0, 1, [0], []) := by decide +kernel
theorem f107_59 : fr 107 59 = some (.getfield 2000, 3, [], []) := by decide +kernel
theorem f107_62 : fr 107 62 = some (.iload 2, 1, [2], []) := by decide +kernel
theorem f107_63 : fr 107 63 = some (.iaload, 1, [], []) := by decide +kernel
theorem f107_64 : fr 107 64 = some (.ireturn, 1, [], []) := by decide +kernel
theorem f107_65 : fr 107 65 = some (.iinc 2 1, 3, [], []) := by decide +kernel
theorem f107_68 : fr 107 68 = some (.goto 11, 3, [], []) := by decide +kernel
theorem f107_71 : fr 107 71 = some (.iconst 0, 1, [], []) := by decide +kernel
theorem f107_72 : fr 107 72 = some (.ireturn, 1, [], []) := by decide +kernel
theorem t107_0 {X : XX} {d : Nat} {sz sl : Nat} {sh : Nat → Nat × Nat} {R : Nat → Nat → Option Nat} {I : Nat → Nat → Int32} {J : Nat → Nat → Int64} (hS : SF sh R)  : exe X d 107 0 [Value.ref 15, dm, dm] [] (sz, sl, sh, R, I, J) =
    exe X d 107 11 [Value.ref 15, Value.int (((I 15 1) - (1)) / (2)), Value.int (0)] [] (sz, sl, sh, R, I, J) :=
  tq ((E_aload (v := Value.ref 15) rfl rfl f107_0)) (tq (tq ((G2001 f107_1)) (if_pos (zS15 hS))) (tq ((E_iconst (x := (1)) (by decide) f107_4)) (tq ((E_isub f107_5)) (tq ((E_iconst (x := (2)) (by decide) f107_6)) (tq ((E_idiv (by decide) f107_7)) (tq ((E_istore rfl f107_8)) (tq ((E_iconst (x := (0)) (by decide) f107_9)) ((E_istore rfl f107_10)))))))))
theorem t107_11 {X : XX} {d : Nat} {sz sl : Nat} {sh : Nat → Nat × Nat} {R : Nat → Nat → Option Nat} {I : Nat → Nat → Int32} {J : Nat → Nat → Int64} (hS : SF sh R) {l1 : Int32} {l2 : Int32} : exe X d 107 11 [Value.ref 15, Value.int l1, Value.int l2] [] (sz, sl, sh, R, I, J) =
    (if (I 15 1) ≤ l2 then some (some (Value.int (0)), (sz, sl, sh, R, I, J)) else (if (30) ≤ l2 then some (some (Value.int (0)), (sz, sl, sh, R, I, J)) else (if inb l2 30 then ((ev X d 108 [Value.ref 15, Value.int ((I 16 l2.toNatClampNeg) - (1))] (sz, sl, sh, R, I, J)).bind fun q => exe X d 107 40 [Value.ref 15, Value.int l1, Value.int l2] (q.1.toList ++ []) q.2) else none))) :=
  tq ((E_iload (x := l2) rfl f107_11)) (tq ((E_aload (v := Value.ref 15) rfl rfl f107_12)) (tq (tq ((G2001 f107_13)) (if_pos (zS15 hS))) (tq ((E_ic_ge f107_16)) (ite_c (tq ((E_iconst (x := (0)) (by decide) f107_71)) ((E_iret pr_107 f107_72))) (tq ((E_iload (x := l2) rfl f107_19)) (tq ((E_aload (v := Value.ref 15) rfl rfl f107_20)) (tq (tq ((G2000 f107_21)) (if_pos (zS15 hS))) (tq (exe_R (zR15_0 hS)) (tq (tq (E_len f107_24) (ite_len (m := 30) (A := fun m => exe X d 107 25 [Value.ref 15, Value.int l1, Value.int l2] (.int (Int32.ofNat m) :: [Value.int l2]) (sz, sl, sh, R, I, J)) (zS16 hS) (by decide))) (tq ((E_ic_ge f107_25)) (ite_c (tq ((E_iconst (x := (0)) (by decide) f107_71)) ((E_iret pr_107 f107_72))) (tq ((E_aload (v := Value.ref 15) rfl rfl f107_28)) (tq ((E_aload (v := Value.ref 15) rfl rfl f107_29)) (tq (tq ((G2000 f107_30)) (if_pos (zS15 hS))) (tq (exe_R (zR15_0 hS)) (tq ((E_iload (x := l2) rfl f107_33)) (tq (tq ((E_iald f107_34)) (ite_ar (zS16 hS))) (ite_c (tq ((E_iconst (x := (1)) (by decide) f107_35)) (tq ((E_isub f107_36)) ((tq ((E_callV pn_108 pc_108 rfl rfl (Nat.le_of_ble_eq_true rfl) f107_37)) (if_pos (zS15 hS)))))) rfl))))))))))))))))))
theorem t107_40 {X : XX} {d : Nat} {sz sl : Nat} {sh : Nat → Nat × Nat} {R : Nat → Nat → Option Nat} {I : Nat → Nat → Int32} {J : Nat → Nat → Int64} (hS : SF sh R) {l1 : Int32} {l2 : Int32} {s0 : Int32} : exe X d 107 40 [Value.ref 15, Value.int l1, Value.int l2] [Value.int s0] (sz, sl, sh, R, I, J) =
    (if l1 < s0 then exe X d 107 11 [Value.ref 15, Value.int l1, Value.int (l2 + (1))] [] (sz, sl, sh, R, I, J) else (if inb l2 30 then ((ev X d 108 [Value.ref 15, Value.int (I 16 l2.toNatClampNeg)] (sz, sl, sh, R, I, J)).bind fun q => exe X d 107 54 [Value.ref 15, Value.int l1, Value.int l2] (q.1.toList ++ []) q.2) else none)) :=
  tq ((E_iload (x := l1) rfl f107_40)) (tq ((E_ic_gt f107_41)) (ite_c (tq ((E_iinc (x := l2) (x' := (1)) rfl rfl (by decide) f107_65)) ((E_goto f107_68))) (tq ((E_aload (v := Value.ref 15) rfl rfl f107_44)) (tq ((E_aload (v := Value.ref 15) rfl rfl f107_45)) (tq (tq ((G2000 f107_46)) (if_pos (zS15 hS))) (tq (exe_R (zR15_0 hS)) (tq ((E_iload (x := l2) rfl f107_49)) (tq (tq ((E_iald f107_50)) (ite_ar (zS16 hS))) (ite_c ((tq ((E_callV pn_108 pc_108 rfl rfl (Nat.le_of_ble_eq_true rfl) f107_51)) (if_pos (zS15 hS)))) rfl)))))))))
theorem t107_54 {X : XX} {d : Nat} {sz sl : Nat} {sh : Nat → Nat × Nat} {R : Nat → Nat → Option Nat} {I : Nat → Nat → Int32} {J : Nat → Nat → Int64} (hS : SF sh R) {l1 : Int32} {l2 : Int32} {s0 : Int32} : exe X d 107 54 [Value.ref 15, Value.int l1, Value.int l2] [Value.int s0] (sz, sl, sh, R, I, J) =
    (if s0 ≤ l1 then exe X d 107 11 [Value.ref 15, Value.int l1, Value.int (l2 + (1))] [] (sz, sl, sh, R, I, J) else (if inb l2 30 then some (some (Value.int (I 16 l2.toNatClampNeg)), (sz, sl, sh, R, I, J)) else none)) :=
  tq ((E_iload (x := l1) rfl f107_54)) (tq ((E_ic_le f107_55)) (ite_c (tq ((E_iinc (x := l2) (x' := (1)) rfl rfl (by decide) f107_65)) ((E_goto f107_68))) (tq ((E_aload (v := Value.ref 15) rfl rfl f107_58)) (tq (tq ((G2000 f107_59)) (if_pos (zS15 hS))) (tq (exe_R (zR15_0 hS)) (tq ((E_iload (x := l2) rfl f107_62)) (tq (tq ((E_iald f107_63)) (ite_ar (zS16 hS))) (ite_c ((E_iret pr_107 f107_64)) rfl))))))))
theorem n107 {X : XX} {d : Nat} {h : HP}  : ev X (d + 1) 107 [Value.ref 15] h = exe X d 107 0 [Value.ref 15, dm, dm] [] h := ev_exe (Nat.le_of_ble_eq_true rfl)
theorem f108_0 : fr 108 0 = some (.iconst 0, 1, [], []) := by decide +kernel
theorem f108_1 : fr 108 1 = some (.istore 2, 1, [], []) := by decide +kernel
theorem f108_2 : fr 108 2 = some (.iconst 0, 1, [], []) := by decide +kernel
theorem f108_3 : fr 108 3 = some (.istore 3, 1, [], []) := by decide +kernel
theorem f108_4 : fr 108 4 = some (.iload 3, 1, [], []) := by decide +kernel
theorem f108_5 : fr 108 5 = some (.aload 0, 1, [], []) := by decide +kernel
theorem f108_6 : fr 108 6 = some (.getfield 2001, 3, [], []) := by decide +kernel
theorem f108_9 : fr 108 9 = some (.if_icmp .ge 40, 3, [], [0, 1, 3]) := by decide +kernel
theorem f108_12 : fr 108 12 = some (.iload 3, 1, [], []) := by decide +kernel
theorem f108_13 : fr 108 13 = some (.aload 0, 1, [], []) := by decide +kernel
theorem f108_14 : fr 108 14 = some (.getfield 2000, 3, [], []) := by decide +kernel
theorem f108_17 : fr 108 17 = some (.arraylength, 1, [], []) := by decide +kernel
theorem f108_18 : fr 108 18 = some (.if_icmp .ge 40, 3, [], [0, 1, 3]) := by decide +kernel
theorem f108_21 : fr 108 21 = some (.aload 0, 1, [], []) := by decide +kernel
theorem f108_22 : fr 108 22 = some (.getfield 2000, 3, [], []) := by decide +kernel
theorem f108_25 : fr 108 25 = some (.iload 3, 1, [], []) := by decide +kernel
theorem f108_26 : fr 108 26 = some (.iaload, 1, [], []) := by decide +kernel
theorem f108_27 : fr 108 27 = some (.iload 1, 1, [], []) := by decide +kernel
theorem f108_28 : fr 108 28 = some (.if_icmp .gt 34, 3, [], []) := by decide +kernel
theorem f108_31 : fr 108 31 = some (.iinc 2 1, 3, [], []) := by decide +kernel
theorem f108_34 : fr 108 34 = some (.iinc 3 1, 3, [], []) := by decide +kernel
theorem f108_37 : fr 108 37 = some (.goto 4, 3, [], []) := by decide +kernel
theorem f108_40 : fr 108 40 = some (.iload 2, 1, [2], []) := by decide +kernel
theorem f108_41 : fr 108 41 = some (.ireturn, 1, [], []) := by decide +kernel
theorem t108_0 {X : XX} {d : Nat} {sz sl : Nat} {sh : Nat → Nat × Nat} {R : Nat → Nat → Option Nat} {I : Nat → Nat → Int32} {J : Nat → Nat → Int64} {l1 : Int32} : exe X d 108 0 [Value.ref 15, Value.int l1, dm, dm] [] (sz, sl, sh, R, I, J) =
    exe X d 108 4 [Value.ref 15, Value.int l1, Value.int (0), Value.int (0)] [] (sz, sl, sh, R, I, J) :=
  tq ((E_iconst (x := (0)) (by decide) f108_0)) (tq ((E_istore rfl f108_1)) (tq ((E_iconst (x := (0)) (by decide) f108_2)) ((E_istore rfl f108_3))))
theorem t108_4 {X : XX} {d : Nat} {sz sl : Nat} {sh : Nat → Nat × Nat} {R : Nat → Nat → Option Nat} {I : Nat → Nat → Int32} {J : Nat → Nat → Int64} (hS : SF sh R) {l1 : Int32} {l2 : Int32} {l3 : Int32} : exe X d 108 4 [Value.ref 15, Value.int l1, Value.int l2, Value.int l3] [] (sz, sl, sh, R, I, J) =
    (if (I 15 1) ≤ l3 then some (some (Value.int l2), (sz, sl, sh, R, I, J)) else (if (30) ≤ l3 then some (some (Value.int l2), (sz, sl, sh, R, I, J)) else (if inb l3 30 then (if l1 < (I 16 l3.toNatClampNeg) then exe X d 108 4 [Value.ref 15, Value.int l1, Value.int l2, Value.int (l3 + (1))] [] (sz, sl, sh, R, I, J) else exe X d 108 4 [Value.ref 15, Value.int l1, Value.int (l2 + (1)), Value.int (l3 + (1))] [] (sz, sl, sh, R, I, J)) else none))) :=
  tq ((E_iload (x := l3) rfl f108_4)) (tq ((E_aload (v := Value.ref 15) rfl rfl f108_5)) (tq (tq ((G2001 f108_6)) (if_pos (zS15 hS))) (tq ((E_ic_ge f108_9)) (ite_c (tq ((E_iload (x := l2) rfl f108_40)) ((E_iret pr_108 f108_41))) (tq ((E_iload (x := l3) rfl f108_12)) (tq ((E_aload (v := Value.ref 15) rfl rfl f108_13)) (tq (tq ((G2000 f108_14)) (if_pos (zS15 hS))) (tq (exe_R (zR15_0 hS)) (tq (tq (E_len f108_17) (ite_len (m := 30) (A := fun m => exe X d 108 18 [Value.ref 15, Value.int l1, Value.int l2, Value.int l3] (.int (Int32.ofNat m) :: [Value.int l3]) (sz, sl, sh, R, I, J)) (zS16 hS) (by decide))) (tq ((E_ic_ge f108_18)) (ite_c (tq ((E_iload (x := l2) rfl f108_40)) ((E_iret pr_108 f108_41))) (tq ((E_aload (v := Value.ref 15) rfl rfl f108_21)) (tq (tq ((G2000 f108_22)) (if_pos (zS15 hS))) (tq (exe_R (zR15_0 hS)) (tq ((E_iload (x := l3) rfl f108_25)) (tq (tq ((E_iald f108_26)) (ite_ar (zS16 hS))) (ite_c (tq ((E_iload (x := l1) rfl f108_27)) (tq ((E_ic_gt f108_28)) (ite_c (tq ((E_iinc (x := l3) (x' := (1)) rfl rfl (by decide) f108_34)) ((E_goto f108_37))) (tq ((E_iinc (x := l2) (x' := (1)) rfl rfl (by decide) f108_31)) (tq ((E_iinc (x := l3) (x' := (1)) rfl rfl (by decide) f108_34)) ((E_goto f108_37))))))) rfl)))))))))))))))))
theorem n108 {X : XX} {d : Nat} {h : HP} {a0 : Int32} : ev X (d + 1) 108 [Value.ref 15, Value.int a0] h = exe X d 108 0 [Value.ref 15, Value.int a0, dm, dm] [] h := ev_exe (Nat.le_of_ble_eq_true rfl)
theorem f109_0 : fr 109 0 = some (.iload 1, 1, [], []) := by decide +kernel
theorem f109_1 : fr 109 1 = some (.iconst 1, 1, [], []) := by decide +kernel
theorem f109_2 : fr 109 2 = some (.iconst 100, 2, [], []) := by decide +kernel
theorem f109_4 : fr 109 4 = some (.invokestatic 10, 3, [], []) := by decide +kernel
theorem f109_7 : fr 109 7 = some (.ifCond .ne 12, 3, [0, 1, 2], []) := by decide +kernel
theorem f109_10 : fr 109 10 = some (.iconst (-1), 1, [], []) := by decide +kernel
theorem f109_11 : fr 109 11 = some (.ireturn, 1, [], []) := by decide +kernel
theorem f109_12 : fr 109 12 = some (.aload 0, 1, [], []) := by decide +kernel
theorem f109_13 : fr 109 13 = some (.getfield 9, 3, [], []) := by decide +kernel
theorem f109_16 : fr 109 16 = some (.getfield 2001, 3, [], []) := by decide +kernel
theorem f109_19 : fr 109 19 = some (.ifCond .ne 27, 3, [0, 1, 2], []) := by decide +kernel
theorem f109_22 : fr 109 22 = some (.iconst (-5), 2, [], []) := by decide +kernel
theorem f109_24 : fr 109 24 = some (.goto 36, 3, [], []) := by decide +kernel
theorem f109_27 : fr 109 27 = some (.aload 0, 1, [0], []) := by decide +kernel
theorem f109_28 : fr 109 28 = some (.getfield 9, 3, [], []) := by decide +kernel
theorem f109_31 : fr 109 31 = some (.iload 1, 1, [1], []) := by decide +kernel
theorem f109_32 : fr 109 32 = some (.iload 2, 1, [2], []) := by decide +kernel
theorem f109_33 : fr 109 33 = some (.invokevirtual 110, 3, [], []) := by decide +kernel
theorem f109_36 : fr 109 36 = some (.ireturn, 1, [], []) := by decide +kernel
theorem t109_0 {X : XX} {d : Nat} {sz sl : Nat} {sh : Nat → Nat × Nat} {R : Nat → Nat → Option Nat} {I : Nat → Nat → Int32} {J : Nat → Nat → Int64} {l1 : Int32} {l2 : Int32} : exe X d 109 0 [Value.ref 0, Value.int l1, Value.int l2] [] (sz, sl, sh, R, I, J) =
    ((ev X d 10 [Value.int l1, Value.int (1), Value.int (100)] (sz, sl, sh, R, I, J)).bind fun q => exe X d 109 7 [Value.ref 0, Value.int l1, Value.int l2] (q.1.toList ++ []) q.2) :=
  tq ((E_iload (x := l1) rfl f109_0)) (tq ((E_iconst (x := (1)) (by decide) f109_1)) (tq ((E_iconst (x := (100)) (by decide) f109_2)) ((E_callS pn_10 rfl rfl (Nat.le_of_ble_eq_true rfl) (Nat.le_of_ble_eq_true rfl) f109_4))))
theorem t109_7 {X : XX} {d : Nat} {sz sl : Nat} {sh : Nat → Nat × Nat} {R : Nat → Nat → Option Nat} {I : Nat → Nat → Int32} {J : Nat → Nat → Int64} (hS : SF sh R) {l1 : Int32} {l2 : Int32} {s0 : Int32} : exe X d 109 7 [Value.ref 0, Value.int l1, Value.int l2] [Value.int s0] (sz, sl, sh, R, I, J) =
    (if ¬ s0 = 0 then (if ¬ (I 15 1) = 0 then ((ev X d 110 [Value.ref 15, Value.int l1, Value.int l2] (sz, sl, sh, R, I, J)).bind fun q => exe X d 109 36 [dm, dm, dm] (q.1.toList ++ []) q.2) else exe X d 109 36 [dm, dm, dm] [Value.int (-5)] (sz, sl, sh, R, I, J)) else some (some (Value.int (-1)), (sz, sl, sh, R, I, J))) :=
  tq ((E_if_ne f109_7)) (ite_c (tq ((E_aload (v := Value.ref 0) rfl rfl f109_12)) (tq (tq ((G9 f109_13)) (if_pos (zS0 hS))) (tq (exe_R (zR0_9 hS)) (tq (tq ((G2001 f109_16)) (if_pos (zS15 hS))) (tq ((E_if_ne f109_19)) (ite_c (tq ((E_aload (v := Value.ref 0) rfl rfl f109_27)) (tq (tq ((G9 f109_28)) (if_pos (zS0 hS))) (tq (exe_R (zR0_9 hS)) (tq ((E_iload (x := l1) rfl f109_31)) (tq ((E_iload (x := l2) rfl f109_32)) ((tq ((E_callV pn_110 pc_110 rfl rfl (Nat.le_of_ble_eq_true rfl) f109_33)) (if_pos (zS15 hS))))))))) (tq ((E_iconst (x := (-5)) (by decide) f109_22)) ((E_goto f109_24))))))))) (tq ((E_iconst (x := (-1)) (by decide) f109_10)) ((E_iret pr_109 f109_11))))
theorem t109_36 {X : XX} {d : Nat} {sz sl : Nat} {sh : Nat → Nat × Nat} {R : Nat → Nat → Option Nat} {I : Nat → Nat → Int32} {J : Nat → Nat → Int64} {s0 : Int32} : exe X d 109 36 [dm, dm, dm] [Value.int s0] (sz, sl, sh, R, I, J) =
    some (some (Value.int s0), (sz, sl, sh, R, I, J)) :=
  (E_iret pr_109 f109_36)
theorem n109 {X : XX} {d : Nat} {h : HP} {a0 : Int32} {a1 : Int32} : ev X (d + 1) 109 [Value.ref 0, Value.int a0, Value.int a1] h = exe X d 109 0 [Value.ref 0, Value.int a0, Value.int a1] [] h := ev_exe (Nat.le_of_ble_eq_true rfl)
theorem f110_0 : fr 110 0 = some (.iload 2, 1, [2], []) := by decide +kernel
theorem f110_1 : fr 110 1 = some (.istore 3, 1, [], []) := by decide +kernel
theorem f110_2 : fr 110 2 = some (.iconst 0, 1, [], []) := by decide +kernel
theorem f110_3 : fr 110 3 = some (.istore 4, 2, [], []) := by decide +kernel
theorem f110_5 : fr 110 5 = some (.iconst 0, 1, [], []) := by decide +kernel
theorem f110_6 : fr 110 6 = some (.istore 5, 2, [], []) := by decide +kernel
theorem f110_8 : fr 110 8 = some (.iload 5, 2, [], []) := by decide +kernel
theorem f110_10 : fr 110 10 = some (.iload 1, 1, [], []) := by decide +kernel
theorem f110_11 : fr 110 11 = some (.if_icmp .ge 73, 3, [], [0, 1, 3, 5]) := by decide +kernel
theorem f110_14 : fr 110 14 = some (.aload 0, 1, [], []) := by decide +kernel
theorem f110_15 : fr 110 15 = some (.getfield 2001, 3, [], []) := by decide +kernel
theorem f110_18 : fr 110 18 = some (.ifCond .le 73, 3, [], [0, 1, 3, 5]) := by decide +kernel
theorem f110_21 : fr 110 21 = some (.iload 3, 1, [3], []) := by decide +kernel
theorem f110_22 : fr 110 22 = some (.iconst 1103515245, 2, [], []) := by decide +kernel
theorem f110_24 : fr 110 24 = some (.imul, 1, [], []) := by decide +kernel
theorem f110_25 : fr 110 25 = some (.iconst 12345, 3, [], []) := by decide +kernel
theorem f110_28 : fr 110 28 = some (.iadd, 1, [], []) := by decide +kernel
theorem f110_29 : fr 110 29 = some (.istore 3, 1, [], []) := by decide +kernel
theorem f110_30 : fr 110 30 = some (.iload 3, 1, [], []) := by decide +kernel
theorem f110_31 : fr 110 31 = some (.iconst 8, 2, [], []) := by decide +kernel
theorem f110_33 : fr 110 33 = some (.iushr, 1, [], []) := by decide +kernel
theorem f110_34 : fr 110 34 = some (.aload 0, 1, [], []) := by decide +kernel
theorem f110_35 : fr 110 35 = some (.getfield 2001, 3, [], []) := by decide +kernel
theorem f110_38 : fr 110 38 = some (.irem, 1, [], []) := by decide +kernel
theorem f110_39 : fr 110 39 = some (.istore 6, 2, [], []) := by decide +kernel
theorem f110_41 : fr 110 41 = some (.iload 4, 2, [4], []) := by decide +kernel
theorem f110_43 : fr 110 43 = some (.iload 6, 2, [], []) := by decide +kernel
theorem f110_45 : fr 110 45 = some (.aload 0, 1, [], []) := by decide +kernel
theorem f110_46 : fr 110 46 = some (.getfield 2000, 3, [], []) := by decide +kernel
theorem f110_49 : fr 110 49 = some (.arraylength, 1, [], []) := by decide +kernel
theorem f110_50 : fr 110 50 = some (.if_icmp .ge 63, 3, [], [6]) := by decide +kernel
theorem f110_53 : fr 110 53 = some (.aload 0, 1, [], []) := by decide +kernel
theorem f110_54 : fr 110 54 = some (.getfield 2000, 3, [], []) := by decide +kernel
theorem f110_57 : fr 110 57 = some (.iload 6, 2, [6], []) := by decide +kernel
theorem f110_59 : fr 110 59 = some (.iaload, 1, [], []) := by decide +kernel
theorem f110_60 : fr 110 60 = some (.goto 64, 3, [], []) := by decide +kernel
theorem f110_63 : fr 110 63 = some (.iconst 0, 1, [], []) := by decide +kernel
theorem f110_64 : fr 110 64 = some (.iadd, 1, [], []) := by decide +kernel
theorem f110_65 : fr 110 65 = some (.istore 4, 2, [], []) := by decide +kernel
theorem f110_67 : fr 110 67 = some (.iinc 5 1, 3, [], []) := by decide +kernel
theorem f110_70 : fr 110 70 = some (.goto 8, 3, [], []) := by decide +kernel
theorem f110_73 : fr 110 73 = some (.iload 4, 2, [4], []) := by decide +kernel
theorem f110_75 : fr 110 75 = some (.ireturn, 1, [], []) := by decide +kernel
theorem t110_0 {X : XX} {d : Nat} {sz sl : Nat} {sh : Nat → Nat × Nat} {R : Nat → Nat → Option Nat} {I : Nat → Nat → Int32} {J : Nat → Nat → Int64} {l1 : Int32} {l2 : Int32} : exe X d 110 0 [Value.ref 15, Value.int l1, Value.int l2, dm, dm, dm, dm] [] (sz, sl, sh, R, I, J) =
    exe X d 110 8 [Value.ref 15, Value.int l1, dm, Value.int l2, Value.int (0), Value.int (0), dm] [] (sz, sl, sh, R, I, J) :=
  tq ((E_iload (x := l2) rfl f110_0)) (tq ((E_istore rfl f110_1)) (tq ((E_iconst (x := (0)) (by decide) f110_2)) (tq ((E_istore rfl f110_3)) (tq ((E_iconst (x := (0)) (by decide) f110_5)) ((E_istore rfl f110_6))))))
theorem t110_8 {X : XX} {d : Nat} {sz sl : Nat} {sh : Nat → Nat × Nat} {R : Nat → Nat → Option Nat} {I : Nat → Nat → Int32} {J : Nat → Nat → Int64} (hS : SF sh R) {l1 : Int32} {l3 : Int32} {l4 : Int32} {l5 : Int32} : exe X d 110 8 [Value.ref 15, Value.int l1, dm, Value.int l3, Value.int l4, Value.int l5, dm] [] (sz, sl, sh, R, I, J) =
    (if l1 ≤ l5 then some (some (Value.int l4), (sz, sl, sh, R, I, J)) else (if (I 15 1) ≤ 0 then some (some (Value.int l4), (sz, sl, sh, R, I, J)) else (if (I 15 1) = 0 then none else (if (30) ≤ ((ush ((l3 * (1103515245)) + (12345)) (8)) - (ush ((l3 * (1103515245)) + (12345)) (8)) / (I 15 1) * (I 15 1)) then exe X d 110 8 [Value.ref 15, Value.int l1, dm, Value.int ((l3 * (1103515245)) + (12345)), Value.int (l4 + (0)), Value.int (l5 + (1)), dm] [] (sz, sl, sh, R, I, J) else (if inb ((ush ((l3 * (1103515245)) + (12345)) (8)) - (ush ((l3 * (1103515245)) + (12345)) (8)) / (I 15 1) * (I 15 1)) 30 then exe X d 110 8 [Value.ref 15, Value.int l1, dm, Value.int ((l3 * (1103515245)) + (12345)), Value.int (l4 + (I 16 ((ush ((l3 * (1103515245)) + (12345)) (8)) - (ush ((l3 * (1103515245)) + (12345)) (8)) / (I 15 1) * (I 15 1)).toNatClampNeg)), Value.int (l5 + (1)), dm] [] (sz, sl, sh, R, I, J) else none))))) :=
  tq ((E_iload (x := l5) rfl f110_8)) (tq ((E_iload (x := l1) rfl f110_10)) (tq ((E_ic_ge f110_11)) (ite_c (tq ((E_iload (x := l4) rfl f110_73)) ((E_iret pr_110 f110_75))) (tq ((E_aload (v := Value.ref 15) rfl rfl f110_14)) (tq (tq ((G2001 f110_15)) (if_pos (zS15 hS))) (tq ((E_if_le f110_18)) (ite_c (tq ((E_iload (x := l4) rfl f110_73)) ((E_iret pr_110 f110_75))) (tq ((E_iload (x := l3) rfl f110_21)) (tq ((E_iconst (x := (1103515245)) (by decide) f110_22)) (tq ((E_imul f110_24)) (tq ((E_iconst (x := (12345)) (by decide) f110_25)) (tq ((E_iadd f110_28)) (tq ((E_istore rfl f110_29)) (tq ((E_iload (x := ((l3 * (1103515245)) + (12345))) rfl f110_30)) (tq ((E_iconst (x := (8)) (by decide) f110_31)) (tq ((E_ush f110_33)) (tq ((E_aload (v := Value.ref 15) rfl rfl f110_34)) (tq (tq ((G2001 f110_35)) (if_pos (zS15 hS))) (tq (E_irem' f110_38) (ite_c rfl (tq ((E_istore rfl f110_39)) (tq ((E_iload (x := l4) rfl f110_41)) (tq ((E_iload (x := ((ush ((l3 * (1103515245)) + (12345)) (8)) - (ush ((l3 * (1103515245)) + (12345)) (8)) / (I 15 1) * (I 15 1))) rfl f110_43)) (tq ((E_aload (v := Value.ref 15) rfl rfl f110_45)) (tq (tq ((G2000 f110_46)) (if_pos (zS15 hS))) (tq (exe_R (zR15_0 hS)) (tq (tq (E_len f110_49) (ite_len (m := 30) (A := fun m => exe X d 110 50 [Value.ref 15, Value.int l1, dm, Value.int ((l3 * (1103515245)) + (12345)), dm, Value.int l5, Value.int ((ush ((l3 * (1103515245)) + (12345)) (8)) - (ush ((l3 * (1103515245)) + (12345)) (8)) / (I 15 1) * (I 15 1))] (.int (Int32.ofNat m) :: [Value.int ((ush ((l3 * (1103515245)) + (12345)) (8)) - (ush ((l3 * (1103515245)) + (12345)) (8)) / (I 15 1) * (I 15 1)), Value.int l4]) (sz, sl, sh, R, I, J)) (zS16 hS) (by decide))) (tq ((E_ic_ge f110_50)) (ite_c (tq ((E_iconst (x := (0)) (by decide) f110_63)) (tq ((E_iadd f110_64)) (tq ((E_istore rfl f110_65)) (tq ((E_iinc (x := l5) (x' := (1)) rfl rfl (by decide) f110_67)) ((E_goto f110_70)))))) (tq ((E_aload (v := Value.ref 15) rfl rfl f110_53)) (tq (tq ((G2000 f110_54)) (if_pos (zS15 hS))) (tq (exe_R (zR15_0 hS)) (tq ((E_iload (x := ((ush ((l3 * (1103515245)) + (12345)) (8)) - (ush ((l3 * (1103515245)) + (12345)) (8)) / (I 15 1) * (I 15 1))) rfl f110_57)) (tq (tq ((E_iald f110_59)) (ite_ar (zS16 hS))) (ite_c (tq ((E_goto f110_60)) (tq ((E_iadd f110_64)) (tq ((E_istore rfl f110_65)) (tq ((E_iinc (x := l5) (x' := (1)) rfl rfl (by decide) f110_67)) ((E_goto f110_70)))))) rfl)))))))))))))))))))))))))))))))))))
theorem n110 {X : XX} {d : Nat} {h : HP} {a0 : Int32} {a1 : Int32} : ev X (d + 1) 110 [Value.ref 15, Value.int a0, Value.int a1] h = exe X d 110 0 [Value.ref 15, Value.int a0, Value.int a1, dm, dm, dm, dm] [] h := ev_exe (Nat.le_of_ble_eq_true rfl)
theorem f111_0 : fr 111 0 = some (.aload 0, 1, [], []) := by decide +kernel
theorem f111_1 : fr 111 1 = some (.getfield 10, 3, [], []) := by decide +kernel
theorem f111_4 : fr 111 4 = some (.getfield 1003, 3, [], []) := by decide +kernel
theorem f111_7 : fr 111 7 = some (.ifCond .ne 13, 3, [0], []) := by decide +kernel
theorem f111_10 : fr 111 10 = some (.iconst (-5), 2, [], []) := by decide +kernel
theorem f111_12 : fr 111 12 = some (.ireturn, 1, [], []) := by decide +kernel
theorem f111_13 : fr 111 13 = some (.aload 0, 1, [], []) := by decide +kernel
theorem f111_14 : fr 111 14 = some (.getfield 10, 3, [], []) := by decide +kernel
theorem f111_17 : fr 111 17 = some (.dup, 1, [], []) := by decide +kernel
theorem f111_18 : fr 111 18 = some (.getfield 1003, 3, [], []) := by decide +kernel
theorem f111_21 : fr 111 21 = some (.iconst 1, 1, [], []) := by decide +kernel
theorem f111_22 : fr 111 22 = some (.isub, 1, [], []) := by decide +kernel
theorem f111_23 : fr 111 23 = some (.putfield 1003, 3, [], []) := by decide +kernel
theorem f111_26 : fr 111 26 = some (.aload 0, 1, [], []) := by decide +kernel
theorem f111_27 : fr 111 27 = some (.aload 0, 1, [], []) := by decide +kernel
theorem f111_28 : fr 111 28 = some (.getfield 10, 3, [], []) := by decide +kernel
theorem f111_31 : fr 111 31 = some (.aload 0, 1, [], []) := by decide +kernel
theorem f111_32 : fr 111 32 = some (.getfield 10, 3, [], []) := by decide +kernel
theorem f111_35 : fr 111 35 = some (.getfield 1003, 3, [], []) := by decide +kernel
theorem f111_38 : fr 111 38 = some (.invokevirtual 112, 3, [], []) := by decide +kernel
theorem f111_41 : fr 111 41 = some (.aload 0, 1, [], []) := by decide +kernel
theorem f111_42 : fr 111 42 = some (.getfield 10, 3, [], []) := by decide +kernel
theorem f111_45 : fr 111 45 = some (.aload 0, 1, [], []) := by decide +kernel
theorem f111_46 : fr 111 46 = some (.getfield 10, 3, [], []) := by decide +kernel
theorem f111_49 : fr 111 49 = some (.getfield 1003, 3, [], []) := by decide +kernel
theorem f111_52 : fr 111 52 = some (.invokevirtual 113, 3, [], []) := by decide +kernel
theorem f111_55 : fr 111 55 = some (.invokevirtual 20, 3, [], []) := by decide +kernel
theorem f111_58 : fr 111 58 = some (.pop, 1, [], []) := by decide +kernel
theorem f111_59 : fr 111 59 = some (.aload 0, 1, [0], []) := by decide +kernel
theorem f111_60 : fr 111 60 = some (.getfield 10, 3, [], []) := by decide +kernel
theorem f111_63 : fr 111 63 = some (.getfield 1003, 3, [], []) := by decide +kernel
theorem f111_66 : fr 111 66 = some (.ireturn, 1, [], []) := by decide +kernel
theorem t111_0 {X : XX} {d : Nat} {sz sl : Nat} {sh : Nat → Nat × Nat} {R : Nat → Nat → Option Nat} {I : Nat → Nat → Int32} {J : Nat → Nat → Int64} (hS : SF sh R)  : exe X d 111 0 [Value.ref 0] [] (sz, sl, sh, R, I, J) =
    (if ¬ (I 17 3) = 0 then ((ev X d 112 [Value.ref 17, Value.int ((I 17 3) - (1))] (sz, sl, sh, R, (u2 I 17 3 ((I 17 3) - (1))), J)).bind fun q => exe X d 111 41 [Value.ref 0] (q.1.toList ++ [Value.ref 0]) q.2) else some (some (Value.int (-5)), (sz, sl, sh, R, I, J))) :=
  tq ((E_aload (v := Value.ref 0) rfl rfl f111_0)) (tq (tq ((G10 f111_1)) (if_pos (zS0 hS))) (tq (exe_R (zR0_10 hS)) (tq (tq ((G1003 f111_4)) (if_pos (zS17 hS))) (tq ((E_if_ne f111_7)) (ite_c (tq ((E_aload (v := Value.ref 0) rfl rfl f111_13)) (tq (tq ((G10 f111_14)) (if_pos (zS0 hS))) (tq (exe_R (zR0_10 hS)) (tq ((E_dup rfl f111_17)) (tq (tq ((G1003 f111_18)) (if_pos (zS17 hS))) (tq ((E_iconst (x := (1)) (by decide) f111_21)) (tq ((E_isub f111_22)) (tq (tq ((P1003 f111_23)) (if_pos (zS17 hS))) (tq ((E_aload (v := Value.ref 0) rfl rfl f111_26)) (tq ((E_aload (v := Value.ref 0) rfl rfl f111_27)) (tq (tq ((G10 f111_28)) (if_pos (zS0 hS))) (tq (exe_R (zR0_10 hS)) (tq ((E_aload (v := Value.ref 0) rfl rfl f111_31)) (tq (tq ((G10 f111_32)) (if_pos (zS0 hS))) (tq (exe_R (zR0_10 hS)) (tq (tq (tq ((G1003 f111_35)) (if_pos (zS17 hS))) (exe_i (u2_at0))) ((tq ((E_callV pn_112 pc_112 rfl rfl (Nat.le_of_ble_eq_true rfl) f111_38)) (if_pos (zS17 hS)))))))))))))))))))) (tq ((E_iconst (x := (-5)) (by decide) f111_10)) ((E_iret pr_111 f111_12))))))))
theorem t111_41 {X : XX} {d : Nat} {sz sl : Nat} {sh : Nat → Nat × Nat} {R : Nat → Nat → Option Nat} {I : Nat → Nat → Int32} {J : Nat → Nat → Int64} (hS : SF sh R) {s0 : Int32} {s1 : Value} (k1 : isB s1 = true) : exe X d 111 41 [Value.ref 0] [Value.int s0, s1] (sz, sl, sh, R, I, J) =
    ((ev X d 113 [Value.ref 17, Value.int (I 17 3)] (sz, sl, sh, R, I, J)).bind fun q => exe X d 111 55 [Value.ref 0] (q.1.toList ++ [Value.int s0, s1]) q.2) :=
  tq ((E_aload (v := Value.ref 0) rfl rfl f111_41)) (tq (tq ((G10 f111_42)) (if_pos (zS0 hS))) (tq (exe_R (zR0_10 hS)) (tq ((E_aload (v := Value.ref 0) rfl rfl f111_45)) (tq (tq ((G10 f111_46)) (if_pos (zS0 hS))) (tq (exe_R (zR0_10 hS)) (tq (tq ((G1003 f111_49)) (if_pos (zS17 hS))) ((tq ((E_callV pn_113 pc_113 rfl rfl (by simp [cats, cat_i, cat_l, cat_r, catB k1]) f111_52)) (if_pos (zS17 hS))))))))))
theorem t111_55 {X : XX} {d : Nat} {sz sl : Nat} {sh : Nat → Nat × Nat} {R : Nat → Nat → Option Nat} {I : Nat → Nat → Int32} {J : Nat → Nat → Int64} {s0 : Int32} {s1 : Int32} {s2 : Value} (k2 : isB s2 = true) : exe X d 111 55 [Value.ref 0] [Value.int s0, Value.int s1, s2] (sz, sl, sh, R, I, J) =
    (rf (s2) fun p1 => if sh p1 = (7, 0) then ((ev X d 20 [Value.ref p1, Value.int s1, Value.int s0] (sz, sl, sh, R, I, J)).bind fun q => exe X d 111 58 [Value.ref 0] (q.1.toList ++ []) q.2) else none) :=
  (E_callV pn_20 pc_20 rfl rfl (Nat.le_of_ble_eq_true rfl) f111_55)
theorem t111_58 {X : XX} {d : Nat} {sz sl : Nat} {sh : Nat → Nat × Nat} {R : Nat → Nat → Option Nat} {I : Nat → Nat → Int32} {J : Nat → Nat → Int64} (hS : SF sh R) {s0 : Int32} : exe X d 111 58 [Value.ref 0] [Value.int s0] (sz, sl, sh, R, I, J) =
    some (some (Value.int (I 17 3)), (sz, sl, sh, R, I, J)) :=
  tq ((E_pop rfl f111_58)) (tq ((E_aload (v := Value.ref 0) rfl rfl f111_59)) (tq (tq ((G10 f111_60)) (if_pos (zS0 hS))) (tq (exe_R (zR0_10 hS)) (tq (tq ((G1003 f111_63)) (if_pos (zS17 hS))) ((E_iret pr_111 f111_66))))))
theorem n111 {X : XX} {d : Nat} {h : HP}  : ev X (d + 1) 111 [Value.ref 0] h = exe X d 111 0 [Value.ref 0] [] h := ev_exe (Nat.le_of_ble_eq_true rfl)
theorem f112_0 : fr 112 0 = some (.iload 1, 1, [], []) := by decide +kernel
theorem f112_1 : fr 112 1 = some (.ifCond .lt 19, 3, [], [0, 1]) := by decide +kernel
theorem f112_4 : fr 112 4 = some (.iload 1, 1, [], []) := by decide +kernel
theorem f112_5 : fr 112 5 = some (.iconst 40, 2, [], []) := by decide +kernel
theorem f112_7 : fr 112 7 = some (.if_icmp .ge 19, 3, [], [0, 1]) := by decide +kernel
theorem f112_10 : fr 112 10 = some (.aload 0, 1, [0], []) := by decide +kernel
theorem f112_11 : fr 112 11 = some (.getfield 1000, 3, [], []) := by decide +kernel
theorem f112_14 : fr 112 14 = some (.iload 1, 1, [1], []) := by decide +kernel
theorem f112_15 : fr 112 15 = some (.iaload, 1, [], []) := by decide +kernel
theorem f112_16 : fr 112 16 = some (.goto 20, 3, [], []) := by decide +kernel
theorem f112_19 : fr 112 19 = some (.iconst 0, 1, [], []) := by decide +kernel
theorem f112_20 : fr 112 20 = some (.ireturn, 1, [], []) := by decide +kernel
theorem t112_0 {X : XX} {d : Nat} {sz sl : Nat} {sh : Nat → Nat × Nat} {R : Nat → Nat → Option Nat} {I : Nat → Nat → Int32} {J : Nat → Nat → Int64} (hS : SF sh R) {l1 : Int32} : exe X d 112 0 [Value.ref 17, Value.int l1] [] (sz, sl, sh, R, I, J) =
    (if l1 < 0 then some (some (Value.int (0)), (sz, sl, sh, R, I, J)) else (if (40) ≤ l1 then some (some (Value.int (0)), (sz, sl, sh, R, I, J)) else (if inb l1 40 then some (some (Value.int (I 18 l1.toNatClampNeg)), (sz, sl, sh, R, I, J)) else none))) :=
  tq ((E_iload (x := l1) rfl f112_0)) (tq ((E_if_lt f112_1)) (ite_c (tq ((E_iconst (x := (0)) (by decide) f112_19)) ((E_iret pr_112 f112_20))) (tq ((E_iload (x := l1) rfl f112_4)) (tq ((E_iconst (x := (40)) (by decide) f112_5)) (tq ((E_ic_ge f112_7)) (ite_c (tq ((E_iconst (x := (0)) (by decide) f112_19)) ((E_iret pr_112 f112_20))) (tq ((E_aload (v := Value.ref 17) rfl rfl f112_10)) (tq (tq ((G1000 f112_11)) (if_pos (zS17 hS))) (tq (exe_R (zR17_0 hS)) (tq ((E_iload (x := l1) rfl f112_14)) (tq (tq ((E_iald f112_15)) (ite_ar (zS18 hS))) (ite_c (tq ((E_goto f112_16)) ((E_iret pr_112 f112_20))) rfl))))))))))))
theorem n112 {X : XX} {d : Nat} {h : HP} {a0 : Int32} : ev X (d + 1) 112 [Value.ref 17, Value.int a0] h = exe X d 112 0 [Value.ref 17, Value.int a0] [] h := ev_exe (Nat.le_of_ble_eq_true rfl)
theorem f113_0 : fr 113 0 = some (.iload 1, 1, [], []) := by decide +kernel
theorem f113_1 : fr 113 1 = some (.ifCond .lt 19, 3, [], [0, 1]) := by decide +kernel
theorem f113_4 : fr 113 4 = some (.iload 1, 1, [], []) := by decide +kernel
theorem f113_5 : fr 113 5 = some (.iconst 40, 2, [], []) := by decide +kernel
theorem f113_7 : fr 113 7 = some (.if_icmp .ge 19, 3, [], [0, 1]) := by decide +kernel
theorem f113_10 : fr 113 10 = some (.aload 0, 1, [0], []) := by decide +kernel
theorem f113_11 : fr 113 11 = some (.getfield 1001, 3, [], []) := by decide +kernel
theorem f113_14 : fr 113 14 = some (.iload 1, 1, [1], []) := by decide +kernel
theorem f113_15 : fr 113 15 = some (.iaload, 1, [], []) := by decide +kernel
theorem f113_16 : fr 113 16 = some (.goto 20, 3, [], []) := by decide +kernel
theorem f113_19 : fr 113 19 = some (.iconst 0, 1, [], []) := by decide +kernel
theorem f113_20 : fr 113 20 = some (.ireturn, 1, [], []) := by decide +kernel
theorem t113_0 {X : XX} {d : Nat} {sz sl : Nat} {sh : Nat → Nat × Nat} {R : Nat → Nat → Option Nat} {I : Nat → Nat → Int32} {J : Nat → Nat → Int64} (hS : SF sh R) {l1 : Int32} : exe X d 113 0 [Value.ref 17, Value.int l1] [] (sz, sl, sh, R, I, J) =
    (if l1 < 0 then some (some (Value.int (0)), (sz, sl, sh, R, I, J)) else (if (40) ≤ l1 then some (some (Value.int (0)), (sz, sl, sh, R, I, J)) else (if inb l1 40 then some (some (Value.int (I 19 l1.toNatClampNeg)), (sz, sl, sh, R, I, J)) else none))) :=
  tq ((E_iload (x := l1) rfl f113_0)) (tq ((E_if_lt f113_1)) (ite_c (tq ((E_iconst (x := (0)) (by decide) f113_19)) ((E_iret pr_113 f113_20))) (tq ((E_iload (x := l1) rfl f113_4)) (tq ((E_iconst (x := (40)) (by decide) f113_5)) (tq ((E_ic_ge f113_7)) (ite_c (tq ((E_iconst (x := (0)) (by decide) f113_19)) ((E_iret pr_113 f113_20))) (tq ((E_aload (v := Value.ref 17) rfl rfl f113_10)) (tq (tq ((G1001 f113_11)) (if_pos (zS17 hS))) (tq (exe_R (zR17_1 hS)) (tq ((E_iload (x := l1) rfl f113_14)) (tq (tq ((E_iald f113_15)) (ite_ar (zS19 hS))) (ite_c (tq ((E_goto f113_16)) ((E_iret pr_113 f113_20))) rfl))))))))))))
theorem n113 {X : XX} {d : Nat} {h : HP} {a0 : Int32} : ev X (d + 1) 113 [Value.ref 17, Value.int a0] h = exe X d 113 0 [Value.ref 17, Value.int a0] [] h := ev_exe (Nat.le_of_ble_eq_true rfl)
theorem f114_0 : fr 114 0 = some (.aload 0, 1, [], []) := by decide +kernel
theorem f114_1 : fr 114 1 = some (.getfield 10, 3, [], []) := by decide +kernel
theorem f114_4 : fr 114 4 = some (.getfield 1003, 3, [], []) := by decide +kernel
theorem f114_7 : fr 114 7 = some (.aload 0, 1, [], []) := by decide +kernel
theorem f114_8 : fr 114 8 = some (.getfield 10, 3, [], []) := by decide +kernel
theorem f114_11 : fr 114 11 = some (.getfield 1004, 3, [], []) := by decide +kernel
theorem f114_14 : fr 114 14 = some (.if_icmp .lt 20, 3, [0], []) := by decide +kernel
theorem f114_17 : fr 114 17 = some (.iconst (-5), 2, [], []) := by decide +kernel
theorem f114_19 : fr 114 19 = some (.ireturn, 1, [], []) := by decide +kernel
theorem f114_20 : fr 114 20 = some (.aload 0, 1, [], []) := by decide +kernel
theorem f114_21 : fr 114 21 = some (.aload 0, 1, [], []) := by decide +kernel
theorem f114_22 : fr 114 22 = some (.getfield 10, 3, [], []) := by decide +kernel
theorem f114_25 : fr 114 25 = some (.aload 0, 1, [], []) := by decide +kernel
theorem f114_26 : fr 114 26 = some (.getfield 10, 3, [], []) := by decide +kernel
theorem f114_29 : fr 114 29 = some (.getfield 1003, 3, [], []) := by decide +kernel
theorem f114_32 : fr 114 32 = some (.invokevirtual 112, 3, [], []) := by decide +kernel
theorem f114_35 : fr 114 35 = some (.aload 0, 1, [], []) := by decide +kernel
theorem f114_36 : fr 114 36 = some (.getfield 10, 3, [], []) := by decide +kernel
theorem f114_39 : fr 114 39 = some (.aload 0, 1, [], []) := by decide +kernel
theorem f114_40 : fr 114 40 = some (.getfield 10, 3, [], []) := by decide +kernel
theorem f114_43 : fr 114 43 = some (.getfield 1003, 3, [], []) := by decide +kernel
theorem f114_46 : fr 114 46 = some (.invokevirtual 115, 3, [], []) := by decide +kernel
theorem f114_49 : fr 114 49 = some (.invokevirtual 20, 3, [], []) := by decide +kernel
theorem f114_52 : fr 114 52 = some (.pop, 1, [], []) := by decide +kernel
theorem f114_53 : fr 114 53 = some (.aload 0, 1, [], []) := by decide +kernel
theorem f114_54 : fr 114 54 = some (.getfield 10, 3, [], []) := by decide +kernel
theorem f114_57 : fr 114 57 = some (.dup, 1, [], []) := by decide +kernel
theorem f114_58 : fr 114 58 = some (.getfield 1003, 3, [], []) := by decide +kernel
theorem f114_61 : fr 114 61 = some (.iconst 1, 1, [], []) := by decide +kernel
theorem f114_62 : fr 114 62 = some (.iadd, 1, [], []) := by decide +kernel
theorem f114_63 : fr 114 63 = some (.putfield 1003, 3, [], []) := by decide +kernel
theorem f114_66 : fr 114 66 = some (.aload 0, 1, [], []) := by decide +kernel
theorem f114_67 : fr 114 67 = some (.getfield 10, 3, [], []) := by decide +kernel
theorem f114_70 : fr 114 70 = some (.getfield 1004, 3, [], []) := by decide +kernel
theorem f114_73 : fr 114 73 = some (.aload 0, 1, [0], []) := by decide +kernel
theorem f114_74 : fr 114 74 = some (.getfield 10, 3, [], []) := by decide +kernel
theorem f114_77 : fr 114 77 = some (.getfield 1003, 3, [], []) := by decide +kernel
theorem f114_80 : fr 114 80 = some (.isub, 1, [], []) := by decide +kernel
theorem f114_81 : fr 114 81 = some (.ireturn, 1, [], []) := by decide +kernel
theorem t114_0 {X : XX} {d : Nat} {sz sl : Nat} {sh : Nat → Nat × Nat} {R : Nat → Nat → Option Nat} {I : Nat → Nat → Int32} {J : Nat → Nat → Int64} (hS : SF sh R)  : exe X d 114 0 [Value.ref 0] [] (sz, sl, sh, R, I, J) =
    (if (I 17 3) < (I 17 4) then ((ev X d 112 [Value.ref 17, Value.int (I 17 3)] (sz, sl, sh, R, I, J)).bind fun q => exe X d 114 35 [Value.ref 0] (q.1.toList ++ [Value.ref 0]) q.2) else some (some (Value.int (-5)), (sz, sl, sh, R, I, J))) :=
  tq ((E_aload (v := Value.ref 0) rfl rfl f114_0)) (tq (tq ((G10 f114_1)) (if_pos (zS0 hS))) (tq (exe_R (zR0_10 hS)) (tq (tq ((G1003 f114_4)) (if_pos (zS17 hS))) (tq ((E_aload (v := Value.ref 0) rfl rfl f114_7)) (tq (tq ((G10 f114_8)) (if_pos (zS0 hS))) (tq (exe_R (zR0_10 hS)) (tq (tq ((G1004 f114_11)) (if_pos (zS17 hS))) (tq ((E_ic_lt f114_14)) (ite_c (tq ((E_aload (v := Value.ref 0) rfl rfl f114_20)) (tq ((E_aload (v := Value.ref 0) rfl rfl f114_21)) (tq (tq ((G10 f114_22)) (if_pos (zS0 hS))) (tq (exe_R (zR0_10 hS)) (tq ((E_aload (v := Value.ref 0) rfl rfl f114_25)) (tq (tq ((G10 f114_26)) (if_pos (zS0 hS))) (tq (exe_R (zR0_10 hS)) (tq (tq ((G1003 f114_29)) (if_pos (zS17 hS))) ((tq ((E_callV pn_112 pc_112 rfl rfl (Nat.le_of_ble_eq_true rfl) f114_32)) (if_pos (zS17 hS)))))))))))) (tq ((E_iconst (x := (-5)) (by decide) f114_17)) ((E_iret pr_114 f114_19))))))))))))
theorem t114_35 {X : XX} {d : Nat} {sz sl : Nat} {sh : Nat → Nat × Nat} {R : Nat → Nat → Option Nat} {I : Nat → Nat → Int32} {J : Nat → Nat → Int64} (hS : SF sh R) {s0 : Int32} {s1 : Value} (k1 : isB s1 = true) : exe X d 114 35 [Value.ref 0] [Value.int s0, s1] (sz, sl, sh, R, I, J) =
    ((ev X d 115 [Value.ref 17, Value.int (I 17 3)] (sz, sl, sh, R, I, J)).bind fun q => exe X d 114 49 [Value.ref 0] (q.1.toList ++ [Value.int s0, s1]) q.2) :=
  tq ((E_aload (v := Value.ref 0) rfl rfl f114_35)) (tq (tq ((G10 f114_36)) (if_pos (zS0 hS))) (tq (exe_R (zR0_10 hS)) (tq ((E_aload (v := Value.ref 0) rfl rfl f114_39)) (tq (tq ((G10 f114_40)) (if_pos (zS0 hS))) (tq (exe_R (zR0_10 hS)) (tq (tq ((G1003 f114_43)) (if_pos (zS17 hS))) ((tq ((E_callV pn_115 pc_115 rfl rfl (by simp [cats, cat_i, cat_l, cat_r, catB k1]) f114_46)) (if_pos (zS17 hS))))))))))
theorem t114_49 {X : XX} {d : Nat} {sz sl : Nat} {sh : Nat → Nat × Nat} {R : Nat → Nat → Option Nat} {I : Nat → Nat → Int32} {J : Nat → Nat → Int64} {s0 : Int32} {s1 : Int32} {s2 : Value} (k2 : isB s2 = true) : exe X d 114 49 [Value.ref 0] [Value.int s0, Value.int s1, s2] (sz, sl, sh, R, I, J) =
    (rf (s2) fun p1 => if sh p1 = (7, 0) then ((ev X d 20 [Value.ref p1, Value.int s1, Value.int s0] (sz, sl, sh, R, I, J)).bind fun q => exe X d 114 52 [Value.ref 0] (q.1.toList ++ []) q.2) else none) :=
  (E_callV pn_20 pc_20 rfl rfl (Nat.le_of_ble_eq_true rfl) f114_49)
theorem t114_52 {X : XX} {d : Nat} {sz sl : Nat} {sh : Nat → Nat × Nat} {R : Nat → Nat → Option Nat} {I : Nat → Nat → Int32} {J : Nat → Nat → Int64} (hS : SF sh R) {s0 : Int32} : exe X d 114 52 [Value.ref 0] [Value.int s0] (sz, sl, sh, R, I, J) =
    some (some (Value.int ((I 17 4) - ((I 17 3) + (1)))), (sz, sl, sh, R, (u2 I 17 3 ((I 17 3) + (1))), J)) :=
  tq ((E_pop rfl f114_52)) (tq ((E_aload (v := Value.ref 0) rfl rfl f114_53)) (tq (tq ((G10 f114_54)) (if_pos (zS0 hS))) (tq (exe_R (zR0_10 hS)) (tq ((E_dup rfl f114_57)) (tq (tq ((G1003 f114_58)) (if_pos (zS17 hS))) (tq ((E_iconst (x := (1)) (by decide) f114_61)) (tq ((E_iadd f114_62)) (tq (tq ((P1003 f114_63)) (if_pos (zS17 hS))) (tq ((E_aload (v := Value.ref 0) rfl rfl f114_66)) (tq (tq ((G10 f114_67)) (if_pos (zS0 hS))) (tq (exe_R (zR0_10 hS)) (tq (tq (tq ((G1004 f114_70)) (if_pos (zS17 hS))) (exe_i (u2_pj (by decide)))) (tq ((E_aload (v := Value.ref 0) rfl rfl f114_73)) (tq (tq ((G10 f114_74)) (if_pos (zS0 hS))) (tq (exe_R (zR0_10 hS)) (tq (tq (tq ((G1003 f114_77)) (if_pos (zS17 hS))) (exe_i (u2_at0))) (tq ((E_isub f114_80)) ((E_iret pr_114 f114_81)))))))))))))))))))
theorem n114 {X : XX} {d : Nat} {h : HP}  : ev X (d + 1) 114 [Value.ref 0] h = exe X d 114 0 [Value.ref 0] [] h := ev_exe (Nat.le_of_ble_eq_true rfl)
theorem f115_0 : fr 115 0 = some (.iload 1, 1, [], []) := by decide +kernel
theorem f115_1 : fr 115 1 = some (.ifCond .lt 19, 3, [], [0, 1]) := by decide +kernel
theorem f115_4 : fr 115 4 = some (.iload 1, 1, [], []) := by decide +kernel
theorem f115_5 : fr 115 5 = some (.iconst 40, 2, [], []) := by decide +kernel
theorem f115_7 : fr 115 7 = some (.if_icmp .ge 19, 3, [], [0, 1]) := by decide +kernel
theorem f115_10 : fr 115 10 = some (.aload 0, 1, [0], []) := by decide +kernel
theorem f115_11 : fr 115 11 = some (.getfield 1002, 3, [], []) := by decide +kernel
theorem f115_14 : fr 115 14 = some (.iload 1, 1, [1], []) := by decide +kernel
theorem f115_15 : fr 115 15 = some (.iaload, 1, [], []) := by decide +kernel
theorem f115_16 : fr 115 16 = some (.goto 20, 3, [], []) := by decide +kernel
theorem f115_19 : fr 115 19 = some (.iconst 0, 1, [], []) := by decide +kernel
theorem f115_20 : fr 115 20 = some (.ireturn, 1, [], []) := by decide +kernel
theorem t115_0 {X : XX} {d : Nat} {sz sl : Nat} {sh : Nat → Nat × Nat} {R : Nat → Nat → Option Nat} {I : Nat → Nat → Int32} {J : Nat → Nat → Int64} (hS : SF sh R) {l1 : Int32} : exe X d 115 0 [Value.ref 17, Value.int l1] [] (sz, sl, sh, R, I, J) =
    (if l1 < 0 then some (some (Value.int (0)), (sz, sl, sh, R, I, J)) else (if (40) ≤ l1 then some (some (Value.int (0)), (sz, sl, sh, R, I, J)) else (if inb l1 40 then some (some (Value.int (I 20 l1.toNatClampNeg)), (sz, sl, sh, R, I, J)) else none))) :=
  tq ((E_iload (x := l1) rfl f115_0)) (tq ((E_if_lt f115_1)) (ite_c (tq ((E_iconst (x := (0)) (by decide) f115_19)) ((E_iret pr_115 f115_20))) (tq ((E_iload (x := l1) rfl f115_4)) (tq ((E_iconst (x := (40)) (by decide) f115_5)) (tq ((E_ic_ge f115_7)) (ite_c (tq ((E_iconst (x := (0)) (by decide) f115_19)) ((E_iret pr_115 f115_20))) (tq ((E_aload (v := Value.ref 17) rfl rfl f115_10)) (tq (tq ((G1002 f115_11)) (if_pos (zS17 hS))) (tq (exe_R (zR17_2 hS)) (tq ((E_iload (x := l1) rfl f115_14)) (tq (tq ((E_iald f115_15)) (ite_ar (zS20 hS))) (ite_c (tq ((E_goto f115_16)) ((E_iret pr_115 f115_20))) rfl))))))))))))
theorem n115 {X : XX} {d : Nat} {h : HP} {a0 : Int32} : ev X (d + 1) 115 [Value.ref 17, Value.int a0] h = exe X d 115 0 [Value.ref 17, Value.int a0] [] h := ev_exe (Nat.le_of_ble_eq_true rfl)
theorem f116_0 : fr 116 0 = some (.iload 1, 1, [], []) := by decide +kernel
theorem f116_1 : fr 116 1 = some (.invokestatic 117, 3, [], []) := by decide +kernel
theorem f116_4 : fr 116 4 = some (.ifCond .ne 9, 3, [0, 1], []) := by decide +kernel
theorem f116_7 : fr 116 7 = some (.iconst (-1), 1, [], []) := by decide +kernel
theorem f116_8 : fr 116 8 = some (.ireturn, 1, [], []) := by decide +kernel
theorem f116_9 : fr 116 9 = some (.aload 0, 1, [], []) := by decide +kernel
theorem f116_10 : fr 116 10 = some (.getfield 11, 3, [], []) := by decide +kernel
theorem f116_13 : fr 116 13 = some (.iload 1, 1, [1], []) := by decide +kernel
theorem f116_14 : fr 116 14 = some (.invokevirtual 118, 3, [], []) := by decide +kernel
theorem f116_17 : fr 116 17 = some (.ifCond .eq 32, 3, [], [0]) := by decide +kernel
theorem f116_20 : fr 116 20 = some (.aload 0, 1, [0], []) := by decide +kernel
theorem f116_21 : fr 116 21 = some (.getfield 11, 3, [], []) := by decide +kernel
theorem f116_24 : fr 116 24 = some (.getfield 10003, 3, [], []) := by decide +kernel
theorem f116_27 : fr 116 27 = some (.iconst 1, 1, [], []) := by decide +kernel
theorem f116_28 : fr 116 28 = some (.isub, 1, [], []) := by decide +kernel
theorem f116_29 : fr 116 29 = some (.goto 34, 3, [], []) := by decide +kernel
theorem f116_32 : fr 116 32 = some (.iconst (-3), 2, [], []) := by decide +kernel
theorem f116_34 : fr 116 34 = some (.ireturn, 1, [], []) := by decide +kernel
theorem t116_0 {X : XX} {d : Nat} {sz sl : Nat} {sh : Nat → Nat × Nat} {R : Nat → Nat → Option Nat} {I : Nat → Nat → Int32} {J : Nat → Nat → Int64} {l1 : Int32} : exe X d 116 0 [Value.ref 0, Value.int l1] [] (sz, sl, sh, R, I, J) =
    ((ev X d 117 [Value.int l1] (sz, sl, sh, R, I, J)).bind fun q => exe X d 116 4 [Value.ref 0, Value.int l1] (q.1.toList ++ []) q.2) :=
  tq ((E_iload (x := l1) rfl f116_0)) ((E_callS pn_117 rfl rfl (Nat.le_of_ble_eq_true rfl) (Nat.le_of_ble_eq_true rfl) f116_1))
theorem t116_4 {X : XX} {d : Nat} {sz sl : Nat} {sh : Nat → Nat × Nat} {R : Nat → Nat → Option Nat} {I : Nat → Nat → Int32} {J : Nat → Nat → Int64} (hS : SF sh R) {l1 : Int32} {s0 : Int32} : exe X d 116 4 [Value.ref 0, Value.int l1] [Value.int s0] (sz, sl, sh, R, I, J) =
    (if ¬ s0 = 0 then ((ev X d 118 [Value.ref 21, Value.int l1] (sz, sl, sh, R, I, J)).bind fun q => exe X d 116 17 [Value.ref 0, dm] (q.1.toList ++ []) q.2) else some (some (Value.int (-1)), (sz, sl, sh, R, I, J))) :=
  tq ((E_if_ne f116_4)) (ite_c (tq ((E_aload (v := Value.ref 0) rfl rfl f116_9)) (tq (tq ((G11 f116_10)) (if_pos (zS0 hS))) (tq (exe_R (zR0_11 hS)) (tq ((E_iload (x := l1) rfl f116_13)) ((tq ((E_callV pn_118 pc_118 rfl rfl (Nat.le_of_ble_eq_true rfl) f116_14)) (if_pos (zS21 hS)))))))) (tq ((E_iconst (x := (-1)) (by decide) f116_7)) ((E_iret pr_116 f116_8))))
theorem t116_17 {X : XX} {d : Nat} {sz sl : Nat} {sh : Nat → Nat × Nat} {R : Nat → Nat → Option Nat} {I : Nat → Nat → Int32} {J : Nat → Nat → Int64} (hS : SF sh R) {s0 : Int32} : exe X d 116 17 [Value.ref 0, dm] [Value.int s0] (sz, sl, sh, R, I, J) =
    (if s0 = 0 then some (some (Value.int (-3)), (sz, sl, sh, R, I, J)) else some (some (Value.int ((I 21 3) - (1))), (sz, sl, sh, R, I, J))) :=
  tq ((E_if_eq f116_17)) (ite_c (tq ((E_iconst (x := (-3)) (by decide) f116_32)) ((E_iret pr_116 f116_34))) (tq ((E_aload (v := Value.ref 0) rfl rfl f116_20)) (tq (tq ((G11 f116_21)) (if_pos (zS0 hS))) (tq (exe_R (zR0_11 hS)) (tq (tq ((G10003 f116_24)) (if_pos (zS21 hS))) (tq ((E_iconst (x := (1)) (by decide) f116_27)) (tq ((E_isub f116_28)) (tq ((E_goto f116_29)) ((E_iret pr_116 f116_34))))))))))
theorem n116 {X : XX} {d : Nat} {h : HP} {a0 : Int32} : ev X (d + 1) 116 [Value.ref 0, Value.int a0] h = exe X d 116 0 [Value.ref 0, Value.int a0] [] h := ev_exe (Nat.le_of_ble_eq_true rfl)
theorem f117_0 : fr 117 0 = some (.iload 0, 1, [], []) := by decide +kernel
theorem f117_1 : fr 117 1 = some (.ifCond .lt 14, 3, [], [0]) := by decide +kernel
theorem f117_4 : fr 117 4 = some (.iload 0, 1, [0], []) := by decide +kernel
theorem f117_5 : fr 117 5 = some (.iconst 8, 2, [], []) := by decide +kernel
theorem f117_7 : fr 117 7 = some (.if_icmp .ge 14, 3, [], []) := by decide +kernel
theorem f117_10 : fr 117 10 = some (.iconst 1, 1, [], []) := by decide +kernel
theorem f117_11 : fr 117 11 = some (.goto 15, 3, [], []) := by decide +kernel
theorem f117_14 : fr 117 14 = some (.iconst 0, 1, [], []) := by decide +kernel
theorem f117_15 : fr 117 15 = some (.ireturn, 1, [], []) := by decide +kernel
theorem t117_0 {X : XX} {d : Nat} {sz sl : Nat} {sh : Nat → Nat × Nat} {R : Nat → Nat → Option Nat} {I : Nat → Nat → Int32} {J : Nat → Nat → Int64} {l0 : Int32} : exe X d 117 0 [Value.int l0] [] (sz, sl, sh, R, I, J) =
    (if l0 < 0 then some (some (Value.int (0)), (sz, sl, sh, R, I, J)) else (if (8) ≤ l0 then some (some (Value.int (0)), (sz, sl, sh, R, I, J)) else some (some (Value.int (1)), (sz, sl, sh, R, I, J)))) :=
  tq ((E_iload (x := l0) rfl f117_0)) (tq ((E_if_lt f117_1)) (ite_c (tq ((E_iconst (x := (0)) (by decide) f117_14)) (tq (E_zret pr_117 f117_15) (if_pos (by decide)))) (tq ((E_iload (x := l0) rfl f117_4)) (tq ((E_iconst (x := (8)) (by decide) f117_5)) (tq ((E_ic_ge f117_7)) (ite_c (tq ((E_iconst (x := (0)) (by decide) f117_14)) (tq (E_zret pr_117 f117_15) (if_pos (by decide)))) (tq ((E_iconst (x := (1)) (by decide) f117_10)) (tq ((E_goto f117_11)) (tq (E_zret pr_117 f117_15) (if_pos (by decide)))))))))))
theorem n117 {X : XX} {d : Nat} {h : HP} {a0 : Int32} : ev X (d + 1) 117 [Value.int a0] h = exe X d 117 0 [Value.int a0] [] h := ev_exe (Nat.le_of_ble_eq_true rfl)
theorem f118_0 : fr 118 0 = some (.aload 0, 1, [], []) := by decide +kernel
theorem f118_1 : fr 118 1 = some (.getfield 10003, 3, [], []) := by decide +kernel
theorem f118_4 : fr 118 4 = some (.aload 0, 1, [], []) := by decide +kernel
theorem f118_5 : fr 118 5 = some (.getfield 10000, 3, [], []) := by decide +kernel
theorem f118_8 : fr 118 8 = some (.arraylength, 1, [], []) := by decide +kernel
theorem f118_9 : fr 118 9 = some (.if_icmp .lt 14, 3, [0, 1], []) := by decide +kernel
theorem f118_12 : fr 118 12 = some (.iconst 0, 1, [], []) := by decide +kernel
theorem f118_13 : fr 118 13 = some (.ireturn, 1, [], []) := by decide +kernel
theorem f118_14 : fr 118 14 = some (.aload 0, 1, [], []) := by decide +kernel
theorem f118_15 : fr 118 15 = some (.getfield 10000, 3, [], []) := by decide +kernel
theorem f118_18 : fr 118 18 = some (.aload 0, 1, [], []) := by decide +kernel
theorem f118_19 : fr 118 19 = some (.getfield 10003, 3, [], []) := by decide +kernel
theorem f118_22 : fr 118 22 = some (.iload 1, 1, [1], []) := by decide +kernel
theorem f118_23 : fr 118 23 = some (.iastore, 1, [], []) := by decide +kernel
theorem f118_24 : fr 118 24 = some (.aload 0, 1, [0], []) := by decide +kernel
theorem f118_25 : fr 118 25 = some (.dup, 1, [], []) := by decide +kernel
theorem f118_26 : fr 118 26 = some (.getfield 10003, 3, [], []) := by decide +kernel
theorem f118_29 : fr 118 29 = some (.iconst 1, 1, [], []) := by decide +kernel
theorem f118_30 : fr 118 30 = some (.iadd, 1, [], []) := by decide +kernel
theorem f118_31 : fr 118 31 = some (.putfield 10003, 3, [], []) := by decide +kernel
theorem f118_34 : fr 118 34 = some (.iconst 1, 1, [], []) := by decide +kernel
theorem f118_35 : fr 118 35 = some (.ireturn, 1, [], []) := by decide +kernel
theorem t118_0 {X : XX} {d : Nat} {sz sl : Nat} {sh : Nat → Nat × Nat} {R : Nat → Nat → Option Nat} {I : Nat → Nat → Int32} {J : Nat → Nat → Int64} (hS : SF sh R) {l1 : Int32} : exe X d 118 0 [Value.ref 21, Value.int l1] [] (sz, sl, sh, R, I, J) =
    (if (I 21 3) < (50) then (if inb (I 21 3) 50 then some (some (Value.int (1)), (sz, sl, sh, R, (u2 (u2 I 22 (I 21 3).toNatClampNeg l1) 21 3 ((I 21 3) + (1))), J)) else none) else some (some (Value.int (0)), (sz, sl, sh, R, I, J))) :=
  tq ((E_aload (v := Value.ref 21) rfl rfl f118_0)) (tq (tq ((G10003 f118_1)) (if_pos (zS21 hS))) (tq ((E_aload (v := Value.ref 21) rfl rfl f118_4)) (tq (tq ((G10000 f118_5)) (if_pos (zS21 hS))) (tq (exe_R (zR21_0 hS)) (tq (tq (E_len f118_8) (ite_len (m := 50) (A := fun m => exe X d 118 9 [Value.ref 21, Value.int l1] (.int (Int32.ofNat m) :: [Value.int (I 21 3)]) (sz, sl, sh, R, I, J)) (zS22 hS) (by decide))) (tq ((E_ic_lt f118_9)) (ite_c (tq ((E_aload (v := Value.ref 21) rfl rfl f118_14)) (tq (tq ((G10000 f118_15)) (if_pos (zS21 hS))) (tq (exe_R (zR21_0 hS)) (tq ((E_aload (v := Value.ref 21) rfl rfl f118_18)) (tq (tq ((G10003 f118_19)) (if_pos (zS21 hS))) (tq ((E_iload (x := l1) rfl f118_22)) (tq (tq ((E_iast f118_23)) (ite_ar (zS22 hS))) (ite_c (tq ((E_aload (v := Value.ref 21) rfl rfl f118_24)) (tq ((E_dup rfl f118_25)) (tq (tq (tq ((G10003 f118_26)) (if_pos (zS21 hS))) (exe_i (u2_pa (by decide)))) (tq ((E_iconst (x := (1)) (by decide) f118_29)) (tq ((E_iadd f118_30)) (tq (tq ((P10003 f118_31)) (if_pos (zS21 hS))) (tq ((E_iconst (x := (1)) (by decide) f118_34)) (tq (E_zret pr_118 f118_35) (if_pos (by decide)))))))))) rfl)))))))) (tq ((E_iconst (x := (0)) (by decide) f118_12)) (tq (E_zret pr_118 f118_13) (if_pos (by decide)))))))))))
theorem n118 {X : XX} {d : Nat} {h : HP} {a0 : Int32} : ev X (d + 1) 118 [Value.ref 21, Value.int a0] h = exe X d 118 0 [Value.ref 21, Value.int a0] [] h := ev_exe (Nat.le_of_ble_eq_true rfl)
theorem f119_0 : fr 119 0 = some (.aload 0, 1, [0], []) := by decide +kernel
theorem f119_1 : fr 119 1 = some (.getfield 11, 3, [], []) := by decide +kernel
theorem f119_4 : fr 119 4 = some (.iload 1, 1, [1], []) := by decide +kernel
theorem f119_5 : fr 119 5 = some (.iload 2, 1, [2], []) := by decide +kernel
theorem f119_6 : fr 119 6 = some (.iload 3, 1, [3], []) := by decide +kernel
theorem f119_7 : fr 119 7 = some (.invokevirtual 120, 3, [], []) := by decide +kernel
theorem f119_10 : fr 119 10 = some (.ireturn, 1, [], []) := by decide +kernel
theorem t119_0 {X : XX} {d : Nat} {sz sl : Nat} {sh : Nat → Nat × Nat} {R : Nat → Nat → Option Nat} {I : Nat → Nat → Int32} {J : Nat → Nat → Int64} (hS : SF sh R) {l1 : Int32} {l2 : Int32} {l3 : Int32} : exe X d 119 0 [Value.ref 0, Value.int l1, Value.int l2, Value.int l3] [] (sz, sl, sh, R, I, J) =
    ((ev X d 120 [Value.ref 21, Value.int l1, Value.int l2, Value.int l3] (sz, sl, sh, R, I, J)).bind fun q => exe X d 119 10 [dm, dm, dm, dm] (q.1.toList ++ []) q.2) :=
  tq ((E_aload (v := Value.ref 0) rfl rfl f119_0)) (tq (tq ((G11 f119_1)) (if_pos (zS0 hS))) (tq (exe_R (zR0_11 hS)) (tq ((E_iload (x := l1) rfl f119_4)) (tq ((E_iload (x := l2) rfl f119_5)) (tq ((E_iload (x := l3) rfl f119_6)) ((tq ((E_callV pn_120 pc_120 rfl rfl (Nat.le_of_ble_eq_true rfl) f119_7)) (if_pos (zS21 hS)))))))))
theorem t119_10 {X : XX} {d : Nat} {sz sl : Nat} {sh : Nat → Nat × Nat} {R : Nat → Nat → Option Nat} {I : Nat → Nat → Int32} {J : Nat → Nat → Int64} {s0 : Int32} : exe X d 119 10 [dm, dm, dm, dm] [Value.int s0] (sz, sl, sh, R, I, J) =
    some (some (Value.int s0), (sz, sl, sh, R, I, J)) :=
  (E_iret pr_119 f119_10)
theorem n119 {X : XX} {d : Nat} {h : HP} {a0 : Int32} {a1 : Int32} {a2 : Int32} : ev X (d + 1) 119 [Value.ref 0, Value.int a0, Value.int a1, Value.int a2] h = exe X d 119 0 [Value.ref 0, Value.int a0, Value.int a1, Value.int a2] [] h := ev_exe (Nat.le_of_ble_eq_true rfl)
theorem f120_0 : fr 120 0 = some (.aload 0, 1, [], []) := by decide +kernel
theorem f120_1 : fr 120 1 = some (.iconst 0, 1, [], []) := by decide +kernel
theorem f120_2 : fr 120 2 = some (.putfield 10004, 3, [], []) := by decide +kernel
theorem f120_5 : fr 120 5 = some (.aload 0, 1, [], []) := by decide +kernel
theorem f120_6 : fr 120 6 = some (.iload 1, 1, [], []) := by decide +kernel
theorem f120_7 : fr 120 7 = some (.invokevirtual 121, 3, [], []) := by decide +kernel
theorem f120_10 : fr 120 10 = some (.ifCond .lt 22, 3, [], [0, 1, 2, 3]) := by decide +kernel
theorem f120_13 : fr 120 13 = some (.iload 2, 1, [], []) := by decide +kernel
theorem f120_14 : fr 120 14 = some (.ifCond .lt 22, 3, [], [0, 1, 2, 3]) := by decide +kernel
theorem f120_17 : fr 120 17 = some (.iload 2, 1, [], []) := by decide +kernel
theorem f120_18 : fr 120 18 = some (.iconst 4, 1, [], []) := by decide +kernel
theorem f120_19 : fr 120 19 = some (.if_icmp .lt 24, 3, [0, 1, 2, 3], []) := by decide +kernel
theorem f120_22 : fr 120 22 = some (.iconst 0, 1, [], []) := by decide +kernel
theorem f120_23 : fr 120 23 = some (.ireturn, 1, [], []) := by decide +kernel
theorem f120_24 : fr 120 24 = some (.aload 0, 1, [], []) := by decide +kernel
theorem f120_25 : fr 120 25 = some (.iload 1, 1, [1], []) := by decide +kernel
theorem f120_26 : fr 120 26 = some (.putfield 10002, 3, [], []) := by decide +kernel
theorem f120_29 : fr 120 29 = some (.aload 0, 1, [0], []) := by decide +kernel
theorem f120_30 : fr 120 30 = some (.iload 2, 1, [2], []) := by decide +kernel
theorem f120_31 : fr 120 31 = some (.iload 3, 1, [3], []) := by decide +kernel
theorem f120_32 : fr 120 32 = some (.iconst 0, 1, [], []) := by decide +kernel
theorem f120_33 : fr 120 33 = some (.invokevirtual 122, 3, [], []) := by decide +kernel
theorem f120_36 : fr 120 36 = some (.ireturn, 1, [], []) := by decide +kernel
theorem t120_0 {X : XX} {d : Nat} {sz sl : Nat} {sh : Nat → Nat × Nat} {R : Nat → Nat → Option Nat} {I : Nat → Nat → Int32} {J : Nat → Nat → Int64} (hS : SF sh R) {l1 : Int32} {l2 : Int32} {l3 : Int32} : exe X d 120 0 [Value.ref 21, Value.int l1, Value.int l2, Value.int l3] [] (sz, sl, sh, R, I, J) =
    ((ev X d 121 [Value.ref 21, Value.int l1] (sz, sl, sh, R, (u2 I 21 4 (0)), J)).bind fun q => exe X d 120 10 [Value.ref 21, Value.int l1, Value.int l2, Value.int l3] (q.1.toList ++ []) q.2) :=
  tq ((E_aload (v := Value.ref 21) rfl rfl f120_0)) (tq ((E_iconst (x := (0)) (by decide) f120_1)) (tq (tq ((P10004 f120_2)) (if_pos (zS21 hS))) (tq ((E_aload (v := Value.ref 21) rfl rfl f120_5)) (tq ((E_iload (x := l1) rfl f120_6)) ((tq ((E_callV pn_121 pc_121 rfl rfl (Nat.le_of_ble_eq_true rfl) f120_7)) (if_pos (zS21 hS))))))))
theorem t120_10 {X : XX} {d : Nat} {sz sl : Nat} {sh : Nat → Nat × Nat} {R : Nat → Nat → Option Nat} {I : Nat → Nat → Int32} {J : Nat → Nat → Int64} (hS : SF sh R) {l1 : Int32} {l2 : Int32} {l3 : Int32} {s0 : Int32} : exe X d 120 10 [Value.ref 21, Value.int l1, Value.int l2, Value.int l3] [Value.int s0] (sz, sl, sh, R, I, J) =
    (if s0 < 0 then some (some (Value.int (0)), (sz, sl, sh, R, I, J)) else (if l2 < 0 then some (some (Value.int (0)), (sz, sl, sh, R, I, J)) else (if l2 < (4) then ((ev X d 122 [Value.ref 21, Value.int l2, Value.int l3, Value.int (0)] (sz, sl, sh, R, (u2 I 21 2 l1), J)).bind fun q => exe X d 120 36 [dm, dm, dm, dm] (q.1.toList ++ []) q.2) else some (some (Value.int (0)), (sz, sl, sh, R, I, J))))) :=
  tq ((E_if_lt f120_10)) (ite_c (tq ((E_iconst (x := (0)) (by decide) f120_22)) ((E_iret pr_120 f120_23))) (tq ((E_iload (x := l2) rfl f120_13)) (tq ((E_if_lt f120_14)) (ite_c (tq ((E_iconst (x := (0)) (by decide) f120_22)) ((E_iret pr_120 f120_23))) (tq ((E_iload (x := l2) rfl f120_17)) (tq ((E_iconst (x := (4)) (by decide) f120_18)) (tq ((E_ic_lt f120_19)) (ite_c (tq ((E_aload (v := Value.ref 21) rfl rfl f120_24)) (tq ((E_iload (x := l1) rfl f120_25)) (tq (tq ((P10002 f120_26)) (if_pos (zS21 hS))) (tq ((E_aload (v := Value.ref 21) rfl rfl f120_29)) (tq ((E_iload (x := l2) rfl f120_30)) (tq ((E_iload (x := l3) rfl f120_31)) (tq ((E_iconst (x := (0)) (by decide) f120_32)) ((tq ((E_callV pn_122 pc_122 rfl rfl (Nat.le_of_ble_eq_true rfl) f120_33)) (if_pos (zS21 hS))))))))))) (tq ((E_iconst (x := (0)) (by decide) f120_22)) ((E_iret pr_120 f120_23)))))))))))
theorem t120_36 {X : XX} {d : Nat} {sz sl : Nat} {sh : Nat → Nat × Nat} {R : Nat → Nat → Option Nat} {I : Nat → Nat → Int32} {J : Nat → Nat → Int64} {s0 : Int32} : exe X d 120 36 [dm, dm, dm, dm] [Value.int s0] (sz, sl, sh, R, I, J) =
    some (some (Value.int s0), (sz, sl, sh, R, I, J)) :=
  (E_iret pr_120 f120_36)
theorem n120 {X : XX} {d : Nat} {h : HP} {a0 : Int32} {a1 : Int32} {a2 : Int32} : ev X (d + 1) 120 [Value.ref 21, Value.int a0, Value.int a1, Value.int a2] h = exe X d 120 0 [Value.ref 21, Value.int a0, Value.int a1, Value.int a2] [] h := ev_exe (Nat.le_of_ble_eq_true rfl)
theorem f121_0 : fr 121 0 = some (.iload 1, 1, [], []) := by decide +kernel
theorem f121_1 : fr 121 1 = some (.ifCond .lt 30, 3, [], [0, 1]) := by decide +kernel
theorem f121_4 : fr 121 4 = some (.iload 1, 1, [], []) := by decide +kernel
theorem f121_5 : fr 121 5 = some (.aload 0, 1, [], []) := by decide +kernel
theorem f121_6 : fr 121 6 = some (.getfield 10003, 3, [], []) := by decide +kernel
theorem f121_9 : fr 121 9 = some (.if_icmp .ge 30, 3, [], [0, 1]) := by decide +kernel
theorem f121_12 : fr 121 12 = some (.iload 1, 1, [], []) := by decide +kernel
theorem f121_13 : fr 121 13 = some (.aload 0, 1, [], []) := by decide +kernel
theorem f121_14 : fr 121 14 = some (.getfield 10000, 3, [], []) := by decide +kernel
theorem f121_17 : fr 121 17 = some (.arraylength, 1, [], []) := by decide +kernel
theorem f121_18 : fr 121 18 = some (.if_icmp .ge 30, 3, [], [0, 1]) := by decide +kernel
theorem f121_21 : fr 121 21 = some (.aload 0, 1, [0], []) := by decide +kernel
theorem f121_22 : fr 121 22 = some (.getfield 10000, 3, [], []) := by decide +kernel
theorem f121_25 : fr 121 25 = some (.iload 1, 1, [1], []) := by decide +kernel
theorem f121_26 : fr 121 26 = some (.iaload, 1, [], []) := by decide +kernel
theorem f121_27 : fr 121 27 = some (.goto 31, 3, [], []) := by decide +kernel
theorem f121_30 : fr 121 30 = some (.iconst (-1), 1, [], []) := by decide +kernel
theorem f121_31 : fr 121 31 = some (.ireturn, 1, [], []) := by decide +kernel
theorem t121_0 {X : XX} {d : Nat} {sz sl : Nat} {sh : Nat → Nat × Nat} {R : Nat → Nat → Option Nat} {I : Nat → Nat → Int32} {J : Nat → Nat → Int64} (hS : SF sh R) {l1 : Int32} : exe X d 121 0 [Value.ref 21, Value.int l1] [] (sz, sl, sh, R, I, J) =
    (if l1 < 0 then some (some (Value.int (-1)), (sz, sl, sh, R, I, J)) else (if (I 21 3) ≤ l1 then some (some (Value.int (-1)), (sz, sl, sh, R, I, J)) else (if (50) ≤ l1 then some (some (Value.int (-1)), (sz, sl, sh, R, I, J)) else (if inb l1 50 then some (some (Value.int (I 22 l1.toNatClampNeg)), (sz, sl, sh, R, I, J)) else none)))) :=
  tq ((E_iload (x := l1) rfl f121_0)) (tq ((E_if_lt f121_1)) (ite_c (tq ((E_iconst (x := (-1)) (by decide) f121_30)) ((E_iret pr_121 f121_31))) (tq ((E_iload (x := l1) rfl f121_4)) (tq ((E_aload (v := Value.ref 21) rfl rfl f121_5)) (tq (tq ((G10003 f121_6)) (if_pos (zS21 hS))) (tq ((E_ic_ge f121_9)) (ite_c (tq ((E_iconst (x := (-1)) (by decide) f121_30)) ((E_iret pr_121 f121_31))) (tq ((E_iload (x := l1) rfl f121_12)) (tq ((E_aload (v := Value.ref 21) rfl rfl f121_13)) (tq (tq ((G10000 f121_14)) (if_pos (zS21 hS))) (tq (exe_R (zR21_0 hS)) (tq (tq (E_len f121_17) (ite_len (m := 50) (A := fun m => exe X d 121 18 [Value.ref 21, Value.int l1] (.int (Int32.ofNat m) :: [Value.int l1]) (sz, sl, sh, R, I, J)) (zS22 hS) (by decide))) (tq ((E_ic_ge f121_18)) (ite_c (tq ((E_iconst (x := (-1)) (by decide) f121_30)) ((E_iret pr_121 f121_31))) (tq ((E_aload (v := Value.ref 21) rfl rfl f121_21)) (tq (tq ((G10000 f121_22)) (if_pos (zS21 hS))) (tq (exe_R (zR21_0 hS)) (tq ((E_iload (x := l1) rfl f121_25)) (tq (tq ((E_iald f121_26)) (ite_ar (zS22 hS))) (ite_c (tq ((E_goto f121_27)) ((E_iret pr_121 f121_31))) rfl))))))))))))))))))))
theorem n121 {X : XX} {d : Nat} {h : HP} {a0 : Int32} : ev X (d + 1) 121 [Value.ref 21, Value.int a0] h = exe X d 121 0 [Value.ref 21, Value.int a0] [] h := ev_exe (Nat.le_of_ble_eq_true rfl)
theorem f122_0 : fr 122 0 = some (.aload 0, 1, [], []) := by decide +kernel
theorem f122_1 : fr 122 1 = some (.aload 0, 1, [], []) := by decide +kernel
theorem f122_2 : fr 122 2 = some (.aload 0, 1, [0], []) := by decide +kernel
theorem f122_3 : fr 122 3 = some (.getfield 10002, 3, [], []) := by decide +kernel
theorem f122_6 : fr 122 6 = some (.invokevirtual 121, 3, [], []) := by decide +kernel
theorem f122_9 : fr 122 9 = some (.iload 1, 1, [1], []) := by decide +kernel
theorem f122_10 : fr 122 10 = some (.iload 2, 1, [2], []) := by decide +kernel
theorem f122_11 : fr 122 11 = some (.iload 3, 1, [3], []) := by decide +kernel
theorem f122_12 : fr 122 12 = some (.invokevirtual 123, 3, [], []) := by decide +kernel
theorem f122_15 : fr 122 15 = some (.ireturn, 1, [], []) := by decide +kernel
theorem t122_0 {X : XX} {d : Nat} {sz sl : Nat} {sh : Nat → Nat × Nat} {R : Nat → Nat → Option Nat} {I : Nat → Nat → Int32} {J : Nat → Nat → Int64} (hS : SF sh R) {l1 : Int32} {l2 : Int32} {l3 : Int32} : exe X d 122 0 [Value.ref 21, Value.int l1, Value.int l2, Value.int l3] [] (sz, sl, sh, R, I, J) =
    ((ev X d 121 [Value.ref 21, Value.int (I 21 2)] (sz, sl, sh, R, I, J)).bind fun q => exe X d 122 9 [dm, Value.int l1, Value.int l2, Value.int l3] (q.1.toList ++ [Value.ref 21]) q.2) :=
  tq ((E_aload (v := Value.ref 21) rfl rfl f122_0)) (tq ((E_aload (v := Value.ref 21) rfl rfl f122_1)) (tq ((E_aload (v := Value.ref 21) rfl rfl f122_2)) (tq (tq ((G10002 f122_3)) (if_pos (zS21 hS))) ((tq ((E_callV pn_121 pc_121 rfl rfl (Nat.le_of_ble_eq_true rfl) f122_6)) (if_pos (zS21 hS)))))))
theorem t122_9 {X : XX} {d : Nat} {sz sl : Nat} {sh : Nat → Nat × Nat} {R : Nat → Nat → Option Nat} {I : Nat → Nat → Int32} {J : Nat → Nat → Int64} {l1 : Int32} {l2 : Int32} {l3 : Int32} {s0 : Int32} {s1 : Value} (k1 : isB s1 = true) : exe X d 122 9 [dm, Value.int l1, Value.int l2, Value.int l3] [Value.int s0, s1] (sz, sl, sh, R, I, J) =
    (rf (s1) fun p1 => if sh p1 = (17, 0) then ((ev X d 123 [Value.ref p1, Value.int s0, Value.int l1, Value.int l2, Value.int l3] (sz, sl, sh, R, I, J)).bind fun q => exe X d 122 15 [dm, dm, dm, dm] (q.1.toList ++ []) q.2) else none) :=
  tq ((E_iload (x := l1) rfl f122_9)) (tq ((E_iload (x := l2) rfl f122_10)) (tq ((E_iload (x := l3) rfl f122_11)) ((E_callV pn_123 pc_123 rfl rfl (Nat.le_of_ble_eq_true rfl) f122_12))))
theorem t122_15 {X : XX} {d : Nat} {sz sl : Nat} {sh : Nat → Nat × Nat} {R : Nat → Nat → Option Nat} {I : Nat → Nat → Int32} {J : Nat → Nat → Int64} {s0 : Int32} : exe X d 122 15 [dm, dm, dm, dm] [Value.int s0] (sz, sl, sh, R, I, J) =
    some (some (Value.int s0), (sz, sl, sh, R, I, J)) :=
  (E_iret pr_122 f122_15)
theorem n122 {X : XX} {d : Nat} {h : HP} {a0 : Int32} {a1 : Int32} {a2 : Int32} : ev X (d + 1) 122 [Value.ref 21, Value.int a0, Value.int a1, Value.int a2] h = exe X d 122 0 [Value.ref 21, Value.int a0, Value.int a1, Value.int a2] [] h := ev_exe (Nat.le_of_ble_eq_true rfl)
theorem f123_0 : fr 123 0 = some (.iload 4, 2, [], []) := by decide +kernel
theorem f123_2 : fr 123 2 = some (.iconst 40, 2, [], []) := by decide +kernel
theorem f123_4 : fr 123 4 = some (.if_icmp .le 9, 3, [0, 1, 2, 3, 4], []) := by decide +kernel
theorem f123_7 : fr 123 7 = some (.iconst 0, 1, [], []) := by decide +kernel
theorem f123_8 : fr 123 8 = some (.ireturn, 1, [], []) := by decide +kernel
theorem f123_9 : fr 123 9 = some (.iload 1, 1, [1], []) := by decide +kernel
theorem f123_10 : fr 123 10 = some (.istore 5, 2, [], []) := by decide +kernel
theorem f123_12 : fr 123 12 = some (.iconst 0, 1, [], []) := by decide +kernel
theorem f123_13 : fr 123 13 = some (.istore 6, 2, [], []) := by decide +kernel
theorem f123_15 : fr 123 15 = some (.iload 6, 2, [], []) := by decide +kernel
theorem f123_17 : fr 123 17 = some (.iconst 8, 2, [], []) := by decide +kernel
theorem f123_19 : fr 123 19 = some (.if_icmp .ge 102, 3, [], [0, 2, 3, 4, 5, 6]) := by decide +kernel
theorem f123_22 : fr 123 22 = some (.iload 5, 2, [], []) := by decide +kernel
theorem f123_24 : fr 123 24 = some (.ifCond .lt 102, 3, [], [0, 2, 3, 4, 5, 6]) := by decide +kernel
theorem f123_27 : fr 123 27 = some (.iconst 4, 1, [], []) := by decide +kernel
theorem f123_28 : fr 123 28 = some (.iload 5, 2, [], []) := by decide +kernel
theorem f123_30 : fr 123 30 = some (.imul, 1, [], []) := by decide +kernel
theorem f123_31 : fr 123 31 = some (.iload 2, 1, [], []) := by decide +kernel
theorem f123_32 : fr 123 32 = some (.iadd, 1, [], []) := by decide +kernel
theorem f123_33 : fr 123 33 = some (.istore 7, 2, [], []) := by decide +kernel
theorem f123_35 : fr 123 35 = some (.iload 7, 2, [], []) := by decide +kernel
theorem f123_37 : fr 123 37 = some (.ifCond .lt 58, 3, [], [7]) := by decide +kernel
theorem f123_40 : fr 123 40 = some (.iload 7, 2, [], []) := by decide +kernel
theorem f123_42 : fr 123 42 = some (.getstatic 2, 3, [], []) := by decide +kernel
theorem f123_45 : fr 123 45 = some (.arraylength, 1, [], []) := by decide +kernel
theorem f123_46 : fr 123 46 = some (.if_icmp .ge 58, 3, [], [7]) := by decide +kernel
theorem f123_49 : fr 123 49 = some (.getstatic 2, 3, [], []) := by decide +kernel
theorem f123_52 : fr 123 52 = some (.iload 7, 2, [7], []) := by decide +kernel
theorem f123_54 : fr 123 54 = some (.iaload, 1, [], []) := by decide +kernel
theorem f123_55 : fr 123 55 = some (.goto 59, 3, [], []) := by decide +kernel
theorem f123_58 : fr 123 58 = some (.iconst 0, 1, [], []) := by decide +kernel
theorem f123_59 : fr 123 59 = some (.istore 8, 2, [], []) := by decide +kernel
theorem f123_61 : fr 123 61 = some (.iload 8, 2, [], []) := by decide +kernel
theorem f123_63 : fr 123 63 = some (.ifCond .eq 89, 3, [2, 6], [8]) := by decide +kernel
theorem f123_66 : fr 123 66 = some (.aload 0, 1, [], []) := by decide +kernel
theorem f123_67 : fr 123 67 = some (.iload 8, 2, [], []) := by decide +kernel
theorem f123_69 : fr 123 69 = some (.invokevirtual 124, 3, [], []) := by decide +kernel
theorem f123_72 : fr 123 72 = some (.aload 0, 1, [0], []) := by decide +kernel
theorem f123_73 : fr 123 73 = some (.iload 8, 2, [8], []) := by decide +kernel
theorem f123_75 : fr 123 75 = some (.iload 5, 2, [5], []) := by decide +kernel
theorem f123_77 : fr 123 77 = some (.invokestatic 125, 3, [], []) := by decide +kernel
theorem f123_80 : fr 123 80 = some (.iload 3, 1, [3], []) := by decide +kernel
theorem f123_81 : fr 123 81 = some (.iload 4, 2, [4], []) := by decide +kernel
theorem f123_83 : fr 123 83 = some (.iconst 1, 1, [], []) := by decide +kernel
theorem f123_84 : fr 123 84 = some (.iadd, 1, [], []) := by decide +kernel
theorem f123_85 : fr 123 85 = some (.invokevirtual 126, 3, [], []) := by decide +kernel
theorem f123_88 : fr 123 88 = some (.ireturn, 1, [], []) := by decide +kernel
theorem f123_89 : fr 123 89 = some (.iload 5, 2, [5], []) := by decide +kernel
theorem f123_91 : fr 123 91 = some (.invokestatic 125, 3, [], []) := by decide +kernel
theorem f123_94 : fr 123 94 = some (.istore 5, 2, [], []) := by decide +kernel
theorem f123_96 : fr 123 96 = some (.iinc 6 1, 3, [], []) := by decide +kernel
theorem f123_99 : fr 123 99 = some (.goto 15, 3, [], []) := by decide +kernel
theorem f123_102 : fr 123 102 = some (.iconst 0, 1, [], []) := by decide +kernel
theorem f123_103 : fr 123 103 = some (.ireturn, 1, [], []) := by decide +kernel
theorem t123_0 {X : XX} {d : Nat} {sz sl : Nat} {sh : Nat → Nat × Nat} {R : Nat → Nat → Option Nat} {I : Nat → Nat → Int32} {J : Nat → Nat → Int64} {l1 : Int32} {l2 : Int32} {l3 : Int32} {l4 : Int32} : exe X d 123 0 [Value.ref 21, Value.int l1, Value.int l2, Value.int l3, Value.int l4, dm, dm, dm, dm] [] (sz, sl, sh, R, I, J) =
    (if l4 ≤ (40) then exe X d 123 15 [Value.ref 21, dm, Value.int l2, Value.int l3, Value.int l4, Value.int l1, Value.int (0), dm, dm] [] (sz, sl, sh, R, I, J) else some (some (Value.int (0)), (sz, sl, sh, R, I, J))) :=
  tq ((E_iload (x := l4) rfl f123_0)) (tq ((E_iconst (x := (40)) (by decide) f123_2)) (tq ((E_ic_le f123_4)) (ite_c (tq ((E_iload (x := l1) rfl f123_9)) (tq ((E_istore rfl f123_10)) (tq ((E_iconst (x := (0)) (by decide) f123_12)) ((E_istore rfl f123_13))))) (tq ((E_iconst (x := (0)) (by decide) f123_7)) ((E_iret pr_123 f123_8))))))
theorem t123_15 {X : XX} {d : Nat} {sz sl : Nat} {sh : Nat → Nat × Nat} {R : Nat → Nat → Option Nat} {I : Nat → Nat → Int32} {J : Nat → Nat → Int64} {l2 : Int32} {l3 : Int32} {l4 : Int32} {l5 : Int32} {l6 : Int32} : exe X d 123 15 [Value.ref 21, dm, Value.int l2, Value.int l3, Value.int l4, Value.int l5, Value.int l6, dm, dm] [] (sz, sl, sh, R, I, J) =
    (if (8) ≤ l6 then some (some (Value.int (0)), (sz, sl, sh, R, I, J)) else (if l5 < 0 then some (some (Value.int (0)), (sz, sl, sh, R, I, J)) else (if (((4) * l5) + l2) < 0 then exe X d 123 58 [Value.ref 21, dm, Value.int l2, Value.int l3, Value.int l4, Value.int l5, Value.int l6, dm, dm] [] (sz, sl, sh, R, I, J) else (if (Int32.ofNat (tn X 2)) ≤ (((4) * l5) + l2) then exe X d 123 58 [Value.ref 21, dm, Value.int l2, Value.int l3, Value.int l4, Value.int l5, Value.int l6, dm, dm] [] (sz, sl, sh, R, I, J) else (if 2 < 3 ∧ inb (((4) * l5) + l2) (tn X 2) then exe X d 123 59 [Value.ref 21, dm, Value.int l2, Value.int l3, Value.int l4, Value.int l5, Value.int l6, dm, dm] [Value.int (tv X 2 (((4) * l5) + l2).toNatClampNeg)] (sz, sl, sh, R, I, J) else none))))) :=
  tq ((E_iload (x := l6) rfl f123_15)) (tq ((E_iconst (x := (8)) (by decide) f123_17)) (tq ((E_ic_ge f123_19)) (ite_c (tq ((E_iconst (x := (0)) (by decide) f123_102)) ((E_iret pr_123 f123_103))) (tq ((E_iload (x := l5) rfl f123_22)) (tq ((E_if_lt f123_24)) (ite_c (tq ((E_iconst (x := (0)) (by decide) f123_102)) ((E_iret pr_123 f123_103))) (tq ((E_iconst (x := (4)) (by decide) f123_27)) (tq ((E_iload (x := l5) rfl f123_28)) (tq ((E_imul f123_30)) (tq ((E_iload (x := l2) rfl f123_31)) (tq ((E_iadd f123_32)) (tq ((E_istore rfl f123_33)) (tq ((E_iload (x := (((4) * l5) + l2)) rfl f123_35)) (tq ((E_if_lt f123_37)) (ite_c (rfl) (tq ((E_iload (x := (((4) * l5) + l2)) rfl f123_40)) (tq ((E_getstatic f123_42)) (tq (tq (E_len f123_45) (if_pos (by decide))) (tq ((E_ic_ge f123_46)) (ite_c (rfl) (tq ((E_getstatic f123_49)) (tq ((E_iload (x := (((4) * l5) + l2)) rfl f123_52)) (tq (E_iald f123_54) (ite_c ((E_goto f123_55)) rfl))))))))))))))))))))))))
theorem t123_58 {X : XX} {d : Nat} {sz sl : Nat} {sh : Nat → Nat × Nat} {R : Nat → Nat → Option Nat} {I : Nat → Nat → Int32} {J : Nat → Nat → Int64} {l2 : Int32} {l3 : Int32} {l4 : Int32} {l5 : Int32} {l6 : Int32} : exe X d 123 58 [Value.ref 21, dm, Value.int l2, Value.int l3, Value.int l4, Value.int l5, Value.int l6, dm, dm] [] (sz, sl, sh, R, I, J) =
    exe X d 123 59 [Value.ref 21, dm, Value.int l2, Value.int l3, Value.int l4, Value.int l5, Value.int l6, dm, dm] [Value.int (0)] (sz, sl, sh, R, I, J) :=
  (E_iconst (x := (0)) (by decide) f123_58)
theorem t123_59 {X : XX} {d : Nat} {sz sl : Nat} {sh : Nat → Nat × Nat} {R : Nat → Nat → Option Nat} {I : Nat → Nat → Int32} {J : Nat → Nat → Int64} (hS : SF sh R) {l2 : Int32} {l3 : Int32} {l4 : Int32} {l5 : Int32} {l6 : Int32} {s0 : Int32} : exe X d 123 59 [Value.ref 21, dm, Value.int l2, Value.int l3, Value.int l4, Value.int l5, Value.int l6, dm, dm] [Value.int s0] (sz, sl, sh, R, I, J) =
    (if s0 = 0 then ((ev X d 125 [Value.int l5] (sz, sl, sh, R, I, J)).bind fun q => exe X d 123 94 [Value.ref 21, dm, Value.int l2, Value.int l3, Value.int l4, dm, Value.int l6, dm, dm] (q.1.toList ++ []) q.2) else ((ev X d 124 [Value.ref 21, Value.int s0] (sz, sl, sh, R, I, J)).bind fun q => exe X d 123 72 [Value.ref 21, dm, dm, Value.int l3, Value.int l4, Value.int l5, dm, dm, Value.int s0] (q.1.toList ++ []) q.2)) :=
  tq ((E_istore rfl f123_59)) (tq ((E_iload (x := s0) rfl f123_61)) (tq ((E_if_eq f123_63)) (ite_c (tq ((E_iload (x := l5) rfl f123_89)) ((E_callS pn_125 rfl rfl (Nat.le_of_ble_eq_true rfl) (Nat.le_of_ble_eq_true rfl) f123_91))) (tq ((E_aload (v := Value.ref 21) rfl rfl f123_66)) (tq ((E_iload (x := s0) rfl f123_67)) ((tq ((E_callV pn_124 pc_124 rfl rfl (Nat.le_of_ble_eq_true rfl) f123_69)) (if_pos (zS21 hS)))))))))
theorem t123_72 {X : XX} {d : Nat} {sz sl : Nat} {sh : Nat → Nat × Nat} {R : Nat → Nat → Option Nat} {I : Nat → Nat → Int32} {J : Nat → Nat → Int64} {l3 : Int32} {l4 : Int32} {l5 : Int32} {l8 : Int32} : exe X d 123 72 [Value.ref 21, dm, dm, Value.int l3, Value.int l4, Value.int l5, dm, dm, Value.int l8] [] (sz, sl, sh, R, I, J) =
    ((ev X d 125 [Value.int l5] (sz, sl, sh, R, I, J)).bind fun q => exe X d 123 80 [dm, dm, dm, Value.int l3, Value.int l4, dm, dm, dm, dm] (q.1.toList ++ [Value.int l8, Value.ref 21]) q.2) :=
  tq ((E_aload (v := Value.ref 21) rfl rfl f123_72)) (tq ((E_iload (x := l8) rfl f123_73)) (tq ((E_iload (x := l5) rfl f123_75)) ((E_callS pn_125 rfl rfl (Nat.le_of_ble_eq_true rfl) (Nat.le_of_ble_eq_true rfl) f123_77))))
theorem t123_80 {X : XX} {d : Nat} {sz sl : Nat} {sh : Nat → Nat × Nat} {R : Nat → Nat → Option Nat} {I : Nat → Nat → Int32} {J : Nat → Nat → Int64} {l3 : Int32} {l4 : Int32} {s0 : Int32} {s1 : Int32} {s2 : Value} (k2 : isB s2 = true) : exe X d 123 80 [dm, dm, dm, Value.int l3, Value.int l4, dm, dm, dm, dm] [Value.int s0, Value.int s1, s2] (sz, sl, sh, R, I, J) =
    (rf (s2) fun p1 => if sh p1 = (17, 0) then ((ev X d 126 [Value.ref p1, Value.int s1, Value.int s0, Value.int l3, Value.int (l4 + (1))] (sz, sl, sh, R, I, J)).bind fun q => exe X d 123 88 [dm, dm, dm, dm, dm, dm, dm, dm, dm] (q.1.toList ++ []) q.2) else none) :=
  tq ((E_iload (x := l3) rfl f123_80)) (tq ((E_iload (x := l4) rfl f123_81)) (tq ((E_iconst (x := (1)) (by decide) f123_83)) (tq ((E_iadd f123_84)) ((E_callV pn_126 pc_126 rfl rfl (Nat.le_of_ble_eq_true rfl) f123_85)))))
theorem t123_88 {X : XX} {d : Nat} {sz sl : Nat} {sh : Nat → Nat × Nat} {R : Nat → Nat → Option Nat} {I : Nat → Nat → Int32} {J : Nat → Nat → Int64} {s0 : Int32} : exe X d 123 88 [dm, dm, dm, dm, dm, dm, dm, dm, dm] [Value.int s0] (sz, sl, sh, R, I, J) =
    some (some (Value.int s0), (sz, sl, sh, R, I, J)) :=
  (E_iret pr_123 f123_88)
theorem t123_94 {X : XX} {d : Nat} {sz sl : Nat} {sh : Nat → Nat × Nat} {R : Nat → Nat → Option Nat} {I : Nat → Nat → Int32} {J : Nat → Nat → Int64} {l2 : Int32} {l3 : Int32} {l4 : Int32} {l6 : Int32} {s0 : Int32} : exe X d 123 94 [Value.ref 21, dm, Value.int l2, Value.int l3, Value.int l4, dm, Value.int l6, dm, dm] [Value.int s0] (sz, sl, sh, R, I, J) =
    exe X d 123 15 [Value.ref 21, dm, Value.int l2, Value.int l3, Value.int l4, Value.int s0, Value.int (l6 + (1)), dm, dm] [] (sz, sl, sh, R, I, J) :=
  tq ((E_istore rfl f123_94)) (tq ((E_iinc (x := l6) (x' := (1)) rfl rfl (by decide) f123_96)) ((E_goto f123_99)))
theorem n123 {X : XX} {d : Nat} {h : HP} {a0 : Int32} {a1 : Int32} {a2 : Int32} {a3 : Int32} : ev X (d + 1) 123 [Value.ref 21, Value.int a0, Value.int a1, Value.int a2, Value.int a3] h = exe X d 123 0 [Value.ref 21, Value.int a0, Value.int a1, Value.int a2, Value.int a3, dm, dm, dm, dm] [] h := ev_exe (Nat.le_of_ble_eq_true rfl)
