theorem f173_0 : fr 173 0 = some (.aload 0, 1, [], []) := by decide +kernel
theorem f173_1 : fr 173 1 = some (.invokevirtual 174, 3, [], []) := by decide +kernel
theorem f173_4 : fr 173 4 = some (.istore 1, 1, [], []) := by decide +kernel
theorem f173_5 : fr 173 5 = some (.iload 1, 1, [], []) := by decide +kernel
theorem f173_6 : fr 173 6 = some (.iconst 48, 2, [], []) := by decide +kernel
theorem f173_8 : fr 173 8 = some (.iconst 57, 2, [], []) := by decide +kernel
theorem f173_10 : fr 173 10 = some (.invokestatic 148, 3, [], []) := by decide +kernel
theorem f173_13 : fr 173 13 = some (.ifCond .eq 21, 3, [1], []) := by decide +kernel
theorem f173_16 : fr 173 16 = some (.aload 0, 1, [0], []) := by decide +kernel
theorem f173_17 : fr 173 17 = some (.invokevirtual 175, 3, [], []) := by decide +kernel
theorem f173_20 : fr 173 20 = some (.ireturn, 1, [], []) := by decide +kernel
theorem f173_21 : fr 173 21 = some (.iload 1, 1, [], []) := by decide +kernel
theorem f173_22 : fr 173 22 = some (.invokestatic 177, 3, [], []) := by decide +kernel
theorem f173_25 : fr 173 25 = some (.ifCond .lt 48, 3, [], []) := by decide +kernel
theorem f173_28 : fr 173 28 = some (.aload 0, 1, [], []) := by decide +kernel
theorem f173_29 : fr 173 29 = some (.iload 1, 1, [1], []) := by decide +kernel
theorem f173_30 : fr 173 30 = some (.invokestatic 177, 3, [], []) := by decide +kernel
theorem f173_33 : fr 173 33 = some (.invokevirtual 176, 3, [], []) := by decide +kernel
theorem f173_36 : fr 173 36 = some (.aload 0, 1, [0], []) := by decide +kernel
theorem f173_37 : fr 173 37 = some (.dup, 1, [], []) := by decide +kernel
theorem f173_38 : fr 173 38 = some (.getfield 11036, 3, [], []) := by decide +kernel
theorem f173_41 : fr 173 41 = some (.iconst 1, 1, [], []) := by decide +kernel
theorem f173_42 : fr 173 42 = some (.iadd, 1, [], []) := by decide +kernel
theorem f173_43 : fr 173 43 = some (.putfield 11036, 3, [], []) := by decide +kernel
theorem f173_46 : fr 173 46 = some (.iconst 1, 1, [], []) := by decide +kernel
theorem f173_47 : fr 173 47 = some (.ireturn, 1, [], []) := by decide +kernel
theorem f173_48 : fr 173 48 = some (.iload 1, 1, [], []) := by decide +kernel
theorem f173_49 : fr 173 49 = some (.iconst 40, 2, [], []) := by decide +kernel
theorem f173_51 : fr 173 51 = some (.if_icmp .eq 66, 3, [], []) := by decide +kernel
theorem f173_54 : fr 173 54 = some (.iload 1, 1, [], []) := by decide +kernel
theorem f173_55 : fr 173 55 = some (.iconst 33, 2, [], []) := by decide +kernel
theorem f173_57 : fr 173 57 = some (.if_icmp .eq 66, 3, [], []) := by decide +kernel
theorem f173_60 : fr 173 60 = some (.iload 1, 1, [], []) := by decide +kernel
theorem f173_61 : fr 173 61 = some (.iconst 45, 2, [], []) := by decide +kernel
theorem f173_63 : fr 173 63 = some (.if_icmp .ne 75, 3, [], [0, 1]) := by decide +kernel
theorem f173_66 : fr 173 66 = some (.aload 0, 1, [], []) := by decide +kernel
theorem f173_67 : fr 173 67 = some (.getfield 11037, 3, [], []) := by decide +kernel
theorem f173_70 : fr 173 70 = some (.iconst 6, 2, [], []) := by decide +kernel
theorem f173_72 : fr 173 72 = some (.if_icmp .ne 77, 3, [0, 1], []) := by decide +kernel
theorem f173_75 : fr 173 75 = some (.iconst 0, 1, [], []) := by decide +kernel
theorem f173_76 : fr 173 76 = some (.ireturn, 1, [], []) := by decide +kernel
theorem f173_77 : fr 173 77 = some (.aload 0, 1, [], []) := by decide +kernel
theorem f173_78 : fr 173 78 = some (.dup, 1, [], []) := by decide +kernel
theorem f173_79 : fr 173 79 = some (.getfield 11037, 3, [], []) := by decide +kernel
theorem f173_82 : fr 173 82 = some (.iconst 1, 1, [], []) := by decide +kernel
theorem f173_83 : fr 173 83 = some (.iadd, 1, [], []) := by decide +kernel
theorem f173_84 : fr 173 84 = some (.putfield 11037, 3, [], []) := by decide +kernel
theorem f173_87 : fr 173 87 = some (.aload 0, 1, [], []) := by decide +kernel
theorem f173_88 : fr 173 88 = some (.dup, 1, [], []) := by decide +kernel
theorem f173_89 : fr 173 89 = some (.getfield 11036, 3, [], []) := by decide +kernel
theorem f173_92 : fr 173 92 = some (.iconst 1, 1, [], []) := by decide +kernel
theorem f173_93 : fr 173 93 = some (.iadd, 1, [], []) := by decide +kernel
theorem f173_94 : fr 173 94 = some (.putfield 11036, 3, [], []) := by decide +kernel
theorem f173_97 : fr 173 97 = some (.iload 1, 1, [], []) := by decide +kernel
theorem f173_98 : fr 173 98 = some (.iconst 40, 2, [], []) := by decide +kernel
theorem f173_100 : fr 173 100 = some (.if_icmp .ne 110, 3, [], []) := by decide +kernel
theorem f173_103 : fr 173 103 = some (.aload 0, 1, [], []) := by decide +kernel
theorem f173_104 : fr 173 104 = some (.invokevirtual 168, 3, [], []) := by decide +kernel
theorem f173_107 : fr 173 107 = some (.goto 114, 3, [], []) := by decide +kernel
theorem f173_110 : fr 173 110 = some (.aload 0, 1, [], []) := by decide +kernel
theorem f173_111 : fr 173 111 = some (.invokevirtual 173, 3, [], []) := by decide +kernel
theorem f173_114 : fr 173 114 = some (.istore 2, 1, [], []) := by decide +kernel
theorem f173_115 : fr 173 115 = some (.iload 2, 1, [], []) := by decide +kernel
theorem f173_116 : fr 173 116 = some (.ifCond .eq 158, 3, [], []) := by decide +kernel
theorem f173_119 : fr 173 119 = some (.iload 1, 1, [], []) := by decide +kernel
theorem f173_120 : fr 173 120 = some (.iconst 40, 2, [], []) := by decide +kernel
theorem f173_122 : fr 173 122 = some (.if_icmp .ne 158, 3, [2], []) := by decide +kernel
theorem f173_125 : fr 173 125 = some (.aload 0, 1, [], []) := by decide +kernel
theorem f173_126 : fr 173 126 = some (.invokevirtual 174, 3, [], []) := by decide +kernel
theorem f173_129 : fr 173 129 = some (.iconst 41, 2, [], []) := by decide +kernel
theorem f173_131 : fr 173 131 = some (.if_icmp .ne 138, 3, [], []) := by decide +kernel
theorem f173_134 : fr 173 134 = some (.iconst 1, 1, [], []) := by decide +kernel
theorem f173_135 : fr 173 135 = some (.goto 139, 3, [], []) := by decide +kernel
theorem f173_138 : fr 173 138 = some (.iconst 0, 1, [], []) := by decide +kernel
theorem f173_139 : fr 173 139 = some (.istore 2, 1, [], []) := by decide +kernel
theorem f173_140 : fr 173 140 = some (.aload 0, 1, [], []) := by decide +kernel
theorem f173_141 : fr 173 141 = some (.dup, 1, [], []) := by decide +kernel
theorem f173_142 : fr 173 142 = some (.getfield 11036, 3, [], []) := by decide +kernel
theorem f173_145 : fr 173 145 = some (.iload 2, 1, [], []) := by decide +kernel
theorem f173_146 : fr 173 146 = some (.ifCond .eq 153, 3, [], []) := by decide +kernel
theorem f173_149 : fr 173 149 = some (.iconst 1, 1, [], []) := by decide +kernel
theorem f173_150 : fr 173 150 = some (.goto 154, 3, [], []) := by decide +kernel
theorem f173_153 : fr 173 153 = some (.iconst 0, 1, [], []) := by decide +kernel
theorem f173_154 : fr 173 154 = some (.iadd, 1, [], []) := by decide +kernel
theorem f173_155 : fr 173 155 = some (.putfield 11036, 3, [], []) := by decide +kernel
theorem f173_158 : fr 173 158 = some (.iload 2, 1, [], []) := by decide +kernel
theorem f173_159 : fr 173 159 = some (.ifCond .eq 185, 3, [], [1]) := by decide +kernel
theorem f173_162 : fr 173 162 = some (.iload 1, 1, [], []) := by decide +kernel
theorem f173_163 : fr 173 163 = some (.iconst 40, 2, [], []) := by decide +kernel
theorem f173_165 : fr 173 165 = some (.if_icmp .eq 185, 3, [], [1]) := by decide +kernel
theorem f173_168 : fr 173 168 = some (.aload 0, 1, [], []) := by decide +kernel
theorem f173_169 : fr 173 169 = some (.iload 1, 1, [1], []) := by decide +kernel
theorem f173_170 : fr 173 170 = some (.iconst 33, 2, [], []) := by decide +kernel
theorem f173_172 : fr 173 172 = some (.if_icmp .ne 180, 3, [], []) := by decide +kernel
theorem f173_175 : fr 173 175 = some (.iconst 13, 2, [], []) := by decide +kernel
theorem f173_177 : fr 173 177 = some (.goto 182, 3, [], []) := by decide +kernel
theorem f173_180 : fr 173 180 = some (.iconst 19, 2, [], []) := by decide +kernel
theorem f173_182 : fr 173 182 = some (.invokevirtual 176, 3, [], []) := by decide +kernel
theorem f173_185 : fr 173 185 = some (.aload 0, 1, [0], []) := by decide +kernel
theorem f173_186 : fr 173 186 = some (.dup, 1, [], []) := by decide +kernel
theorem f173_187 : fr 173 187 = some (.getfield 11037, 3, [], []) := by decide +kernel
theorem f173_190 : fr 173 190 = some (.iconst 1, 1, [], []) := by decide +kernel
theorem f173_191 : fr 173 191 = some (.isub, 1, [], []) := by decide +kernel
theorem f173_192 : fr 173 192 = some (.putfield 11037, 3, [], []) := by decide +kernel
theorem f173_195 : fr 173 195 = some (.iload 2, 1, [2], []) := by decide +kernel
theorem f173_196 : fr 173 196 = some (.ireturn, 1, [], []) := by decide +kernel
theorem t173_0 {X : XX} {d : Nat} {sz sl : Nat} {sh : Nat → Nat × Nat} {R : Nat → Nat → Option Nat} {I : Nat → Nat → Int32} {J : Nat → Nat → Int64} (hS : SF sh R)  : exe X d 173 0 [Value.ref 37, dm, dm] [] (sz, sl, sh, R, I, J) =
    ((ev X d 174 [Value.ref 37] (sz, sl, sh, R, I, J)).bind fun q => exe X d 173 4 [Value.ref 37, dm, dm] (q.1.toList ++ []) q.2) :=
  tq ((E_aload (v := Value.ref 37) rfl rfl f173_0)) ((tq ((E_callV pn_174 pc_174 rfl rfl (Nat.le_of_ble_eq_true rfl) f173_1)) (if_pos (zS37 hS))))
theorem t173_4 {X : XX} {d : Nat} {sz sl : Nat} {sh : Nat → Nat × Nat} {R : Nat → Nat → Option Nat} {I : Nat → Nat → Int32} {J : Nat → Nat → Int64} {s0 : Int32} : exe X d 173 4 [Value.ref 37, dm, dm] [Value.int s0] (sz, sl, sh, R, I, J) =
    ((ev X d 148 [Value.int s0, Value.int (48), Value.int (57)] (sz, sl, sh, R, I, J)).bind fun q => exe X d 173 13 [Value.ref 37, Value.int s0, dm] (q.1.toList ++ []) q.2) :=
  tq ((E_istore rfl f173_4)) (tq ((E_iload (x := s0) rfl f173_5)) (tq ((E_iconst (x := (48)) (by decide) f173_6)) (tq ((E_iconst (x := (57)) (by decide) f173_8)) ((E_callS pn_148 rfl rfl (Nat.le_of_ble_eq_true rfl) (Nat.le_of_ble_eq_true rfl) f173_10)))))
theorem t173_13 {X : XX} {d : Nat} {sz sl : Nat} {sh : Nat → Nat × Nat} {R : Nat → Nat → Option Nat} {I : Nat → Nat → Int32} {J : Nat → Nat → Int64} (hS : SF sh R) {l1 : Int32} {s0 : Int32} : exe X d 173 13 [Value.ref 37, Value.int l1, dm] [Value.int s0] (sz, sl, sh, R, I, J) =
    (if s0 = 0 then ((ev X d 177 [Value.int l1] (sz, sl, sh, R, I, J)).bind fun q => exe X d 173 25 [Value.ref 37, Value.int l1, dm] (q.1.toList ++ []) q.2) else ((ev X d 175 [Value.ref 37] (sz, sl, sh, R, I, J)).bind fun q => exe X d 173 20 [dm, dm, dm] (q.1.toList ++ []) q.2)) :=
  tq ((E_if_eq f173_13)) (ite_c (tq ((E_iload (x := l1) rfl f173_21)) ((E_callS pn_177 rfl rfl (Nat.le_of_ble_eq_true rfl) (Nat.le_of_ble_eq_true rfl) f173_22))) (tq ((E_aload (v := Value.ref 37) rfl rfl f173_16)) ((tq ((E_callV pn_175 pc_175 rfl rfl (Nat.le_of_ble_eq_true rfl) f173_17)) (if_pos (zS37 hS))))))
theorem t173_20 {X : XX} {d : Nat} {sz sl : Nat} {sh : Nat → Nat × Nat} {R : Nat → Nat → Option Nat} {I : Nat → Nat → Int32} {J : Nat → Nat → Int64} {s0 : Int32} : exe X d 173 20 [dm, dm, dm] [Value.int s0] (sz, sl, sh, R, I, J) =
    (if s0 = 0 ∨ s0 = 1 then some (some (Value.int s0), (sz, sl, sh, R, I, J)) else none) :=
  (E_zret pr_173 f173_20)
theorem t173_25 {X : XX} {d : Nat} {sz sl : Nat} {sh : Nat → Nat × Nat} {R : Nat → Nat → Option Nat} {I : Nat → Nat → Int32} {J : Nat → Nat → Int64} {l1 : Int32} {s0 : Int32} : exe X d 173 25 [Value.ref 37, Value.int l1, dm] [Value.int s0] (sz, sl, sh, R, I, J) =
    (if s0 < 0 then (if l1 = (40) then exe X d 173 66 [Value.ref 37, Value.int l1, dm] [] (sz, sl, sh, R, I, J) else (if l1 = (33) then exe X d 173 66 [Value.ref 37, Value.int l1, dm] [] (sz, sl, sh, R, I, J) else (if ¬ l1 = (45) then some (some (Value.int (0)), (sz, sl, sh, R, I, J)) else exe X d 173 66 [Value.ref 37, Value.int l1, dm] [] (sz, sl, sh, R, I, J)))) else ((ev X d 177 [Value.int l1] (sz, sl, sh, R, I, J)).bind fun q => exe X d 173 33 [Value.ref 37, dm, dm] (q.1.toList ++ [Value.ref 37]) q.2)) :=
  tq ((E_if_lt f173_25)) (ite_c (tq ((E_iload (x := l1) rfl f173_48)) (tq ((E_iconst (x := (40)) (by decide) f173_49)) (tq ((E_ic_eq f173_51)) (ite_c (rfl) (tq ((E_iload (x := l1) rfl f173_54)) (tq ((E_iconst (x := (33)) (by decide) f173_55)) (tq ((E_ic_eq f173_57)) (ite_c (rfl) (tq ((E_iload (x := l1) rfl f173_60)) (tq ((E_iconst (x := (45)) (by decide) f173_61)) (tq ((E_ic_ne f173_63)) (ite_c (tq ((E_iconst (x := (0)) (by decide) f173_75)) (tq (E_zret pr_173 f173_76) (if_pos (by decide)))) (rfl))))))))))))) (tq ((E_aload (v := Value.ref 37) rfl rfl f173_28)) (tq ((E_iload (x := l1) rfl f173_29)) ((E_callS pn_177 rfl rfl (Nat.le_of_ble_eq_true rfl) (Nat.le_of_ble_eq_true rfl) f173_30)))))
theorem t173_33 {X : XX} {d : Nat} {sz sl : Nat} {sh : Nat → Nat × Nat} {R : Nat → Nat → Option Nat} {I : Nat → Nat → Int32} {J : Nat → Nat → Int64} {s0 : Int32} {s1 : Value} (k1 : isB s1 = true) : exe X d 173 33 [Value.ref 37, dm, dm] [Value.int s0, s1] (sz, sl, sh, R, I, J) =
    (rf (s1) fun p1 => if sh p1 = (18, 0) then ((ev X d 176 [Value.ref p1, Value.int s0] (sz, sl, sh, R, I, J)).bind fun q => exe X d 173 36 [Value.ref 37, dm, dm] (q.1.toList ++ []) q.2) else none) :=
  (E_callV pn_176 pc_176 rfl rfl (Nat.le_of_ble_eq_true rfl) f173_33)
theorem t173_36 {X : XX} {d : Nat} {sz sl : Nat} {sh : Nat → Nat × Nat} {R : Nat → Nat → Option Nat} {I : Nat → Nat → Int32} {J : Nat → Nat → Int64} (hS : SF sh R)  : exe X d 173 36 [Value.ref 37, dm, dm] [] (sz, sl, sh, R, I, J) =
    some (some (Value.int (1)), (sz, sl, sh, R, (u2 I 37 36 ((I 37 36) + (1))), J)) :=
  tq ((E_aload (v := Value.ref 37) rfl rfl f173_36)) (tq ((E_dup rfl f173_37)) (tq (tq ((G11036 f173_38)) (if_pos (zS37 hS))) (tq ((E_iconst (x := (1)) (by decide) f173_41)) (tq ((E_iadd f173_42)) (tq (tq ((P11036 f173_43)) (if_pos (zS37 hS))) (tq ((E_iconst (x := (1)) (by decide) f173_46)) (tq (E_zret pr_173 f173_47) (if_pos (by decide)))))))))
theorem t173_66 {X : XX} {d : Nat} {sz sl : Nat} {sh : Nat → Nat × Nat} {R : Nat → Nat → Option Nat} {I : Nat → Nat → Int32} {J : Nat → Nat → Int64} (hS : SF sh R) {l1 : Int32} : exe X d 173 66 [Value.ref 37, Value.int l1, dm] [] (sz, sl, sh, R, I, J) =
    (if ¬ (I 37 37) = (6) then (if ¬ l1 = (40) then ((ev X d 173 [Value.ref 37] (sz, sl, sh, R, (u2 (u2 I 37 37 ((I 37 37) + (1))) 37 36 ((I 37 36) + (1))), J)).bind fun q => exe X d 173 114 [Value.ref 37, Value.int l1, dm] (q.1.toList ++ []) q.2) else ((ev X d 168 [Value.ref 37] (sz, sl, sh, R, (u2 (u2 I 37 37 ((I 37 37) + (1))) 37 36 ((I 37 36) + (1))), J)).bind fun q => exe X d 173 107 [Value.ref 37, Value.int l1, dm] (q.1.toList ++ []) q.2)) else some (some (Value.int (0)), (sz, sl, sh, R, I, J))) :=
  tq ((E_aload (v := Value.ref 37) rfl rfl f173_66)) (tq (tq ((G11037 f173_67)) (if_pos (zS37 hS))) (tq ((E_iconst (x := (6)) (by decide) f173_70)) (tq ((E_ic_ne f173_72)) (ite_c (tq ((E_aload (v := Value.ref 37) rfl rfl f173_77)) (tq ((E_dup rfl f173_78)) (tq (tq ((G11037 f173_79)) (if_pos (zS37 hS))) (tq ((E_iconst (x := (1)) (by decide) f173_82)) (tq ((E_iadd f173_83)) (tq (tq ((P11037 f173_84)) (if_pos (zS37 hS))) (tq ((E_aload (v := Value.ref 37) rfl rfl f173_87)) (tq ((E_dup rfl f173_88)) (tq (tq (tq ((G11036 f173_89)) (if_pos (zS37 hS))) (exe_i (u2_pj (by decide)))) (tq ((E_iconst (x := (1)) (by decide) f173_92)) (tq ((E_iadd f173_93)) (tq (tq ((P11036 f173_94)) (if_pos (zS37 hS))) (tq ((E_iload (x := l1) rfl f173_97)) (tq ((E_iconst (x := (40)) (by decide) f173_98)) (tq ((E_ic_ne f173_100)) (ite_c (tq ((E_aload (v := Value.ref 37) rfl rfl f173_110)) ((tq ((E_callV pn_173 pc_173 rfl rfl (Nat.le_of_ble_eq_true rfl) f173_111)) (if_pos (zS37 hS))))) (tq ((E_aload (v := Value.ref 37) rfl rfl f173_103)) ((tq ((E_callV pn_168 pc_168 rfl rfl (Nat.le_of_ble_eq_true rfl) f173_104)) (if_pos (zS37 hS))))))))))))))))))))) (tq ((E_iconst (x := (0)) (by decide) f173_75)) (tq (E_zret pr_173 f173_76) (if_pos (by decide))))))))
theorem t173_107 {X : XX} {d : Nat} {sz sl : Nat} {sh : Nat → Nat × Nat} {R : Nat → Nat → Option Nat} {I : Nat → Nat → Int32} {J : Nat → Nat → Int64} {l1 : Int32} {s0 : Int32} : exe X d 173 107 [Value.ref 37, Value.int l1, dm] [Value.int s0] (sz, sl, sh, R, I, J) =
    exe X d 173 114 [Value.ref 37, Value.int l1, dm] [Value.int s0] (sz, sl, sh, R, I, J) :=
  (E_goto f173_107)
theorem t173_114 {X : XX} {d : Nat} {sz sl : Nat} {sh : Nat → Nat × Nat} {R : Nat → Nat → Option Nat} {I : Nat → Nat → Int32} {J : Nat → Nat → Int64} (hS : SF sh R) {l1 : Int32} {s0 : Int32} : exe X d 173 114 [Value.ref 37, Value.int l1, dm] [Value.int s0] (sz, sl, sh, R, I, J) =
    (if s0 = 0 then exe X d 173 158 [Value.ref 37, Value.int l1, Value.int s0] [] (sz, sl, sh, R, I, J) else (if ¬ l1 = (40) then exe X d 173 158 [Value.ref 37, Value.int l1, Value.int s0] [] (sz, sl, sh, R, I, J) else ((ev X d 174 [Value.ref 37] (sz, sl, sh, R, I, J)).bind fun q => exe X d 173 129 [Value.ref 37, Value.int l1, dm] (q.1.toList ++ []) q.2))) :=
  tq ((E_istore rfl f173_114)) (tq ((E_iload (x := s0) rfl f173_115)) (tq ((E_if_eq f173_116)) (ite_c (rfl) (tq ((E_iload (x := l1) rfl f173_119)) (tq ((E_iconst (x := (40)) (by decide) f173_120)) (tq ((E_ic_ne f173_122)) (ite_c (rfl) (tq ((E_aload (v := Value.ref 37) rfl rfl f173_125)) ((tq ((E_callV pn_174 pc_174 rfl rfl (Nat.le_of_ble_eq_true rfl) f173_126)) (if_pos (zS37 hS))))))))))))
theorem t173_129 {X : XX} {d : Nat} {sz sl : Nat} {sh : Nat → Nat × Nat} {R : Nat → Nat → Option Nat} {I : Nat → Nat → Int32} {J : Nat → Nat → Int64} {l1 : Int32} {s0 : Int32} : exe X d 173 129 [Value.ref 37, Value.int l1, dm] [Value.int s0] (sz, sl, sh, R, I, J) =
    (if ¬ s0 = (41) then exe X d 173 139 [Value.ref 37, Value.int l1, dm] [Value.int (0)] (sz, sl, sh, R, I, J) else exe X d 173 139 [Value.ref 37, Value.int l1, dm] [Value.int (1)] (sz, sl, sh, R, I, J)) :=
  tq ((E_iconst (x := (41)) (by decide) f173_129)) (tq ((E_ic_ne f173_131)) (ite_c ((E_iconst (x := (0)) (by decide) f173_138)) (tq ((E_iconst (x := (1)) (by decide) f173_134)) ((E_goto f173_135)))))
theorem t173_139 {X : XX} {d : Nat} {sz sl : Nat} {sh : Nat → Nat × Nat} {R : Nat → Nat → Option Nat} {I : Nat → Nat → Int32} {J : Nat → Nat → Int64} (hS : SF sh R) {l1 : Int32} {s0 : Int32} : exe X d 173 139 [Value.ref 37, Value.int l1, dm] [Value.int s0] (sz, sl, sh, R, I, J) =
    (if s0 = 0 then exe X d 173 158 [Value.ref 37, Value.int l1, Value.int s0] [] (sz, sl, sh, R, (u2 I 37 36 ((I 37 36) + (0))), J) else exe X d 173 158 [Value.ref 37, Value.int l1, Value.int s0] [] (sz, sl, sh, R, (u2 I 37 36 ((I 37 36) + (1))), J)) :=
  tq ((E_istore rfl f173_139)) (tq ((E_aload (v := Value.ref 37) rfl rfl f173_140)) (tq ((E_dup rfl f173_141)) (tq (tq ((G11036 f173_142)) (if_pos (zS37 hS))) (tq ((E_iload (x := s0) rfl f173_145)) (tq ((E_if_eq f173_146)) (ite_c (tq ((E_iconst (x := (0)) (by decide) f173_153)) (tq ((E_iadd f173_154)) (tq (tq ((P11036 f173_155)) (if_pos (zS37 hS))) (rfl)))) (tq ((E_iconst (x := (1)) (by decide) f173_149)) (tq ((E_goto f173_150)) (tq ((E_iadd f173_154)) (tq (tq ((P11036 f173_155)) (if_pos (zS37 hS))) (rfl)))))))))))
theorem t173_158 {X : XX} {d : Nat} {sz sl : Nat} {sh : Nat → Nat × Nat} {R : Nat → Nat → Option Nat} {I : Nat → Nat → Int32} {J : Nat → Nat → Int64} (hS : SF sh R) {l1 : Int32} {l2 : Int32} : exe X d 173 158 [Value.ref 37, Value.int l1, Value.int l2] [] (sz, sl, sh, R, I, J) =
    (if l2 = 0 then exe X d 173 185 [Value.ref 37, dm, Value.int l2] [] (sz, sl, sh, R, I, J) else (if l1 = (40) then exe X d 173 185 [Value.ref 37, dm, Value.int l2] [] (sz, sl, sh, R, I, J) else (if ¬ l1 = (33) then ((ev X d 176 [Value.ref 37, Value.int (19)] (sz, sl, sh, R, I, J)).bind fun q => exe X d 173 185 [Value.ref 37, dm, Value.int l2] (q.1.toList ++ []) q.2) else ((ev X d 176 [Value.ref 37, Value.int (13)] (sz, sl, sh, R, I, J)).bind fun q => exe X d 173 185 [Value.ref 37, dm, Value.int l2] (q.1.toList ++ []) q.2)))) :=
  tq ((E_iload (x := l2) rfl f173_158)) (tq ((E_if_eq f173_159)) (ite_c (rfl) (tq ((E_iload (x := l1) rfl f173_162)) (tq ((E_iconst (x := (40)) (by decide) f173_163)) (tq ((E_ic_eq f173_165)) (ite_c (rfl) (tq ((E_aload (v := Value.ref 37) rfl rfl f173_168)) (tq ((E_iload (x := l1) rfl f173_169)) (tq ((E_iconst (x := (33)) (by decide) f173_170)) (tq ((E_ic_ne f173_172)) (ite_c (tq ((E_iconst (x := (19)) (by decide) f173_180)) ((tq ((E_callV pn_176 pc_176 rfl rfl (Nat.le_of_ble_eq_true rfl) f173_182)) (if_pos (zS37 hS))))) (tq ((E_iconst (x := (13)) (by decide) f173_175)) (tq ((E_goto f173_177)) ((tq ((E_callV pn_176 pc_176 rfl rfl (Nat.le_of_ble_eq_true rfl) f173_182)) (if_pos (zS37 hS)))))))))))))))))
theorem t173_185 {X : XX} {d : Nat} {sz sl : Nat} {sh : Nat → Nat × Nat} {R : Nat → Nat → Option Nat} {I : Nat → Nat → Int32} {J : Nat → Nat → Int64} (hS : SF sh R) {l2 : Int32} : exe X d 173 185 [Value.ref 37, dm, Value.int l2] [] (sz, sl, sh, R, I, J) =
    (if l2 = 0 ∨ l2 = 1 then some (some (Value.int l2), (sz, sl, sh, R, (u2 I 37 37 ((I 37 37) - (1))), J)) else none) :=
  tq ((E_aload (v := Value.ref 37) rfl rfl f173_185)) (tq ((E_dup rfl f173_186)) (tq (tq ((G11037 f173_187)) (if_pos (zS37 hS))) (tq ((E_iconst (x := (1)) (by decide) f173_190)) (tq ((E_isub f173_191)) (tq (tq ((P11037 f173_192)) (if_pos (zS37 hS))) (tq ((E_iload (x := l2) rfl f173_195)) ((E_zret pr_173 f173_196))))))))
theorem n173 {X : XX} {d : Nat} {h : HP}  : ev X (d + 1) 173 [Value.ref 37] h = exe X d 173 0 [Value.ref 37, dm, dm] [] h := ev_exe (Nat.le_of_ble_eq_true rfl)
theorem f174_0 : fr 174 0 = some (.aload 0, 1, [], []) := by decide +kernel
theorem f174_1 : fr 174 1 = some (.getfield 11036, 3, [], []) := by decide +kernel
theorem f174_4 : fr 174 4 = some (.aload 0, 1, [], []) := by decide +kernel
theorem f174_5 : fr 174 5 = some (.getfield 11009, 3, [], []) := by decide +kernel
theorem f174_8 : fr 174 8 = some (.if_icmp .ge 23, 3, [], [0]) := by decide +kernel
theorem f174_11 : fr 174 11 = some (.aload 0, 1, [], []) := by decide +kernel
theorem f174_12 : fr 174 12 = some (.getfield 11008, 3, [], []) := by decide +kernel
theorem f174_15 : fr 174 15 = some (.aload 0, 1, [0], []) := by decide +kernel
theorem f174_16 : fr 174 16 = some (.getfield 11036, 3, [], []) := by decide +kernel
theorem f174_19 : fr 174 19 = some (.iaload, 1, [], []) := by decide +kernel
theorem f174_20 : fr 174 20 = some (.goto 24, 3, [], []) := by decide +kernel
theorem f174_23 : fr 174 23 = some (.iconst (-1), 1, [], []) := by decide +kernel
theorem f174_24 : fr 174 24 = some (.ireturn, 1, [], []) := by decide +kernel
theorem t174_0 {X : XX} {d : Nat} {sz sl : Nat} {sh : Nat → Nat × Nat} {R : Nat → Nat → Option Nat} {I : Nat → Nat → Int32} {J : Nat → Nat → Int64} (hS : SF sh R)  : exe X d 174 0 [Value.ref 37] [] (sz, sl, sh, R, I, J) =
    (if (I 37 9) ≤ (I 37 36) then some (some (Value.int (-1)), (sz, sl, sh, R, I, J)) else (if inb (I 37 36) 120 then some (some (Value.int (I 45 (I 37 36).toNatClampNeg)), (sz, sl, sh, R, I, J)) else none)) :=
  tq ((E_aload (v := Value.ref 37) rfl rfl f174_0)) (tq (tq ((G11036 f174_1)) (if_pos (zS37 hS))) (tq ((E_aload (v := Value.ref 37) rfl rfl f174_4)) (tq (tq ((G11009 f174_5)) (if_pos (zS37 hS))) (tq ((E_ic_ge f174_8)) (ite_c (tq ((E_iconst (x := (-1)) (by decide) f174_23)) ((E_iret pr_174 f174_24))) (tq ((E_aload (v := Value.ref 37) rfl rfl f174_11)) (tq (tq ((G11008 f174_12)) (if_pos (zS37 hS))) (tq (exe_R (zR37_8 hS)) (tq ((E_aload (v := Value.ref 37) rfl rfl f174_15)) (tq (tq ((G11036 f174_16)) (if_pos (zS37 hS))) (tq (tq ((E_iald f174_19)) (ite_ar (zS45 hS))) (ite_c (tq ((E_goto f174_20)) ((E_iret pr_174 f174_24))) rfl))))))))))))
theorem n174 {X : XX} {d : Nat} {h : HP}  : ev X (d + 1) 174 [Value.ref 37] h = exe X d 174 0 [Value.ref 37] [] h := ev_exe (Nat.le_of_ble_eq_true rfl)
theorem f175_0 : fr 175 0 = some (.iconst 0, 1, [], []) := by decide +kernel
theorem f175_1 : fr 175 1 = some (.istore 1, 1, [], []) := by decide +kernel
theorem f175_2 : fr 175 2 = some (.iconst 0, 1, [], []) := by decide +kernel
theorem f175_3 : fr 175 3 = some (.istore 2, 1, [], []) := by decide +kernel
theorem f175_4 : fr 175 4 = some (.aload 0, 1, [], []) := by decide +kernel
theorem f175_5 : fr 175 5 = some (.invokevirtual 174, 3, [], []) := by decide +kernel
theorem f175_8 : fr 175 8 = some (.iconst 48, 2, [], []) := by decide +kernel
theorem f175_10 : fr 175 10 = some (.iconst 57, 2, [], []) := by decide +kernel
theorem f175_12 : fr 175 12 = some (.invokestatic 148, 3, [], []) := by decide +kernel
theorem f175_15 : fr 175 15 = some (.ifCond .eq 52, 3, [], [2]) := by decide +kernel
theorem f175_18 : fr 175 18 = some (.iload 2, 1, [], []) := by decide +kernel
theorem f175_19 : fr 175 19 = some (.iconst 4, 1, [], []) := by decide +kernel
theorem f175_20 : fr 175 20 = some (.if_icmp .ge 52, 3, [], [2]) := by decide +kernel
theorem f175_23 : fr 175 23 = some (.iconst 10, 2, [], []) := by decide +kernel
theorem f175_25 : fr 175 25 = some (.iload 1, 1, [1], []) := by decide +kernel
theorem f175_26 : fr 175 26 = some (.imul, 1, [], []) := by decide +kernel
theorem f175_27 : fr 175 27 = some (.aload 0, 1, [], []) := by decide +kernel
theorem f175_28 : fr 175 28 = some (.invokevirtual 174, 3, [], []) := by decide +kernel
theorem f175_31 : fr 175 31 = some (.iadd, 1, [], []) := by decide +kernel
theorem f175_32 : fr 175 32 = some (.iconst 48, 2, [], []) := by decide +kernel
theorem f175_34 : fr 175 34 = some (.isub, 1, [], []) := by decide +kernel
theorem f175_35 : fr 175 35 = some (.istore 1, 1, [], []) := by decide +kernel
theorem f175_36 : fr 175 36 = some (.iinc 2 1, 3, [], []) := by decide +kernel
theorem f175_39 : fr 175 39 = some (.aload 0, 1, [], []) := by decide +kernel
theorem f175_40 : fr 175 40 = some (.dup, 1, [], []) := by decide +kernel
theorem f175_41 : fr 175 41 = some (.getfield 11036, 3, [], []) := by decide +kernel
theorem f175_44 : fr 175 44 = some (.iconst 1, 1, [], []) := by decide +kernel
theorem f175_45 : fr 175 45 = some (.iadd, 1, [], []) := by decide +kernel
theorem f175_46 : fr 175 46 = some (.putfield 11036, 3, [], []) := by decide +kernel
theorem f175_49 : fr 175 49 = some (.goto 4, 3, [], []) := by decide +kernel
theorem f175_52 : fr 175 52 = some (.aload 0, 1, [0], []) := by decide +kernel
theorem f175_53 : fr 175 53 = some (.iconst 100000, 2, [], []) := by decide +kernel
theorem f175_55 : fr 175 55 = some (.iload 1, 1, [1], []) := by decide +kernel
theorem f175_56 : fr 175 56 = some (.iadd, 1, [], []) := by decide +kernel
theorem f175_57 : fr 175 57 = some (.invokevirtual 176, 3, [], []) := by decide +kernel
theorem f175_60 : fr 175 60 = some (.iconst 1, 1, [], []) := by decide +kernel
theorem f175_61 : fr 175 61 = some (.ireturn, 1, [], []) := by decide +kernel
theorem t175_0 {X : XX} {d : Nat} {sz sl : Nat} {sh : Nat → Nat × Nat} {R : Nat → Nat → Option Nat} {I : Nat → Nat → Int32} {J : Nat → Nat → Int64}  : exe X d 175 0 [Value.ref 37, dm, dm] [] (sz, sl, sh, R, I, J) =
    exe X d 175 4 [Value.ref 37, Value.int (0), Value.int (0)] [] (sz, sl, sh, R, I, J) :=
  tq ((E_iconst (x := (0)) (by decide) f175_0)) (tq ((E_istore rfl f175_1)) (tq ((E_iconst (x := (0)) (by decide) f175_2)) ((E_istore rfl f175_3))))
theorem t175_4 {X : XX} {d : Nat} {sz sl : Nat} {sh : Nat → Nat × Nat} {R : Nat → Nat → Option Nat} {I : Nat → Nat → Int32} {J : Nat → Nat → Int64} (hS : SF sh R) {l1 : Int32} {l2 : Int32} : exe X d 175 4 [Value.ref 37, Value.int l1, Value.int l2] [] (sz, sl, sh, R, I, J) =
    ((ev X d 174 [Value.ref 37] (sz, sl, sh, R, I, J)).bind fun q => exe X d 175 8 [Value.ref 37, Value.int l1, Value.int l2] (q.1.toList ++ []) q.2) :=
  tq ((E_aload (v := Value.ref 37) rfl rfl f175_4)) ((tq ((E_callV pn_174 pc_174 rfl rfl (Nat.le_of_ble_eq_true rfl) f175_5)) (if_pos (zS37 hS))))
theorem t175_8 {X : XX} {d : Nat} {sz sl : Nat} {sh : Nat → Nat × Nat} {R : Nat → Nat → Option Nat} {I : Nat → Nat → Int32} {J : Nat → Nat → Int64} {l1 : Int32} {l2 : Int32} {s0 : Int32} : exe X d 175 8 [Value.ref 37, Value.int l1, Value.int l2] [Value.int s0] (sz, sl, sh, R, I, J) =
    ((ev X d 148 [Value.int s0, Value.int (48), Value.int (57)] (sz, sl, sh, R, I, J)).bind fun q => exe X d 175 15 [Value.ref 37, Value.int l1, Value.int l2] (q.1.toList ++ []) q.2) :=
  tq ((E_iconst (x := (48)) (by decide) f175_8)) (tq ((E_iconst (x := (57)) (by decide) f175_10)) ((E_callS pn_148 rfl rfl (Nat.le_of_ble_eq_true rfl) (Nat.le_of_ble_eq_true rfl) f175_12)))
theorem t175_15 {X : XX} {d : Nat} {sz sl : Nat} {sh : Nat → Nat × Nat} {R : Nat → Nat → Option Nat} {I : Nat → Nat → Int32} {J : Nat → Nat → Int64} (hS : SF sh R) {l1 : Int32} {l2 : Int32} {s0 : Int32} : exe X d 175 15 [Value.ref 37, Value.int l1, Value.int l2] [Value.int s0] (sz, sl, sh, R, I, J) =
    (if s0 = 0 then ((ev X d 176 [Value.ref 37, Value.int ((100000) + l1)] (sz, sl, sh, R, I, J)).bind fun q => exe X d 175 60 [dm, dm, dm] (q.1.toList ++ []) q.2) else (if (4) ≤ l2 then ((ev X d 176 [Value.ref 37, Value.int ((100000) + l1)] (sz, sl, sh, R, I, J)).bind fun q => exe X d 175 60 [dm, dm, dm] (q.1.toList ++ []) q.2) else ((ev X d 174 [Value.ref 37] (sz, sl, sh, R, I, J)).bind fun q => exe X d 175 31 [Value.ref 37, dm, Value.int l2] (q.1.toList ++ [Value.int ((10) * l1)]) q.2))) :=
  tq ((E_if_eq f175_15)) (ite_c (tq ((E_aload (v := Value.ref 37) rfl rfl f175_52)) (tq ((E_iconst (x := (100000)) (by decide) f175_53)) (tq ((E_iload (x := l1) rfl f175_55)) (tq ((E_iadd f175_56)) ((tq ((E_callV pn_176 pc_176 rfl rfl (Nat.le_of_ble_eq_true rfl) f175_57)) (if_pos (zS37 hS)))))))) (tq ((E_iload (x := l2) rfl f175_18)) (tq ((E_iconst (x := (4)) (by decide) f175_19)) (tq ((E_ic_ge f175_20)) (ite_c (tq ((E_aload (v := Value.ref 37) rfl rfl f175_52)) (tq ((E_iconst (x := (100000)) (by decide) f175_53)) (tq ((E_iload (x := l1) rfl f175_55)) (tq ((E_iadd f175_56)) ((tq ((E_callV pn_176 pc_176 rfl rfl (Nat.le_of_ble_eq_true rfl) f175_57)) (if_pos (zS37 hS)))))))) (tq ((E_iconst (x := (10)) (by decide) f175_23)) (tq ((E_iload (x := l1) rfl f175_25)) (tq ((E_imul f175_26)) (tq ((E_aload (v := Value.ref 37) rfl rfl f175_27)) ((tq ((E_callV pn_174 pc_174 rfl rfl (Nat.le_of_ble_eq_true rfl) f175_28)) (if_pos (zS37 hS)))))))))))))
theorem t175_31 {X : XX} {d : Nat} {sz sl : Nat} {sh : Nat → Nat × Nat} {R : Nat → Nat → Option Nat} {I : Nat → Nat → Int32} {J : Nat → Nat → Int64} (hS : SF sh R) {l2 : Int32} {s0 : Int32} {s1 : Int32} : exe X d 175 31 [Value.ref 37, dm, Value.int l2] [Value.int s0, Value.int s1] (sz, sl, sh, R, I, J) =
    exe X d 175 4 [Value.ref 37, Value.int ((s1 + s0) - (48)), Value.int (l2 + (1))] [] (sz, sl, sh, R, (u2 I 37 36 ((I 37 36) + (1))), J) :=
  tq ((E_iadd f175_31)) (tq ((E_iconst (x := (48)) (by decide) f175_32)) (tq ((E_isub f175_34)) (tq ((E_istore rfl f175_35)) (tq ((E_iinc (x := l2) (x' := (1)) rfl rfl (by decide) f175_36)) (tq ((E_aload (v := Value.ref 37) rfl rfl f175_39)) (tq ((E_dup rfl f175_40)) (tq (tq ((G11036 f175_41)) (if_pos (zS37 hS))) (tq ((E_iconst (x := (1)) (by decide) f175_44)) (tq ((E_iadd f175_45)) (tq (tq ((P11036 f175_46)) (if_pos (zS37 hS))) ((E_goto f175_49))))))))))))
theorem t175_60 {X : XX} {d : Nat} {sz sl : Nat} {sh : Nat → Nat × Nat} {R : Nat → Nat → Option Nat} {I : Nat → Nat → Int32} {J : Nat → Nat → Int64}  : exe X d 175 60 [dm, dm, dm] [] (sz, sl, sh, R, I, J) =
    some (some (Value.int (1)), (sz, sl, sh, R, I, J)) :=
  tq ((E_iconst (x := (1)) (by decide) f175_60)) (tq (E_zret pr_175 f175_61) (if_pos (by decide)))
theorem n175 {X : XX} {d : Nat} {h : HP}  : ev X (d + 1) 175 [Value.ref 37] h = exe X d 175 0 [Value.ref 37, dm, dm] [] h := ev_exe (Nat.le_of_ble_eq_true rfl)
theorem f176_0 : fr 176 0 = some (.aload 0, 1, [], []) := by decide +kernel
theorem f176_1 : fr 176 1 = some (.getfield 11010, 3, [], []) := by decide +kernel
theorem f176_4 : fr 176 4 = some (.iconst 200, 3, [], []) := by decide +kernel
theorem f176_7 : fr 176 7 = some (.aload 0, 1, [], []) := by decide +kernel
theorem f176_8 : fr 176 8 = some (.getfield 11038, 3, [], []) := by decide +kernel
theorem f176_11 : fr 176 11 = some (.imul, 1, [], []) := by decide +kernel
theorem f176_12 : fr 176 12 = some (.aload 0, 1, [], []) := by decide +kernel
theorem f176_13 : fr 176 13 = some (.getfield 11039, 3, [], []) := by decide +kernel
theorem f176_16 : fr 176 16 = some (.iadd, 1, [], []) := by decide +kernel
theorem f176_17 : fr 176 17 = some (.iload 1, 1, [1], []) := by decide +kernel
theorem f176_18 : fr 176 18 = some (.iastore, 1, [], []) := by decide +kernel
theorem f176_19 : fr 176 19 = some (.aload 0, 1, [0], []) := by decide +kernel
theorem f176_20 : fr 176 20 = some (.dup, 1, [], []) := by decide +kernel
theorem f176_21 : fr 176 21 = some (.getfield 11039, 3, [], []) := by decide +kernel
theorem f176_24 : fr 176 24 = some (.iconst 1, 1, [], []) := by decide +kernel
theorem f176_25 : fr 176 25 = some (.iadd, 1, [], []) := by decide +kernel
theorem f176_26 : fr 176 26 = some (.putfield 11039, 3, [], []) := by decide +kernel
theorem f176_29 : fr 176 29 = some (.return_, 1, [], []) := by decide +kernel
theorem t176_0 {X : XX} {d : Nat} {sz sl : Nat} {sh : Nat → Nat × Nat} {R : Nat → Nat → Option Nat} {I : Nat → Nat → Int32} {J : Nat → Nat → Int64} (hS : SF sh R) {l1 : Int32} : exe X d 176 0 [Value.ref 37, Value.int l1] [] (sz, sl, sh, R, I, J) =
    (if inb (((200) * (I 37 38)) + (I 37 39)) 800 then some (none, (sz, sl, sh, R, (u2 (u2 I 46 (((200) * (I 37 38)) + (I 37 39)).toNatClampNeg l1) 37 39 ((I 37 39) + (1))), J)) else none) :=
  tq ((E_aload (v := Value.ref 37) rfl rfl f176_0)) (tq (tq ((G11010 f176_1)) (if_pos (zS37 hS))) (tq (exe_R (zR37_10 hS)) (tq ((E_iconst (x := (200)) (by decide) f176_4)) (tq ((E_aload (v := Value.ref 37) rfl rfl f176_7)) (tq (tq ((G11038 f176_8)) (if_pos (zS37 hS))) (tq ((E_imul f176_11)) (tq ((E_aload (v := Value.ref 37) rfl rfl f176_12)) (tq (tq ((G11039 f176_13)) (if_pos (zS37 hS))) (tq ((E_iadd f176_16)) (tq ((E_iload (x := l1) rfl f176_17)) (tq (tq ((E_iast f176_18)) (ite_ar (zS46 hS))) (ite_c (tq ((E_aload (v := Value.ref 37) rfl rfl f176_19)) (tq ((E_dup rfl f176_20)) (tq (tq (tq ((G11039 f176_21)) (if_pos (zS37 hS))) (exe_i (u2_pa (by decide)))) (tq ((E_iconst (x := (1)) (by decide) f176_24)) (tq ((E_iadd f176_25)) (tq (tq ((P11039 f176_26)) (if_pos (zS37 hS))) ((E_vret pr_176 f176_29)))))))) rfl))))))))))))
theorem n176 {X : XX} {d : Nat} {h : HP} {a0 : Int32} : ev X (d + 1) 176 [Value.ref 37, Value.int a0] h = exe X d 176 0 [Value.ref 37, Value.int a0] [] h := ev_exe (Nat.le_of_ble_eq_true rfl)
theorem f177_0 : fr 177 0 = some (.iload 0, 1, [0], []) := by decide +kernel
theorem f177_1 : fr 177 1 = some (.lookupswitch 123 #[(98, 120), (99, 123), (100, 116), (101, 123), (102, 123), (103, 123), (104, 108), (105, 123), (106, 123), (107, 112), (108, 123), (109, 123), (110, 123), (111, 123), (112, 123), (113, 123), (114, 123), (115, 118), (116, 123), (117, 123), (118, 123), (119, 110), (120, 114)], 107, [], []) := by decide +kernel
theorem f177_108 : fr 177 108 = some (.iconst 0, 1, [], []) := by decide +kernel
theorem f177_109 : fr 177 109 = some (.ireturn, 1, [], []) := by decide +kernel
theorem f177_110 : fr 177 110 = some (.iconst 1, 1, [], []) := by decide +kernel
theorem f177_111 : fr 177 111 = some (.ireturn, 1, [], []) := by decide +kernel
theorem f177_112 : fr 177 112 = some (.iconst 2, 1, [], []) := by decide +kernel
theorem f177_113 : fr 177 113 = some (.ireturn, 1, [], []) := by decide +kernel
theorem f177_114 : fr 177 114 = some (.iconst 3, 1, [], []) := by decide +kernel
theorem f177_115 : fr 177 115 = some (.ireturn, 1, [], []) := by decide +kernel
theorem f177_116 : fr 177 116 = some (.iconst 4, 1, [], []) := by decide +kernel
theorem f177_117 : fr 177 117 = some (.ireturn, 1, [], []) := by decide +kernel
theorem f177_118 : fr 177 118 = some (.iconst 5, 1, [], []) := by decide +kernel
theorem f177_119 : fr 177 119 = some (.ireturn, 1, [], []) := by decide +kernel
theorem f177_120 : fr 177 120 = some (.iconst 6, 2, [], []) := by decide +kernel
theorem f177_122 : fr 177 122 = some (.ireturn, 1, [], []) := by decide +kernel
theorem f177_123 : fr 177 123 = some (.iconst (-1), 1, [], []) := by decide +kernel
theorem f177_124 : fr 177 124 = some (.ireturn, 1, [], []) := by decide +kernel
theorem t177_0 {X : XX} {d : Nat} {sz sl : Nat} {sh : Nat → Nat × Nat} {R : Nat → Nat → Option Nat} {I : Nat → Nat → Int32} {J : Nat → Nat → Int64} {l0 : Int32} : exe X d 177 0 [Value.int l0] [] (sz, sl, sh, R, I, J) =
    (if l0 = (98) then some (some (Value.int (6)), (sz, sl, sh, R, I, J)) else (if l0 = (99) then some (some (Value.int (-1)), (sz, sl, sh, R, I, J)) else (if l0 = (100) then some (some (Value.int (4)), (sz, sl, sh, R, I, J)) else (if l0 = (101) then some (some (Value.int (-1)), (sz, sl, sh, R, I, J)) else (if l0 = (102) then some (some (Value.int (-1)), (sz, sl, sh, R, I, J)) else (if l0 = (103) then some (some (Value.int (-1)), (sz, sl, sh, R, I, J)) else (if l0 = (104) then some (some (Value.int (0)), (sz, sl, sh, R, I, J)) else (if l0 = (105) then some (some (Value.int (-1)), (sz, sl, sh, R, I, J)) else (if l0 = (106) then some (some (Value.int (-1)), (sz, sl, sh, R, I, J)) else (if l0 = (107) then some (some (Value.int (2)), (sz, sl, sh, R, I, J)) else (if l0 = (108) then some (some (Value.int (-1)), (sz, sl, sh, R, I, J)) else (if l0 = (109) then some (some (Value.int (-1)), (sz, sl, sh, R, I, J)) else (if l0 = (110) then some (some (Value.int (-1)), (sz, sl, sh, R, I, J)) else (if l0 = (111) then some (some (Value.int (-1)), (sz, sl, sh, R, I, J)) else (if l0 = (112) then some (some (Value.int (-1)), (sz, sl, sh, R, I, J)) else (if l0 = (113) then some (some (Value.int (-1)), (sz, sl, sh, R, I, J)) else (if l0 = (114) then some (some (Value.int (-1)), (sz, sl, sh, R, I, J)) else (if l0 = (115) then some (some (Value.int (5)), (sz, sl, sh, R, I, J)) else (if l0 = (116) then some (some (Value.int (-1)), (sz, sl, sh, R, I, J)) else (if l0 = (117) then some (some (Value.int (-1)), (sz, sl, sh, R, I, J)) else (if l0 = (118) then some (some (Value.int (-1)), (sz, sl, sh, R, I, J)) else (if l0 = (119) then some (some (Value.int (1)), (sz, sl, sh, R, I, J)) else (if l0 = (120) then some (some (Value.int (3)), (sz, sl, sh, R, I, J)) else some (some (Value.int (-1)), (sz, sl, sh, R, I, J))))))))))))))))))))))))) :=
  tq ((E_iload (x := l0) rfl f177_0)) (tq ((E_sw f177_1)) (sw_c (by decide) (tq ((E_iconst (x := (6)) (by decide) f177_120)) ((E_iret pr_177 f177_122))) (sw_c (by decide) (tq ((E_iconst (x := (-1)) (by decide) f177_123)) ((E_iret pr_177 f177_124))) (sw_c (by decide) (tq ((E_iconst (x := (4)) (by decide) f177_116)) ((E_iret pr_177 f177_117))) (sw_c (by decide) (tq ((E_iconst (x := (-1)) (by decide) f177_123)) ((E_iret pr_177 f177_124))) (sw_c (by decide) (tq ((E_iconst (x := (-1)) (by decide) f177_123)) ((E_iret pr_177 f177_124))) (sw_c (by decide) (tq ((E_iconst (x := (-1)) (by decide) f177_123)) ((E_iret pr_177 f177_124))) (sw_c (by decide) (tq ((E_iconst (x := (0)) (by decide) f177_108)) ((E_iret pr_177 f177_109))) (sw_c (by decide) (tq ((E_iconst (x := (-1)) (by decide) f177_123)) ((E_iret pr_177 f177_124))) (sw_c (by decide) (tq ((E_iconst (x := (-1)) (by decide) f177_123)) ((E_iret pr_177 f177_124))) (sw_c (by decide) (tq ((E_iconst (x := (2)) (by decide) f177_112)) ((E_iret pr_177 f177_113))) (sw_c (by decide) (tq ((E_iconst (x := (-1)) (by decide) f177_123)) ((E_iret pr_177 f177_124))) (sw_c (by decide) (tq ((E_iconst (x := (-1)) (by decide) f177_123)) ((E_iret pr_177 f177_124))) (sw_c (by decide) (tq ((E_iconst (x := (-1)) (by decide) f177_123)) ((E_iret pr_177 f177_124))) (sw_c (by decide) (tq ((E_iconst (x := (-1)) (by decide) f177_123)) ((E_iret pr_177 f177_124))) (sw_c (by decide) (tq ((E_iconst (x := (-1)) (by decide) f177_123)) ((E_iret pr_177 f177_124))) (sw_c (by decide) (tq ((E_iconst (x := (-1)) (by decide) f177_123)) ((E_iret pr_177 f177_124))) (sw_c (by decide) (tq ((E_iconst (x := (-1)) (by decide) f177_123)) ((E_iret pr_177 f177_124))) (sw_c (by decide) (tq ((E_iconst (x := (5)) (by decide) f177_118)) ((E_iret pr_177 f177_119))) (sw_c (by decide) (tq ((E_iconst (x := (-1)) (by decide) f177_123)) ((E_iret pr_177 f177_124))) (sw_c (by decide) (tq ((E_iconst (x := (-1)) (by decide) f177_123)) ((E_iret pr_177 f177_124))) (sw_c (by decide) (tq ((E_iconst (x := (-1)) (by decide) f177_123)) ((E_iret pr_177 f177_124))) (sw_c (by decide) (tq ((E_iconst (x := (1)) (by decide) f177_110)) ((E_iret pr_177 f177_111))) (sw_c (by decide) (tq ((E_iconst (x := (3)) (by decide) f177_114)) ((E_iret pr_177 f177_115))) (tq ((E_iconst (x := (-1)) (by decide) f177_123)) ((E_iret pr_177 f177_124)))))))))))))))))))))))))))
theorem n177 {X : XX} {d : Nat} {h : HP} {a0 : Int32} : ev X (d + 1) 177 [Value.int a0] h = exe X d 177 0 [Value.int a0] [] h := ev_exe (Nat.le_of_ble_eq_true rfl)
theorem f178_0 : fr 178 0 = some (.aload 0, 1, [], []) := by decide +kernel
theorem f178_1 : fr 178 1 = some (.iload 1, 1, [], []) := by decide +kernel
theorem f178_2 : fr 178 2 = some (.invokevirtual 179, 3, [], []) := by decide +kernel
theorem f178_5 : fr 178 5 = some (.ifCond .eq 46, 3, [], [0, 1, 2, 3]) := by decide +kernel
theorem f178_8 : fr 178 8 = some (.aload 0, 1, [], []) := by decide +kernel
theorem f178_9 : fr 178 9 = some (.iload 2, 1, [], []) := by decide +kernel
theorem f178_10 : fr 178 10 = some (.invokevirtual 154, 3, [], []) := by decide +kernel
theorem f178_13 : fr 178 13 = some (.ifCond .eq 46, 3, [], [0, 1, 2, 3]) := by decide +kernel
theorem f178_16 : fr 178 16 = some (.iload 3, 1, [], []) := by decide +kernel
theorem f178_17 : fr 178 17 = some (.iconst 0, 1, [], []) := by decide +kernel
theorem f178_18 : fr 178 18 = some (.iconst 7999, 3, [], []) := by decide +kernel
theorem f178_21 : fr 178 21 = some (.invokestatic 148, 3, [], []) := by decide +kernel
theorem f178_24 : fr 178 24 = some (.ifCond .eq 46, 3, [], [0, 1, 2, 3]) := by decide +kernel
theorem f178_27 : fr 178 27 = some (.iload 3, 1, [], []) := by decide +kernel
theorem f178_28 : fr 178 28 = some (.iconst 100, 2, [], []) := by decide +kernel
theorem f178_30 : fr 178 30 = some (.idiv, 1, [], []) := by decide +kernel
theorem f178_31 : fr 178 31 = some (.iconst 10, 2, [], []) := by decide +kernel
theorem f178_33 : fr 178 33 = some (.irem, 1, [], []) := by decide +kernel
theorem f178_34 : fr 178 34 = some (.iconst 1, 1, [], []) := by decide +kernel
theorem f178_35 : fr 178 35 = some (.if_icmp .gt 46, 3, [], [0, 1, 2, 3]) := by decide +kernel
theorem f178_38 : fr 178 38 = some (.iload 3, 1, [], []) := by decide +kernel
theorem f178_39 : fr 178 39 = some (.iconst 10, 2, [], []) := by decide +kernel
theorem f178_41 : fr 178 41 = some (.irem, 1, [], []) := by decide +kernel
theorem f178_42 : fr 178 42 = some (.iconst 1, 1, [], []) := by decide +kernel
theorem f178_43 : fr 178 43 = some (.if_icmp .le 48, 3, [0, 1, 2, 3], []) := by decide +kernel
theorem f178_46 : fr 178 46 = some (.iconst (-1), 1, [], []) := by decide +kernel
theorem f178_47 : fr 178 47 = some (.ireturn, 1, [], []) := by decide +kernel
theorem f178_48 : fr 178 48 = some (.aload 0, 1, [0], []) := by decide +kernel
theorem f178_49 : fr 178 49 = some (.iload 1, 1, [1], []) := by decide +kernel
theorem f178_50 : fr 178 50 = some (.iload 2, 1, [], []) := by decide +kernel
theorem f178_51 : fr 178 51 = some (.iconst 10, 2, [], []) := by decide +kernel
theorem f178_53 : fr 178 53 = some (.idiv, 1, [], []) := by decide +kernel
theorem f178_54 : fr 178 54 = some (.iload 2, 1, [2], []) := by decide +kernel
theorem f178_55 : fr 178 55 = some (.iconst 10, 2, [], []) := by decide +kernel
theorem f178_57 : fr 178 57 = some (.irem, 1, [], []) := by decide +kernel
theorem f178_58 : fr 178 58 = some (.iload 3, 1, [], []) := by decide +kernel
theorem f178_59 : fr 178 59 = some (.iconst 1000, 3, [], []) := by decide +kernel
theorem f178_62 : fr 178 62 = some (.idiv, 1, [], []) := by decide +kernel
theorem f178_63 : fr 178 63 = some (.iload 3, 1, [], []) := by decide +kernel
theorem f178_64 : fr 178 64 = some (.iconst 100, 2, [], []) := by decide +kernel
theorem f178_66 : fr 178 66 = some (.idiv, 1, [], []) := by decide +kernel
theorem f178_67 : fr 178 67 = some (.iconst 10, 2, [], []) := by decide +kernel
theorem f178_69 : fr 178 69 = some (.irem, 1, [], []) := by decide +kernel
theorem f178_70 : fr 178 70 = some (.iload 3, 1, [], []) := by decide +kernel
theorem f178_71 : fr 178 71 = some (.iconst 10, 2, [], []) := by decide +kernel
theorem f178_73 : fr 178 73 = some (.idiv, 1, [], []) := by decide +kernel
theorem f178_74 : fr 178 74 = some (.iconst 10, 2, [], []) := by decide +kernel
theorem f178_76 : fr 178 76 = some (.irem, 1, [], []) := by decide +kernel
theorem f178_77 : fr 178 77 = some (.iload 3, 1, [3], []) := by decide +kernel
theorem f178_78 : fr 178 78 = some (.iconst 10, 2, [], []) := by decide +kernel
theorem f178_80 : fr 178 80 = some (.irem, 1, [], []) := by decide +kernel
theorem f178_81 : fr 178 81 = some (.invokevirtual 180, 3, [], []) := by decide +kernel
theorem f178_84 : fr 178 84 = some (.ireturn, 1, [], []) := by decide +kernel
theorem t178_0 {X : XX} {d : Nat} {sz sl : Nat} {sh : Nat → Nat × Nat} {R : Nat → Nat → Option Nat} {I : Nat → Nat → Int32} {J : Nat → Nat → Int64} (hS : SF sh R) {l1 : Int32} {l2 : Int32} {l3 : Int32} : exe X d 178 0 [Value.ref 37, Value.int l1, Value.int l2, Value.int l3] [] (sz, sl, sh, R, I, J) =
    ((ev X d 179 [Value.ref 37, Value.int l1] (sz, sl, sh, R, I, J)).bind fun q => exe X d 178 5 [Value.ref 37, Value.int l1, Value.int l2, Value.int l3] (q.1.toList ++ []) q.2) :=
  tq ((E_aload (v := Value.ref 37) rfl rfl f178_0)) (tq ((E_iload (x := l1) rfl f178_1)) ((tq ((E_callV pn_179 pc_179 rfl rfl (Nat.le_of_ble_eq_true rfl) f178_2)) (if_pos (zS37 hS)))))
theorem t178_5 {X : XX} {d : Nat} {sz sl : Nat} {sh : Nat → Nat × Nat} {R : Nat → Nat → Option Nat} {I : Nat → Nat → Int32} {J : Nat → Nat → Int64} (hS : SF sh R) {l1 : Int32} {l2 : Int32} {l3 : Int32} {s0 : Int32} : exe X d 178 5 [Value.ref 37, Value.int l1, Value.int l2, Value.int l3] [Value.int s0] (sz, sl, sh, R, I, J) =
    (if s0 = 0 then some (some (Value.int (-1)), (sz, sl, sh, R, I, J)) else ((ev X d 154 [Value.ref 37, Value.int l2] (sz, sl, sh, R, I, J)).bind fun q => exe X d 178 13 [Value.ref 37, Value.int l1, Value.int l2, Value.int l3] (q.1.toList ++ []) q.2)) :=
  tq ((E_if_eq f178_5)) (ite_c (tq ((E_iconst (x := (-1)) (by decide) f178_46)) ((E_iret pr_178 f178_47))) (tq ((E_aload (v := Value.ref 37) rfl rfl f178_8)) (tq ((E_iload (x := l2) rfl f178_9)) ((tq ((E_callV pn_154 pc_154 rfl rfl (Nat.le_of_ble_eq_true rfl) f178_10)) (if_pos (zS37 hS)))))))
theorem t178_13 {X : XX} {d : Nat} {sz sl : Nat} {sh : Nat → Nat × Nat} {R : Nat → Nat → Option Nat} {I : Nat → Nat → Int32} {J : Nat → Nat → Int64} {l1 : Int32} {l2 : Int32} {l3 : Int32} {s0 : Int32} : exe X d 178 13 [Value.ref 37, Value.int l1, Value.int l2, Value.int l3] [Value.int s0] (sz, sl, sh, R, I, J) =
    (if s0 = 0 then some (some (Value.int (-1)), (sz, sl, sh, R, I, J)) else ((ev X d 148 [Value.int l3, Value.int (0), Value.int (7999)] (sz, sl, sh, R, I, J)).bind fun q => exe X d 178 24 [Value.ref 37, Value.int l1, Value.int l2, Value.int l3] (q.1.toList ++ []) q.2)) :=
  tq ((E_if_eq f178_13)) (ite_c (tq ((E_iconst (x := (-1)) (by decide) f178_46)) ((E_iret pr_178 f178_47))) (tq ((E_iload (x := l3) rfl f178_16)) (tq ((E_iconst (x := (0)) (by decide) f178_17)) (tq ((E_iconst (x := (7999)) (by decide) f178_18)) ((E_callS pn_148 rfl rfl (Nat.le_of_ble_eq_true rfl) (Nat.le_of_ble_eq_true rfl) f178_21))))))
theorem t178_24 {X : XX} {d : Nat} {sz sl : Nat} {sh : Nat → Nat × Nat} {R : Nat → Nat → Option Nat} {I : Nat → Nat → Int32} {J : Nat → Nat → Int64} (hS : SF sh R) {l1 : Int32} {l2 : Int32} {l3 : Int32} {s0 : Int32} : exe X d 178 24 [Value.ref 37, Value.int l1, Value.int l2, Value.int l3] [Value.int s0] (sz, sl, sh, R, I, J) =
    (if s0 = 0 then some (some (Value.int (-1)), (sz, sl, sh, R, I, J)) else (if (1) < ((l3 / (100)) - (l3 / (100)) / (10) * (10)) then some (some (Value.int (-1)), (sz, sl, sh, R, I, J)) else (if (l3 - l3 / (10) * (10)) ≤ (1) then ((ev X d 180 [Value.ref 37, Value.int l1, Value.int (l2 / (10)), Value.int (l2 - l2 / (10) * (10)), Value.int (l3 / (1000)), Value.int ((l3 / (100)) - (l3 / (100)) / (10) * (10)), Value.int ((l3 / (10)) - (l3 / (10)) / (10) * (10)), Value.int (l3 - l3 / (10) * (10))] (sz, sl, sh, R, I, J)).bind fun q => exe X d 178 84 [dm, dm, dm, dm] (q.1.toList ++ []) q.2) else some (some (Value.int (-1)), (sz, sl, sh, R, I, J))))) :=
  tq ((E_if_eq f178_24)) (ite_c (tq ((E_iconst (x := (-1)) (by decide) f178_46)) ((E_iret pr_178 f178_47))) (tq ((E_iload (x := l3) rfl f178_27)) (tq ((E_iconst (x := (100)) (by decide) f178_28)) (tq ((E_idiv (by decide) f178_30)) (tq ((E_iconst (x := (10)) (by decide) f178_31)) (tq ((E_irem (by decide) f178_33)) (tq ((E_iconst (x := (1)) (by decide) f178_34)) (tq ((E_ic_gt f178_35)) (ite_c (tq ((E_iconst (x := (-1)) (by decide) f178_46)) ((E_iret pr_178 f178_47))) (tq ((E_iload (x := l3) rfl f178_38)) (tq ((E_iconst (x := (10)) (by decide) f178_39)) (tq ((E_irem (by decide) f178_41)) (tq ((E_iconst (x := (1)) (by decide) f178_42)) (tq ((E_ic_le f178_43)) (ite_c (tq ((E_aload (v := Value.ref 37) rfl rfl f178_48)) (tq ((E_iload (x := l1) rfl f178_49)) (tq ((E_iload (x := l2) rfl f178_50)) (tq ((E_iconst (x := (10)) (by decide) f178_51)) (tq ((E_idiv (by decide) f178_53)) (tq ((E_iload (x := l2) rfl f178_54)) (tq ((E_iconst (x := (10)) (by decide) f178_55)) (tq ((E_irem (by decide) f178_57)) (tq ((E_iload (x := l3) rfl f178_58)) (tq ((E_iconst (x := (1000)) (by decide) f178_59)) (tq ((E_idiv (by decide) f178_62)) (tq ((E_iload (x := l3) rfl f178_63)) (tq ((E_iconst (x := (100)) (by decide) f178_64)) (tq ((E_idiv (by decide) f178_66)) (tq ((E_iconst (x := (10)) (by decide) f178_67)) (tq ((E_irem (by decide) f178_69)) (tq ((E_iload (x := l3) rfl f178_70)) (tq ((E_iconst (x := (10)) (by decide) f178_71)) (tq ((E_idiv (by decide) f178_73)) (tq ((E_iconst (x := (10)) (by decide) f178_74)) (tq ((E_irem (by decide) f178_76)) (tq ((E_iload (x := l3) rfl f178_77)) (tq ((E_iconst (x := (10)) (by decide) f178_78)) (tq ((E_irem (by decide) f178_80)) ((tq ((E_callV pn_180 pc_180 rfl rfl (Nat.le_of_ble_eq_true rfl) f178_81)) (if_pos (zS37 hS)))))))))))))))))))))))))))) (tq ((E_iconst (x := (-1)) (by decide) f178_46)) ((E_iret pr_178 f178_47))))))))))))))))))
theorem t178_84 {X : XX} {d : Nat} {sz sl : Nat} {sh : Nat → Nat × Nat} {R : Nat → Nat → Option Nat} {I : Nat → Nat → Int32} {J : Nat → Nat → Int64} {s0 : Int32} : exe X d 178 84 [dm, dm, dm, dm] [Value.int s0] (sz, sl, sh, R, I, J) =
    some (some (Value.int s0), (sz, sl, sh, R, I, J)) :=
  (E_iret pr_178 f178_84)
theorem n178 {X : XX} {d : Nat} {h : HP} {a0 : Int32} {a1 : Int32} {a2 : Int32} : ev X (d + 1) 178 [Value.ref 37, Value.int a0, Value.int a1, Value.int a2] h = exe X d 178 0 [Value.ref 37, Value.int a0, Value.int a1, Value.int a2] [] h := ev_exe (Nat.le_of_ble_eq_true rfl)
theorem f179_0 : fr 179 0 = some (.iload 1, 1, [1], []) := by decide +kernel
theorem f179_1 : fr 179 1 = some (.iconst 0, 1, [], []) := by decide +kernel
theorem f179_2 : fr 179 2 = some (.aload 0, 1, [0], []) := by decide +kernel
theorem f179_3 : fr 179 3 = some (.getfield 11012, 3, [], []) := by decide +kernel
theorem f179_6 : fr 179 6 = some (.iconst 1, 1, [], []) := by decide +kernel
theorem f179_7 : fr 179 7 = some (.isub, 1, [], []) := by decide +kernel
theorem f179_8 : fr 179 8 = some (.invokestatic 148, 3, [], []) := by decide +kernel
theorem f179_11 : fr 179 11 = some (.ireturn, 1, [], []) := by decide +kernel
theorem t179_0 {X : XX} {d : Nat} {sz sl : Nat} {sh : Nat → Nat × Nat} {R : Nat → Nat → Option Nat} {I : Nat → Nat → Int32} {J : Nat → Nat → Int64} (hS : SF sh R) {l1 : Int32} : exe X d 179 0 [Value.ref 37, Value.int l1] [] (sz, sl, sh, R, I, J) =
    ((ev X d 148 [Value.int l1, Value.int (0), Value.int ((I 37 12) - (1))] (sz, sl, sh, R, I, J)).bind fun q => exe X d 179 11 [dm, dm] (q.1.toList ++ []) q.2) :=
  tq ((E_iload (x := l1) rfl f179_0)) (tq ((E_iconst (x := (0)) (by decide) f179_1)) (tq ((E_aload (v := Value.ref 37) rfl rfl f179_2)) (tq (tq ((G11012 f179_3)) (if_pos (zS37 hS))) (tq ((E_iconst (x := (1)) (by decide) f179_6)) (tq ((E_isub f179_7)) ((E_callS pn_148 rfl rfl (Nat.le_of_ble_eq_true rfl) (Nat.le_of_ble_eq_true rfl) f179_8)))))))
theorem t179_11 {X : XX} {d : Nat} {sz sl : Nat} {sh : Nat → Nat × Nat} {R : Nat → Nat → Option Nat} {I : Nat → Nat → Int32} {J : Nat → Nat → Int64} {s0 : Int32} : exe X d 179 11 [dm, dm] [Value.int s0] (sz, sl, sh, R, I, J) =
    (if s0 = 0 ∨ s0 = 1 then some (some (Value.int s0), (sz, sl, sh, R, I, J)) else none) :=
  (E_zret pr_179 f179_11)
theorem n179 {X : XX} {d : Nat} {h : HP} {a0 : Int32} : ev X (d + 1) 179 [Value.ref 37, Value.int a0] h = exe X d 179 0 [Value.ref 37, Value.int a0] [] h := ev_exe (Nat.le_of_ble_eq_true rfl)
theorem f180_0 : fr 180 0 = some (.aload 0, 1, [], []) := by decide +kernel
theorem f180_1 : fr 180 1 = some (.iload 1, 1, [], []) := by decide +kernel
theorem f180_2 : fr 180 2 = some (.iload 2, 1, [], []) := by decide +kernel
theorem f180_3 : fr 180 3 = some (.iload 3, 1, [], []) := by decide +kernel
theorem f180_4 : fr 180 4 = some (.iload 4, 2, [], []) := by decide +kernel
theorem f180_6 : fr 180 6 = some (.iload 5, 2, [], []) := by decide +kernel
theorem f180_8 : fr 180 8 = some (.iload 6, 2, [], []) := by decide +kernel
theorem f180_10 : fr 180 10 = some (.iload 7, 2, [], []) := by decide +kernel
theorem f180_12 : fr 180 12 = some (.aload 0, 1, [], []) := by decide +kernel
theorem f180_13 : fr 180 13 = some (.iload 2, 1, [], []) := by decide +kernel
theorem f180_14 : fr 180 14 = some (.invokevirtual 151, 3, [], []) := by decide +kernel
theorem f180_17 : fr 180 17 = some (.invokevirtual 181, 3, [], []) := by decide +kernel
theorem f180_20 : fr 180 20 = some (.istore 8, 2, [], []) := by decide +kernel
theorem f180_22 : fr 180 22 = some (.iload 7, 2, [], []) := by decide +kernel
theorem f180_24 : fr 180 24 = some (.ifCond .ne 32, 3, [0, 1, 2, 3, 4, 5, 6, 7], []) := by decide +kernel
theorem f180_27 : fr 180 27 = some (.iload 8, 2, [8], []) := by decide +kernel
theorem f180_29 : fr 180 29 = some (.goto 58, 3, [], []) := by decide +kernel
theorem f180_32 : fr 180 32 = some (.iload 8, 2, [8], []) := by decide +kernel
theorem f180_34 : fr 180 34 = some (.aload 0, 1, [], []) := by decide +kernel
theorem f180_35 : fr 180 35 = some (.iload 1, 1, [1], []) := by decide +kernel
theorem f180_36 : fr 180 36 = some (.iload 2, 1, [], []) := by decide +kernel
theorem f180_37 : fr 180 37 = some (.iload 3, 1, [3], []) := by decide +kernel
theorem f180_38 : fr 180 38 = some (.iconst 7, 2, [], []) := by decide +kernel
theorem f180_40 : fr 180 40 = some (.iload 4, 2, [4], []) := by decide +kernel
theorem f180_42 : fr 180 42 = some (.isub, 1, [], []) := by decide +kernel
theorem f180_43 : fr 180 43 = some (.iload 5, 2, [5], []) := by decide +kernel
theorem f180_45 : fr 180 45 = some (.iload 6, 2, [6], []) := by decide +kernel
theorem f180_47 : fr 180 47 = some (.iload 7, 2, [7], []) := by decide +kernel
theorem f180_49 : fr 180 49 = some (.aload 0, 1, [0], []) := by decide +kernel
theorem f180_50 : fr 180 50 = some (.iload 2, 1, [2], []) := by decide +kernel
theorem f180_51 : fr 180 51 = some (.invokevirtual 151, 3, [], []) := by decide +kernel
theorem f180_54 : fr 180 54 = some (.invokevirtual 181, 3, [], []) := by decide +kernel
theorem f180_57 : fr 180 57 = some (.iadd, 1, [], []) := by decide +kernel
theorem f180_58 : fr 180 58 = some (.ireturn, 1, [], []) := by decide +kernel
theorem t180_0 {X : XX} {d : Nat} {sz sl : Nat} {sh : Nat → Nat × Nat} {R : Nat → Nat → Option Nat} {I : Nat → Nat → Int32} {J : Nat → Nat → Int64} (hS : SF sh R) {l1 : Int32} {l2 : Int32} {l3 : Int32} {l4 : Int32} {l5 : Int32} {l6 : Int32} {l7 : Int32} : exe X d 180 0 [Value.ref 37, Value.int l1, Value.int l2, Value.int l3, Value.int l4, Value.int l5, Value.int l6, Value.int l7, dm] [] (sz, sl, sh, R, I, J) =
    ((ev X d 151 [Value.ref 37, Value.int l2] (sz, sl, sh, R, I, J)).bind fun q => exe X d 180 17 [Value.ref 37, Value.int l1, Value.int l2, Value.int l3, Value.int l4, Value.int l5, Value.int l6, Value.int l7, dm] (q.1.toList ++ [Value.int l7, Value.int l6, Value.int l5, Value.int l4, Value.int l3, Value.int l2, Value.int l1, Value.ref 37]) q.2) :=
  tq ((E_aload (v := Value.ref 37) rfl rfl f180_0)) (tq ((E_iload (x := l1) rfl f180_1)) (tq ((E_iload (x := l2) rfl f180_2)) (tq ((E_iload (x := l3) rfl f180_3)) (tq ((E_iload (x := l4) rfl f180_4)) (tq ((E_iload (x := l5) rfl f180_6)) (tq ((E_iload (x := l6) rfl f180_8)) (tq ((E_iload (x := l7) rfl f180_10)) (tq ((E_aload (v := Value.ref 37) rfl rfl f180_12)) (tq ((E_iload (x := l2) rfl f180_13)) ((tq ((E_callV pn_151 pc_151 rfl rfl (Nat.le_of_ble_eq_true rfl) f180_14)) (if_pos (zS37 hS)))))))))))))
theorem t180_17 {X : XX} {d : Nat} {sz sl : Nat} {sh : Nat → Nat × Nat} {R : Nat → Nat → Option Nat} {I : Nat → Nat → Int32} {J : Nat → Nat → Int64} {l1 : Int32} {l2 : Int32} {l3 : Int32} {l4 : Int32} {l5 : Int32} {l6 : Int32} {l7 : Int32} {s0 : Int32} {s1 : Int32} {s2 : Int32} {s3 : Int32} {s4 : Int32} {s5 : Int32} {s6 : Int32} {s7 : Int32} {s8 : Value} (k8 : isB s8 = true) : exe X d 180 17 [Value.ref 37, Value.int l1, Value.int l2, Value.int l3, Value.int l4, Value.int l5, Value.int l6, Value.int l7, dm] [Value.int s0, Value.int s1, Value.int s2, Value.int s3, Value.int s4, Value.int s5, Value.int s6, Value.int s7, s8] (sz, sl, sh, R, I, J) =
    (rf (s8) fun p1 => if sh p1 = (18, 0) then ((ev X d 181 [Value.ref p1, Value.int s7, Value.int s6, Value.int s5, Value.int s4, Value.int s3, Value.int s2, Value.int s1, Value.int s0] (sz, sl, sh, R, I, J)).bind fun q => exe X d 180 20 [Value.ref 37, Value.int l1, Value.int l2, Value.int l3, Value.int l4, Value.int l5, Value.int l6, Value.int l7, dm] (q.1.toList ++ []) q.2) else none) :=
  (E_callV pn_181 pc_181 rfl rfl (Nat.le_of_ble_eq_true rfl) f180_17)
theorem t180_20 {X : XX} {d : Nat} {sz sl : Nat} {sh : Nat → Nat × Nat} {R : Nat → Nat → Option Nat} {I : Nat → Nat → Int32} {J : Nat → Nat → Int64} (hS : SF sh R) {l1 : Int32} {l2 : Int32} {l3 : Int32} {l4 : Int32} {l5 : Int32} {l6 : Int32} {l7 : Int32} {s0 : Int32} : exe X d 180 20 [Value.ref 37, Value.int l1, Value.int l2, Value.int l3, Value.int l4, Value.int l5, Value.int l6, Value.int l7, dm] [Value.int s0] (sz, sl, sh, R, I, J) =
    (if ¬ l7 = 0 then ((ev X d 151 [Value.ref 37, Value.int l2] (sz, sl, sh, R, I, J)).bind fun q => exe X d 180 54 [dm, dm, dm, dm, dm, dm, dm, dm, dm] (q.1.toList ++ [Value.int l7, Value.int l6, Value.int l5, Value.int ((7) - l4), Value.int l3, Value.int l2, Value.int l1, Value.ref 37, Value.int s0]) q.2) else some (some (Value.int s0), (sz, sl, sh, R, I, J))) :=
  tq ((E_istore rfl f180_20)) (tq ((E_iload (x := l7) rfl f180_22)) (tq ((E_if_ne f180_24)) (ite_c (tq ((E_iload (x := s0) rfl f180_32)) (tq ((E_aload (v := Value.ref 37) rfl rfl f180_34)) (tq ((E_iload (x := l1) rfl f180_35)) (tq ((E_iload (x := l2) rfl f180_36)) (tq ((E_iload (x := l3) rfl f180_37)) (tq ((E_iconst (x := (7)) (by decide) f180_38)) (tq ((E_iload (x := l4) rfl f180_40)) (tq ((E_isub f180_42)) (tq ((E_iload (x := l5) rfl f180_43)) (tq ((E_iload (x := l6) rfl f180_45)) (tq ((E_iload (x := l7) rfl f180_47)) (tq ((E_aload (v := Value.ref 37) rfl rfl f180_49)) (tq ((E_iload (x := l2) rfl f180_50)) ((tq ((E_callV pn_151 pc_151 rfl rfl (Nat.le_of_ble_eq_true rfl) f180_51)) (if_pos (zS37 hS))))))))))))))))) (tq ((E_iload (x := s0) rfl f180_27)) (tq ((E_goto f180_29)) ((E_iret pr_180 f180_58)))))))
theorem t180_54 {X : XX} {d : Nat} {sz sl : Nat} {sh : Nat → Nat × Nat} {R : Nat → Nat → Option Nat} {I : Nat → Nat → Int32} {J : Nat → Nat → Int64} {s0 : Int32} {s1 : Int32} {s2 : Int32} {s3 : Int32} {s4 : Int32} {s5 : Int32} {s6 : Int32} {s7 : Int32} {s8 : Value} (k8 : isB s8 = true) {s9 : Int32} : exe X d 180 54 [dm, dm, dm, dm, dm, dm, dm, dm, dm] [Value.int s0, Value.int s1, Value.int s2, Value.int s3, Value.int s4, Value.int s5, Value.int s6, Value.int s7, s8, Value.int s9] (sz, sl, sh, R, I, J) =
    (rf (s8) fun p1 => if sh p1 = (18, 0) then ((ev X d 181 [Value.ref p1, Value.int s7, Value.int s6, Value.int s5, Value.int s4, Value.int s3, Value.int s2, Value.int s1, Value.int s0] (sz, sl, sh, R, I, J)).bind fun q => exe X d 180 57 [dm, dm, dm, dm, dm, dm, dm, dm, dm] (q.1.toList ++ [Value.int s9]) q.2) else none) :=
  (E_callV pn_181 pc_181 rfl rfl (Nat.le_of_ble_eq_true rfl) f180_54)
theorem t180_57 {X : XX} {d : Nat} {sz sl : Nat} {sh : Nat → Nat × Nat} {R : Nat → Nat → Option Nat} {I : Nat → Nat → Int32} {J : Nat → Nat → Int64} {s0 : Int32} {s1 : Int32} : exe X d 180 57 [dm, dm, dm, dm, dm, dm, dm, dm, dm] [Value.int s0, Value.int s1] (sz, sl, sh, R, I, J) =
    some (some (Value.int (s1 + s0)), (sz, sl, sh, R, I, J)) :=
  tq ((E_iadd f180_57)) ((E_iret pr_180 f180_58))
theorem n180 {X : XX} {d : Nat} {h : HP} {a0 : Int32} {a1 : Int32} {a2 : Int32} {a3 : Int32} {a4 : Int32} {a5 : Int32} {a6 : Int32} : ev X (d + 1) 180 [Value.ref 37, Value.int a0, Value.int a1, Value.int a2, Value.int a3, Value.int a4, Value.int a5, Value.int a6] h = exe X d 180 0 [Value.ref 37, Value.int a0, Value.int a1, Value.int a2, Value.int a3, Value.int a4, Value.int a5, Value.int a6, dm] [] h := ev_exe (Nat.le_of_ble_eq_true rfl)
theorem f181_0 : fr 181 0 = some (.iload 3, 1, [], []) := by decide +kernel
theorem f181_1 : fr 181 1 = some (.iload 4, 2, [], []) := by decide +kernel
theorem f181_3 : fr 181 3 = some (.if_icmp .ge 13, 3, [], []) := by decide +kernel
theorem f181_6 : fr 181 6 = some (.iload 4, 2, [4], []) := by decide +kernel
theorem f181_8 : fr 181 8 = some (.iload 3, 1, [3], []) := by decide +kernel
theorem f181_9 : fr 181 9 = some (.isub, 1, [], []) := by decide +kernel
theorem f181_10 : fr 181 10 = some (.goto 17, 3, [], []) := by decide +kernel
theorem f181_13 : fr 181 13 = some (.iload 3, 1, [3], []) := by decide +kernel
theorem f181_14 : fr 181 14 = some (.iload 4, 2, [4], []) := by decide +kernel
theorem f181_16 : fr 181 16 = some (.isub, 1, [], []) := by decide +kernel
theorem f181_17 : fr 181 17 = some (.istore 9, 2, [], []) := by decide +kernel
theorem f181_19 : fr 181 19 = some (.aload 0, 1, [0], []) := by decide +kernel
theorem f181_20 : fr 181 20 = some (.iload 1, 1, [1], []) := by decide +kernel
theorem f181_21 : fr 181 21 = some (.iload 2, 1, [2], []) := by decide +kernel
theorem f181_22 : fr 181 22 = some (.iload 8, 2, [8], []) := by decide +kernel
theorem f181_24 : fr 181 24 = some (.iload 9, 2, [9], []) := by decide +kernel
theorem f181_26 : fr 181 26 = some (.iload 5, 2, [5], []) := by decide +kernel
theorem f181_28 : fr 181 28 = some (.iload 6, 2, [6], []) := by decide +kernel
theorem f181_30 : fr 181 30 = some (.iload 7, 2, [7], []) := by decide +kernel
theorem f181_32 : fr 181 32 = some (.invokevirtual 182, 3, [], []) := by decide +kernel
theorem f181_35 : fr 181 35 = some (.istore 10, 2, [], []) := by decide +kernel
theorem f181_37 : fr 181 37 = some (.iload 10, 2, [], []) := by decide +kernel
theorem f181_39 : fr 181 39 = some (.ifCond .ge 46, 3, [10], []) := by decide +kernel
theorem f181_42 : fr 181 42 = some (.iconst 0, 1, [], []) := by decide +kernel
theorem f181_43 : fr 181 43 = some (.goto 62, 3, [], []) := by decide +kernel
theorem f181_46 : fr 181 46 = some (.iload 10, 2, [], []) := by decide +kernel
theorem f181_48 : fr 181 48 = some (.iconst 9999, 3, [], []) := by decide +kernel
theorem f181_51 : fr 181 51 = some (.if_icmp .le 60, 3, [10], []) := by decide +kernel
theorem f181_54 : fr 181 54 = some (.iconst 9999, 3, [], []) := by decide +kernel
theorem f181_57 : fr 181 57 = some (.goto 62, 3, [], []) := by decide +kernel
theorem f181_60 : fr 181 60 = some (.iload 10, 2, [10], []) := by decide +kernel
theorem f181_62 : fr 181 62 = some (.ireturn, 1, [], []) := by decide +kernel
theorem t181_0 {X : XX} {d : Nat} {sz sl : Nat} {sh : Nat → Nat × Nat} {R : Nat → Nat → Option Nat} {I : Nat → Nat → Int32} {J : Nat → Nat → Int64} {l1 : Int32} {l2 : Int32} {l3 : Int32} {l4 : Int32} {l5 : Int32} {l6 : Int32} {l7 : Int32} {l8 : Int32} : exe X d 181 0 [Value.ref 37, Value.int l1, Value.int l2, Value.int l3, Value.int l4, Value.int l5, Value.int l6, Value.int l7, Value.int l8, dm, dm] [] (sz, sl, sh, R, I, J) =
    (if l4 ≤ l3 then exe X d 181 17 [Value.ref 37, Value.int l1, Value.int l2, dm, dm, Value.int l5, Value.int l6, Value.int l7, Value.int l8, dm, dm] [Value.int (l3 - l4)] (sz, sl, sh, R, I, J) else exe X d 181 17 [Value.ref 37, Value.int l1, Value.int l2, dm, dm, Value.int l5, Value.int l6, Value.int l7, Value.int l8, dm, dm] [Value.int (l4 - l3)] (sz, sl, sh, R, I, J)) :=
  tq ((E_iload (x := l3) rfl f181_0)) (tq ((E_iload (x := l4) rfl f181_1)) (tq ((E_ic_ge f181_3)) (ite_c (tq ((E_iload (x := l3) rfl f181_13)) (tq ((E_iload (x := l4) rfl f181_14)) ((E_isub f181_16)))) (tq ((E_iload (x := l4) rfl f181_6)) (tq ((E_iload (x := l3) rfl f181_8)) (tq ((E_isub f181_9)) ((E_goto f181_10))))))))
theorem t181_17 {X : XX} {d : Nat} {sz sl : Nat} {sh : Nat → Nat × Nat} {R : Nat → Nat → Option Nat} {I : Nat → Nat → Int32} {J : Nat → Nat → Int64} (hS : SF sh R) {l1 : Int32} {l2 : Int32} {l5 : Int32} {l6 : Int32} {l7 : Int32} {l8 : Int32} {s0 : Int32} : exe X d 181 17 [Value.ref 37, Value.int l1, Value.int l2, dm, dm, Value.int l5, Value.int l6, Value.int l7, Value.int l8, dm, dm] [Value.int s0] (sz, sl, sh, R, I, J) =
    ((ev X d 182 [Value.ref 37, Value.int l1, Value.int l2, Value.int l8, Value.int s0, Value.int l5, Value.int l6, Value.int l7] (sz, sl, sh, R, I, J)).bind fun q => exe X d 181 35 [dm, dm, dm, dm, dm, dm, dm, dm, dm, dm, dm] (q.1.toList ++ []) q.2) :=
  tq ((E_istore rfl f181_17)) (tq ((E_aload (v := Value.ref 37) rfl rfl f181_19)) (tq ((E_iload (x := l1) rfl f181_20)) (tq ((E_iload (x := l2) rfl f181_21)) (tq ((E_iload (x := l8) rfl f181_22)) (tq ((E_iload (x := s0) rfl f181_24)) (tq ((E_iload (x := l5) rfl f181_26)) (tq ((E_iload (x := l6) rfl f181_28)) (tq ((E_iload (x := l7) rfl f181_30)) ((tq ((E_callV pn_182 pc_182 rfl rfl (Nat.le_of_ble_eq_true rfl) f181_32)) (if_pos (zS37 hS))))))))))))
theorem t181_35 {X : XX} {d : Nat} {sz sl : Nat} {sh : Nat → Nat × Nat} {R : Nat → Nat → Option Nat} {I : Nat → Nat → Int32} {J : Nat → Nat → Int64} {s0 : Int32} : exe X d 181 35 [dm, dm, dm, dm, dm, dm, dm, dm, dm, dm, dm] [Value.int s0] (sz, sl, sh, R, I, J) =
    (if 0 ≤ s0 then (if s0 ≤ (9999) then some (some (Value.int s0), (sz, sl, sh, R, I, J)) else some (some (Value.int (9999)), (sz, sl, sh, R, I, J))) else some (some (Value.int (0)), (sz, sl, sh, R, I, J))) :=
  tq ((E_istore rfl f181_35)) (tq ((E_iload (x := s0) rfl f181_37)) (tq ((E_if_ge f181_39)) (ite_c (tq ((E_iload (x := s0) rfl f181_46)) (tq ((E_iconst (x := (9999)) (by decide) f181_48)) (tq ((E_ic_le f181_51)) (ite_c (tq ((E_iload (x := s0) rfl f181_60)) ((E_iret pr_181 f181_62))) (tq ((E_iconst (x := (9999)) (by decide) f181_54)) (tq ((E_goto f181_57)) ((E_iret pr_181 f181_62)))))))) (tq ((E_iconst (x := (0)) (by decide) f181_42)) (tq ((E_goto f181_43)) ((E_iret pr_181 f181_62)))))))
theorem n181 {X : XX} {d : Nat} {h : HP} {a0 : Int32} {a1 : Int32} {a2 : Int32} {a3 : Int32} {a4 : Int32} {a5 : Int32} {a6 : Int32} {a7 : Int32} : ev X (d + 1) 181 [Value.ref 37, Value.int a0, Value.int a1, Value.int a2, Value.int a3, Value.int a4, Value.int a5, Value.int a6, Value.int a7] h = exe X d 181 0 [Value.ref 37, Value.int a0, Value.int a1, Value.int a2, Value.int a3, Value.int a4, Value.int a5, Value.int a6, Value.int a7, dm, dm] [] h := ev_exe (Nat.le_of_ble_eq_true rfl)
theorem f182_0 : fr 182 0 = some (.aload 0, 1, [], []) := by decide +kernel
theorem f182_1 : fr 182 1 = some (.getfield 11040, 3, [], []) := by decide +kernel
theorem f182_4 : fr 182 4 = some (.iconst 0, 1, [], []) := by decide +kernel
theorem f182_5 : fr 182 5 = some (.aload 0, 1, [], []) := by decide +kernel
theorem f182_6 : fr 182 6 = some (.getfield 11001, 3, [], []) := by decide +kernel
theorem f182_9 : fr 182 9 = some (.iload 2, 1, [], []) := by decide +kernel
theorem f182_10 : fr 182 10 = some (.iaload, 1, [], []) := by decide +kernel
theorem f182_11 : fr 182 11 = some (.iastore, 1, [], []) := by decide +kernel
theorem f182_12 : fr 182 12 = some (.aload 0, 1, [], []) := by decide +kernel
theorem f182_13 : fr 182 13 = some (.getfield 11040, 3, [], []) := by decide +kernel
theorem f182_16 : fr 182 16 = some (.iconst 1, 1, [], []) := by decide +kernel
theorem f182_17 : fr 182 17 = some (.aload 0, 1, [], []) := by decide +kernel
theorem f182_18 : fr 182 18 = some (.getfield 11002, 3, [], []) := by decide +kernel
theorem f182_21 : fr 182 21 = some (.iload 2, 1, [2], []) := by decide +kernel
theorem f182_22 : fr 182 22 = some (.iaload, 1, [], []) := by decide +kernel
theorem f182_23 : fr 182 23 = some (.iastore, 1, [], []) := by decide +kernel
theorem f182_24 : fr 182 24 = some (.aload 0, 1, [], []) := by decide +kernel
theorem f182_25 : fr 182 25 = some (.getfield 11040, 3, [], []) := by decide +kernel
theorem f182_28 : fr 182 28 = some (.iconst 2, 1, [], []) := by decide +kernel
theorem f182_29 : fr 182 29 = some (.iload 3, 1, [3], []) := by decide +kernel
theorem f182_30 : fr 182 30 = some (.iastore, 1, [], []) := by decide +kernel
theorem f182_31 : fr 182 31 = some (.aload 0, 1, [], []) := by decide +kernel
theorem f182_32 : fr 182 32 = some (.getfield 11040, 3, [], []) := by decide +kernel
theorem f182_35 : fr 182 35 = some (.iconst 3, 1, [], []) := by decide +kernel
theorem f182_36 : fr 182 36 = some (.iload 4, 2, [4], []) := by decide +kernel
theorem f182_38 : fr 182 38 = some (.iastore, 1, [], []) := by decide +kernel
theorem f182_39 : fr 182 39 = some (.aload 0, 1, [], []) := by decide +kernel
theorem f182_40 : fr 182 40 = some (.getfield 11040, 3, [], []) := by decide +kernel
theorem f182_43 : fr 182 43 = some (.iconst 4, 1, [], []) := by decide +kernel
theorem f182_44 : fr 182 44 = some (.iload 5, 2, [5], []) := by decide +kernel
theorem f182_46 : fr 182 46 = some (.iastore, 1, [], []) := by decide +kernel
theorem f182_47 : fr 182 47 = some (.aload 0, 1, [], []) := by decide +kernel
theorem f182_48 : fr 182 48 = some (.getfield 11040, 3, [], []) := by decide +kernel
theorem f182_51 : fr 182 51 = some (.iconst 5, 1, [], []) := by decide +kernel
theorem f182_52 : fr 182 52 = some (.iload 6, 2, [6], []) := by decide +kernel
theorem f182_54 : fr 182 54 = some (.iastore, 1, [], []) := by decide +kernel
theorem f182_55 : fr 182 55 = some (.aload 0, 1, [], []) := by decide +kernel
theorem f182_56 : fr 182 56 = some (.getfield 11040, 3, [], []) := by decide +kernel
theorem f182_59 : fr 182 59 = some (.iconst 6, 2, [], []) := by decide +kernel
theorem f182_61 : fr 182 61 = some (.iload 7, 2, [7], []) := by decide +kernel
theorem f182_63 : fr 182 63 = some (.iastore, 1, [], []) := by decide +kernel
theorem f182_64 : fr 182 64 = some (.iconst 0, 1, [], []) := by decide +kernel
theorem f182_65 : fr 182 65 = some (.istore 8, 2, [], []) := by decide +kernel
theorem f182_67 : fr 182 67 = some (.iconst 0, 1, [], []) := by decide +kernel
theorem f182_68 : fr 182 68 = some (.istore 9, 2, [], []) := by decide +kernel
theorem f182_70 : fr 182 70 = some (.iconst 0, 1, [], []) := by decide +kernel
theorem f182_71 : fr 182 71 = some (.istore 10, 2, [], []) := by decide +kernel
theorem f182_73 : fr 182 73 = some (.iload 10, 2, [], []) := by decide +kernel
theorem f182_75 : fr 182 75 = some (.aload 0, 1, [], []) := by decide +kernel
theorem f182_76 : fr 182 76 = some (.getfield 11011, 3, [], []) := by decide +kernel
theorem f182_79 : fr 182 79 = some (.iload 1, 1, [], []) := by decide +kernel
theorem f182_80 : fr 182 80 = some (.iaload, 1, [], []) := by decide +kernel
theorem f182_81 : fr 182 81 = some (.if_icmp .ge 321, 3, [], [0, 1, 8, 9, 10]) := by decide +kernel
theorem f182_84 : fr 182 84 = some (.aload 0, 1, [], []) := by decide +kernel
theorem f182_85 : fr 182 85 = some (.getfield 11010, 3, [], []) := by decide +kernel
theorem f182_88 : fr 182 88 = some (.iconst 200, 3, [], []) := by decide +kernel
theorem f182_91 : fr 182 91 = some (.iload 1, 1, [], []) := by decide +kernel
theorem f182_92 : fr 182 92 = some (.imul, 1, [], []) := by decide +kernel
theorem f182_93 : fr 182 93 = some (.iload 10, 2, [], []) := by decide +kernel
theorem f182_95 : fr 182 95 = some (.iadd, 1, [], []) := by decide +kernel
theorem f182_96 : fr 182 96 = some (.iaload, 1, [], []) := by decide +kernel
theorem f182_97 : fr 182 97 = some (.istore 11, 2, [], []) := by decide +kernel
theorem f182_99 : fr 182 99 = some (.iload 11, 2, [], []) := by decide +kernel
theorem f182_101 : fr 182 101 = some (.iconst 100000, 2, [], []) := by decide +kernel
theorem f182_103 : fr 182 103 = some (.if_icmp .ge 113, 3, [], []) := by decide +kernel
theorem f182_106 : fr 182 106 = some (.iload 11, 2, [], []) := by decide +kernel
theorem f182_108 : fr 182 108 = some (.iconst 8, 2, [], []) := by decide +kernel
theorem f182_110 : fr 182 110 = some (.if_icmp .ge 148, 3, [], []) := by decide +kernel
theorem f182_113 : fr 182 113 = some (.aload 0, 1, [], []) := by decide +kernel
theorem f182_114 : fr 182 114 = some (.getfield 11041, 3, [], []) := by decide +kernel
theorem f182_117 : fr 182 117 = some (.iload 8, 2, [], []) := by decide +kernel
theorem f182_119 : fr 182 119 = some (.iload 11, 2, [], []) := by decide +kernel
theorem f182_121 : fr 182 121 = some (.iconst 8, 2, [], []) := by decide +kernel
theorem f182_123 : fr 182 123 = some (.if_icmp .ge 136, 3, [], []) := by decide +kernel
theorem f182_126 : fr 182 126 = some (.aload 0, 1, [], []) := by decide +kernel
theorem f182_127 : fr 182 127 = some (.getfield 11040, 3, [], []) := by decide +kernel
theorem f182_130 : fr 182 130 = some (.iload 11, 2, [11], []) := by decide +kernel
theorem f182_132 : fr 182 132 = some (.iaload, 1, [], []) := by decide +kernel
theorem f182_133 : fr 182 133 = some (.goto 141, 3, [], []) := by decide +kernel
theorem f182_136 : fr 182 136 = some (.iload 11, 2, [11], []) := by decide +kernel
theorem f182_138 : fr 182 138 = some (.iconst 100000, 2, [], []) := by decide +kernel
theorem f182_140 : fr 182 140 = some (.isub, 1, [], []) := by decide +kernel
theorem f182_141 : fr 182 141 = some (.iastore, 1, [], []) := by decide +kernel
theorem f182_142 : fr 182 142 = some (.iinc 8 1, 3, [], []) := by decide +kernel
theorem f182_145 : fr 182 145 = some (.goto 315, 3, [], []) := by decide +kernel
theorem f182_148 : fr 182 148 = some (.iload 11, 2, [], []) := by decide +kernel
theorem f182_150 : fr 182 150 = some (.iconst 13, 2, [], []) := by decide +kernel
theorem f182_152 : fr 182 152 = some (.if_icmp .ne 187, 3, [11], []) := by decide +kernel
theorem f182_155 : fr 182 155 = some (.aload 0, 1, [], []) := by decide +kernel
theorem f182_156 : fr 182 156 = some (.getfield 11041, 3, [], []) := by decide +kernel
theorem f182_159 : fr 182 159 = some (.iload 8, 2, [], []) := by decide +kernel
theorem f182_161 : fr 182 161 = some (.iconst 1, 1, [], []) := by decide +kernel
theorem f182_162 : fr 182 162 = some (.isub, 1, [], []) := by decide +kernel
theorem f182_163 : fr 182 163 = some (.aload 0, 1, [], []) := by decide +kernel
theorem f182_164 : fr 182 164 = some (.getfield 11041, 3, [], []) := by decide +kernel
theorem f182_167 : fr 182 167 = some (.iload 8, 2, [], []) := by decide +kernel
theorem f182_169 : fr 182 169 = some (.iconst 1, 1, [], []) := by decide +kernel
theorem f182_170 : fr 182 170 = some (.isub, 1, [], []) := by decide +kernel
theorem f182_171 : fr 182 171 = some (.iaload, 1, [], []) := by decide +kernel
theorem f182_172 : fr 182 172 = some (.ifCond .ne 179, 3, [], []) := by decide +kernel
theorem f182_175 : fr 182 175 = some (.iconst 1, 1, [], []) := by decide +kernel
theorem f182_176 : fr 182 176 = some (.goto 180, 3, [], []) := by decide +kernel
theorem f182_179 : fr 182 179 = some (.iconst 0, 1, [], []) := by decide +kernel
theorem f182_180 : fr 182 180 = some (.invokestatic 183, 3, [], []) := by decide +kernel
theorem f182_183 : fr 182 183 = some (.iastore, 1, [], []) := by decide +kernel
theorem f182_184 : fr 182 184 = some (.goto 315, 3, [], []) := by decide +kernel
theorem f182_187 : fr 182 187 = some (.iload 11, 2, [], []) := by decide +kernel
theorem f182_189 : fr 182 189 = some (.iconst 19, 2, [], []) := by decide +kernel
theorem f182_191 : fr 182 191 = some (.if_icmp .ne 216, 3, [11], []) := by decide +kernel
theorem f182_194 : fr 182 194 = some (.aload 0, 1, [], []) := by decide +kernel
theorem f182_195 : fr 182 195 = some (.getfield 11041, 3, [], []) := by decide +kernel
theorem f182_198 : fr 182 198 = some (.iload 8, 2, [], []) := by decide +kernel
theorem f182_200 : fr 182 200 = some (.iconst 1, 1, [], []) := by decide +kernel
theorem f182_201 : fr 182 201 = some (.isub, 1, [], []) := by decide +kernel
theorem f182_202 : fr 182 202 = some (.aload 0, 1, [], []) := by decide +kernel
theorem f182_203 : fr 182 203 = some (.getfield 11041, 3, [], []) := by decide +kernel
theorem f182_206 : fr 182 206 = some (.iload 8, 2, [], []) := by decide +kernel
theorem f182_208 : fr 182 208 = some (.iconst 1, 1, [], []) := by decide +kernel
theorem f182_209 : fr 182 209 = some (.isub, 1, [], []) := by decide +kernel
theorem f182_210 : fr 182 210 = some (.iaload, 1, [], []) := by decide +kernel
theorem f182_211 : fr 182 211 = some (.ineg, 1, [], []) := by decide +kernel
theorem f182_212 : fr 182 212 = some (.iastore, 1, [], []) := by decide +kernel
theorem f182_213 : fr 182 213 = some (.goto 315, 3, [], []) := by decide +kernel
theorem f182_216 : fr 182 216 = some (.iload 11, 2, [], []) := by decide +kernel
theorem f182_218 : fr 182 218 = some (.iconst 41, 2, [], []) := by decide +kernel
theorem f182_220 : fr 182 220 = some (.if_icmp .ne 246, 3, [9, 11], []) := by decide +kernel
theorem f182_223 : fr 182 223 = some (.iinc 8 (-1), 3, [], []) := by decide +kernel
theorem f182_226 : fr 182 226 = some (.aload 0, 1, [], []) := by decide +kernel
theorem f182_227 : fr 182 227 = some (.getfield 11041, 3, [], []) := by decide +kernel
theorem f182_230 : fr 182 230 = some (.iload 8, 2, [], []) := by decide +kernel
theorem f182_232 : fr 182 232 = some (.iaload, 1, [], []) := by decide +kernel
theorem f182_233 : fr 182 233 = some (.ifCond .ne 240, 3, [], []) := by decide +kernel
theorem f182_236 : fr 182 236 = some (.iconst 1, 1, [], []) := by decide +kernel
theorem f182_237 : fr 182 237 = some (.goto 241, 3, [], []) := by decide +kernel
theorem f182_240 : fr 182 240 = some (.iconst 0, 1, [], []) := by decide +kernel
theorem f182_241 : fr 182 241 = some (.istore 9, 2, [], []) := by decide +kernel
theorem f182_243 : fr 182 243 = some (.goto 315, 3, [], []) := by decide +kernel
theorem f182_246 : fr 182 246 = some (.iload 11, 2, [], []) := by decide +kernel
theorem f182_248 : fr 182 248 = some (.iconst 40, 2, [], []) := by decide +kernel
theorem f182_250 : fr 182 250 = some (.if_icmp .eq 260, 3, [], [11]) := by decide +kernel
theorem f182_253 : fr 182 253 = some (.iload 11, 2, [], []) := by decide +kernel
theorem f182_255 : fr 182 255 = some (.iconst 42, 2, [], []) := by decide +kernel
theorem f182_257 : fr 182 257 = some (.if_icmp .ne 282, 3, [11], []) := by decide +kernel
theorem f182_260 : fr 182 260 = some (.iinc 8 (-1), 3, [], []) := by decide +kernel
theorem f182_263 : fr 182 263 = some (.iload 9, 2, [9], []) := by decide +kernel
theorem f182_265 : fr 182 265 = some (.ifCond .ne 276, 3, [1, 10], []) := by decide +kernel
theorem f182_268 : fr 182 268 = some (.aload 0, 1, [0], []) := by decide +kernel
theorem f182_269 : fr 182 269 = some (.getfield 11041, 3, [], []) := by decide +kernel
theorem f182_272 : fr 182 272 = some (.iload 8, 2, [8], []) := by decide +kernel
theorem f182_274 : fr 182 274 = some (.iaload, 1, [], []) := by decide +kernel
theorem f182_275 : fr 182 275 = some (.ireturn, 1, [], []) := by decide +kernel
theorem f182_276 : fr 182 276 = some (.iconst 0, 1, [], []) := by decide +kernel
theorem f182_277 : fr 182 277 = some (.istore 9, 2, [], []) := by decide +kernel
theorem f182_279 : fr 182 279 = some (.goto 315, 3, [], []) := by decide +kernel
theorem f182_282 : fr 182 282 = some (.iinc 8 (-1), 3, [], []) := by decide +kernel
theorem f182_285 : fr 182 285 = some (.aload 0, 1, [], []) := by decide +kernel
theorem f182_286 : fr 182 286 = some (.getfield 11041, 3, [], []) := by decide +kernel
theorem f182_289 : fr 182 289 = some (.iload 8, 2, [], []) := by decide +kernel
theorem f182_291 : fr 182 291 = some (.iconst 1, 1, [], []) := by decide +kernel
theorem f182_292 : fr 182 292 = some (.isub, 1, [], []) := by decide +kernel
theorem f182_293 : fr 182 293 = some (.iload 11, 2, [11], []) := by decide +kernel
theorem f182_295 : fr 182 295 = some (.aload 0, 1, [], []) := by decide +kernel
theorem f182_296 : fr 182 296 = some (.getfield 11041, 3, [], []) := by decide +kernel
theorem f182_299 : fr 182 299 = some (.iload 8, 2, [], []) := by decide +kernel
theorem f182_301 : fr 182 301 = some (.iconst 1, 1, [], []) := by decide +kernel
theorem f182_302 : fr 182 302 = some (.isub, 1, [], []) := by decide +kernel
theorem f182_303 : fr 182 303 = some (.iaload, 1, [], []) := by decide +kernel
theorem f182_304 : fr 182 304 = some (.aload 0, 1, [], []) := by decide +kernel
theorem f182_305 : fr 182 305 = some (.getfield 11041, 3, [], []) := by decide +kernel
theorem f182_308 : fr 182 308 = some (.iload 8, 2, [], []) := by decide +kernel
theorem f182_310 : fr 182 310 = some (.iaload, 1, [], []) := by decide +kernel
theorem f182_311 : fr 182 311 = some (.invokestatic 184, 3, [], []) := by decide +kernel
theorem f182_314 : fr 182 314 = some (.iastore, 1, [], []) := by decide +kernel
theorem f182_315 : fr 182 315 = some (.iinc 10 1, 3, [], []) := by decide +kernel
theorem f182_318 : fr 182 318 = some (.goto 73, 3, [], []) := by decide +kernel
theorem f182_321 : fr 182 321 = some (.iconst 0, 1, [], []) := by decide +kernel
theorem f182_322 : fr 182 322 = some (.ireturn, 1, [], []) := by decide +kernel
theorem t182_0 {X : XX} {d : Nat} {sz sl : Nat} {sh : Nat → Nat × Nat} {R : Nat → Nat → Option Nat} {I : Nat → Nat → Int32} {J : Nat → Nat → Int64} (hS : SF sh R) {l1 : Int32} {l2 : Int32} {l3 : Int32} {l4 : Int32} {l5 : Int32} {l6 : Int32} {l7 : Int32} : exe X d 182 0 [Value.ref 37, Value.int l1, Value.int l2, Value.int l3, Value.int l4, Value.int l5, Value.int l6, Value.int l7, dm, dm, dm, dm] [] (sz, sl, sh, R, I, J) =
    (if inb l2 40 then (if inb l2 40 then exe X d 182 73 [Value.ref 37, Value.int l1, dm, dm, dm, dm, dm, dm, Value.int (0), Value.int (0), Value.int (0), dm] [] (sz, sl, sh, R, (u2 (u2 (u2 (u2 (u2 (u2 (u2 I 65 0 (I 38 l2.toNatClampNeg)) 65 1 ((u2 I 65 0 (I 38 l2.toNatClampNeg)) 39 l2.toNatClampNeg)) 65 2 l3) 65 3 l4) 65 4 l5) 65 5 l6) 65 6 l7), J) else none) else none) :=
  tq ((E_aload (v := Value.ref 37) rfl rfl f182_0)) (tq (tq ((G11040 f182_1)) (if_pos (zS37 hS))) (tq (exe_R (zR37_40 hS)) (tq ((E_iconst (x := (0)) (by decide) f182_4)) (tq ((E_aload (v := Value.ref 37) rfl rfl f182_5)) (tq (tq ((G11001 f182_6)) (if_pos (zS37 hS))) (tq (exe_R (zR37_1 hS)) (tq ((E_iload (x := l2) rfl f182_9)) (tq (tq ((E_iald f182_10)) (ite_ar (zS38 hS))) (ite_c (tq (tq (tq ((E_iast f182_11)) (ite_ar (zS65 hS))) (if_pos (by decide))) (tq ((E_aload (v := Value.ref 37) rfl rfl f182_12)) (tq (tq ((G11040 f182_13)) (if_pos (zS37 hS))) (tq (exe_R (zR37_40 hS)) (tq ((E_iconst (x := (1)) (by decide) f182_16)) (tq ((E_aload (v := Value.ref 37) rfl rfl f182_17)) (tq (tq ((G11002 f182_18)) (if_pos (zS37 hS))) (tq (exe_R (zR37_2 hS)) (tq ((E_iload (x := l2) rfl f182_21)) (tq (tq ((E_iald f182_22)) (ite_ar (zS39 hS))) (ite_c (tq (tq (tq ((E_iast f182_23)) (ite_ar (zS65 hS))) (if_pos (by decide))) (tq ((E_aload (v := Value.ref 37) rfl rfl f182_24)) (tq (tq ((G11040 f182_25)) (if_pos (zS37 hS))) (tq (exe_R (zR37_40 hS)) (tq ((E_iconst (x := (2)) (by decide) f182_28)) (tq ((E_iload (x := l3) rfl f182_29)) (tq (tq (tq ((E_iast f182_30)) (ite_ar (zS65 hS))) (if_pos (by decide))) (tq ((E_aload (v := Value.ref 37) rfl rfl f182_31)) (tq (tq ((G11040 f182_32)) (if_pos (zS37 hS))) (tq (exe_R (zR37_40 hS)) (tq ((E_iconst (x := (3)) (by decide) f182_35)) (tq ((E_iload (x := l4) rfl f182_36)) (tq (tq (tq ((E_iast f182_38)) (ite_ar (zS65 hS))) (if_pos (by decide))) (tq ((E_aload (v := Value.ref 37) rfl rfl f182_39)) (tq (tq ((G11040 f182_40)) (if_pos (zS37 hS))) (tq (exe_R (zR37_40 hS)) (tq ((E_iconst (x := (4)) (by decide) f182_43)) (tq ((E_iload (x := l5) rfl f182_44)) (tq (tq (tq ((E_iast f182_46)) (ite_ar (zS65 hS))) (if_pos (by decide))) (tq ((E_aload (v := Value.ref 37) rfl rfl f182_47)) (tq (tq ((G11040 f182_48)) (if_pos (zS37 hS))) (tq (exe_R (zR37_40 hS)) (tq ((E_iconst (x := (5)) (by decide) f182_51)) (tq ((E_iload (x := l6) rfl f182_52)) (tq (tq (tq ((E_iast f182_54)) (ite_ar (zS65 hS))) (if_pos (by decide))) (tq ((E_aload (v := Value.ref 37) rfl rfl f182_55)) (tq (tq ((G11040 f182_56)) (if_pos (zS37 hS))) (tq (exe_R (zR37_40 hS)) (tq ((E_iconst (x := (6)) (by decide) f182_59)) (tq ((E_iload (x := l7) rfl f182_61)) (tq (tq (tq ((E_iast f182_63)) (ite_ar (zS65 hS))) (if_pos (by decide))) (tq ((E_iconst (x := (0)) (by decide) f182_64)) (tq ((E_istore rfl f182_65)) (tq ((E_iconst (x := (0)) (by decide) f182_67)) (tq ((E_istore rfl f182_68)) (tq ((E_iconst (x := (0)) (by decide) f182_70)) ((E_istore rfl f182_71)))))))))))))))))))))))))))))))))))))) rfl))))))))))) rfl)))))))))
theorem t182_73 {X : XX} {d : Nat} {sz sl : Nat} {sh : Nat → Nat × Nat} {R : Nat → Nat → Option Nat} {I : Nat → Nat → Int32} {J : Nat → Nat → Int64} (hS : SF sh R) {l1 : Int32} {l8 : Int32} {l9 : Int32} {l10 : Int32} : exe X d 182 73 [Value.ref 37, Value.int l1, dm, dm, dm, dm, dm, dm, Value.int l8, Value.int l9, Value.int l10, dm] [] (sz, sl, sh, R, I, J) =
    (if inb l1 4 then (if (I 47 l1.toNatClampNeg) ≤ l10 then some (some (Value.int (0)), (sz, sl, sh, R, I, J)) else (if inb (((200) * l1) + l10) 800 then (if (100000) ≤ (I 46 (((200) * l1) + l10).toNatClampNeg) then exe X d 182 113 [Value.ref 37, Value.int l1, dm, dm, dm, dm, dm, dm, Value.int l8, Value.int l9, Value.int l10, Value.int (I 46 (((200) * l1) + l10).toNatClampNeg)] [] (sz, sl, sh, R, I, J) else (if (8) ≤ (I 46 (((200) * l1) + l10).toNatClampNeg) then (if ¬ (I 46 (((200) * l1) + l10).toNatClampNeg) = (13) then (if ¬ (I 46 (((200) * l1) + l10).toNatClampNeg) = (19) then (if ¬ (I 46 (((200) * l1) + l10).toNatClampNeg) = (41) then (if (I 46 (((200) * l1) + l10).toNatClampNeg) = (40) then exe X d 182 260 [Value.ref 37, Value.int l1, dm, dm, dm, dm, dm, dm, Value.int l8, Value.int l9, Value.int l10, dm] [] (sz, sl, sh, R, I, J) else (if ¬ (I 46 (((200) * l1) + l10).toNatClampNeg) = (42) then (if inb ((l8 + (-1)) - (1)) 130 then (if inb (l8 + (-1)) 130 then ((ev X d 184 [Value.int (I 46 (((200) * l1) + l10).toNatClampNeg), Value.int (I 66 ((l8 + (-1)) - (1)).toNatClampNeg), Value.int (I 66 (l8 + (-1)).toNatClampNeg)] (sz, sl, sh, R, I, J)).bind fun q => exe X d 182 314 [Value.ref 37, Value.int l1, dm, dm, dm, dm, dm, dm, Value.int (l8 + (-1)), Value.int l9, Value.int l10, dm] (q.1.toList ++ [Value.int ((l8 + (-1)) - (1)), Value.ref 66]) q.2) else none) else none) else exe X d 182 260 [Value.ref 37, Value.int l1, dm, dm, dm, dm, dm, dm, Value.int l8, Value.int l9, Value.int l10, dm] [] (sz, sl, sh, R, I, J))) else (if inb (l8 + (-1)) 130 then (if ¬ (I 66 (l8 + (-1)).toNatClampNeg) = 0 then exe X d 182 73 [Value.ref 37, Value.int l1, dm, dm, dm, dm, dm, dm, Value.int (l8 + (-1)), Value.int (0), Value.int (l10 + (1)), dm] [] (sz, sl, sh, R, I, J) else exe X d 182 73 [Value.ref 37, Value.int l1, dm, dm, dm, dm, dm, dm, Value.int (l8 + (-1)), Value.int (1), Value.int (l10 + (1)), dm] [] (sz, sl, sh, R, I, J)) else none)) else (if inb (l8 - (1)) 130 then (if inb (l8 - (1)) 130 then exe X d 182 73 [Value.ref 37, Value.int l1, dm, dm, dm, dm, dm, dm, Value.int l8, Value.int l9, Value.int (l10 + (1)), dm] [] (sz, sl, sh, R, (u2 I 66 (l8 - (1)).toNatClampNeg (-(I 66 (l8 - (1)).toNatClampNeg))), J) else none) else none)) else (if inb (l8 - (1)) 130 then (if ¬ (I 66 (l8 - (1)).toNatClampNeg) = 0 then ((ev X d 183 [Value.int (0)] (sz, sl, sh, R, I, J)).bind fun q => exe X d 182 183 [Value.ref 37, Value.int l1, dm, dm, dm, dm, dm, dm, Value.int l8, Value.int l9, Value.int l10, dm] (q.1.toList ++ [Value.int (l8 - (1)), Value.ref 66]) q.2) else ((ev X d 183 [Value.int (1)] (sz, sl, sh, R, I, J)).bind fun q => exe X d 182 183 [Value.ref 37, Value.int l1, dm, dm, dm, dm, dm, dm, Value.int l8, Value.int l9, Value.int l10, dm] (q.1.toList ++ [Value.int (l8 - (1)), Value.ref 66]) q.2)) else none)) else exe X d 182 113 [Value.ref 37, Value.int l1, dm, dm, dm, dm, dm, dm, Value.int l8, Value.int l9, Value.int l10, Value.int (I 46 (((200) * l1) + l10).toNatClampNeg)] [] (sz, sl, sh, R, I, J))) else none)) else none) :=
  tq ((E_iload (x := l10) rfl f182_73)) (tq ((E_aload (v := Value.ref 37) rfl rfl f182_75)) (tq (tq ((G11011 f182_76)) (if_pos (zS37 hS))) (tq (exe_R (zR37_11 hS)) (tq ((E_iload (x := l1) rfl f182_79)) (tq (tq ((E_iald f182_80)) (ite_ar (zS47 hS))) (ite_c (tq ((E_ic_ge f182_81)) (ite_c (tq ((E_iconst (x := (0)) (by decide) f182_321)) ((E_iret pr_182 f182_322))) (tq ((E_aload (v := Value.ref 37) rfl rfl f182_84)) (tq (tq ((G11010 f182_85)) (if_pos (zS37 hS))) (tq (exe_R (zR37_10 hS)) (tq ((E_iconst (x := (200)) (by decide) f182_88)) (tq ((E_iload (x := l1) rfl f182_91)) (tq ((E_imul f182_92)) (tq ((E_iload (x := l10) rfl f182_93)) (tq ((E_iadd f182_95)) (tq (tq ((E_iald f182_96)) (ite_ar (zS46 hS))) (ite_c (tq ((E_istore rfl f182_97)) (tq ((E_iload (x := (I 46 (((200) * l1) + l10).toNatClampNeg)) rfl f182_99)) (tq ((E_iconst (x := (100000)) (by decide) f182_101)) (tq ((E_ic_ge f182_103)) (ite_c (rfl) (tq ((E_iload (x := (I 46 (((200) * l1) + l10).toNatClampNeg)) rfl f182_106)) (tq ((E_iconst (x := (8)) (by decide) f182_108)) (tq ((E_ic_ge f182_110)) (ite_c (tq ((E_iload (x := (I 46 (((200) * l1) + l10).toNatClampNeg)) rfl f182_148)) (tq ((E_iconst (x := (13)) (by decide) f182_150)) (tq ((E_ic_ne f182_152)) (ite_c (tq ((E_iload (x := (I 46 (((200) * l1) + l10).toNatClampNeg)) rfl f182_187)) (tq ((E_iconst (x := (19)) (by decide) f182_189)) (tq ((E_ic_ne f182_191)) (ite_c (tq ((E_iload (x := (I 46 (((200) * l1) + l10).toNatClampNeg)) rfl f182_216)) (tq ((E_iconst (x := (41)) (by decide) f182_218)) (tq ((E_ic_ne f182_220)) (ite_c (tq ((E_iload (x := (I 46 (((200) * l1) + l10).toNatClampNeg)) rfl f182_246)) (tq ((E_iconst (x := (40)) (by decide) f182_248)) (tq ((E_ic_eq f182_250)) (ite_c (rfl) (tq ((E_iload (x := (I 46 (((200) * l1) + l10).toNatClampNeg)) rfl f182_253)) (tq ((E_iconst (x := (42)) (by decide) f182_255)) (tq ((E_ic_ne f182_257)) (ite_c (tq ((E_iinc (x := l8) (x' := (-1)) rfl rfl (by decide) f182_282)) (tq ((E_aload (v := Value.ref 37) rfl rfl f182_285)) (tq (tq ((G11041 f182_286)) (if_pos (zS37 hS))) (tq (exe_R (zR37_41 hS)) (tq ((E_iload (x := (l8 + (-1))) rfl f182_289)) (tq ((E_iconst (x := (1)) (by decide) f182_291)) (tq ((E_isub f182_292)) (tq ((E_iload (x := (I 46 (((200) * l1) + l10).toNatClampNeg)) rfl f182_293)) (tq ((E_aload (v := Value.ref 37) rfl rfl f182_295)) (tq (tq ((G11041 f182_296)) (if_pos (zS37 hS))) (tq (exe_R (zR37_41 hS)) (tq ((E_iload (x := (l8 + (-1))) rfl f182_299)) (tq ((E_iconst (x := (1)) (by decide) f182_301)) (tq ((E_isub f182_302)) (tq (tq ((E_iald f182_303)) (ite_ar (zS66 hS))) (ite_c (tq ((E_aload (v := Value.ref 37) rfl rfl f182_304)) (tq (tq ((G11041 f182_305)) (if_pos (zS37 hS))) (tq (exe_R (zR37_41 hS)) (tq ((E_iload (x := (l8 + (-1))) rfl f182_308)) (tq (tq ((E_iald f182_310)) (ite_ar (zS66 hS))) (ite_c ((E_callS pn_184 rfl rfl (Nat.le_of_ble_eq_true rfl) (Nat.le_of_ble_eq_true rfl) f182_311)) rfl)))))) rfl)))))))))))))))) (rfl))))))))) (tq ((E_iinc (x := l8) (x' := (-1)) rfl rfl (by decide) f182_223)) (tq ((E_aload (v := Value.ref 37) rfl rfl f182_226)) (tq (tq ((G11041 f182_227)) (if_pos (zS37 hS))) (tq (exe_R (zR37_41 hS)) (tq ((E_iload (x := (l8 + (-1))) rfl f182_230)) (tq (tq ((E_iald f182_232)) (ite_ar (zS66 hS))) (ite_c (tq ((E_if_ne f182_233)) (ite_c (tq ((E_iconst (x := (0)) (by decide) f182_240)) (tq ((E_istore rfl f182_241)) (tq ((E_goto f182_243)) (tq ((E_iinc (x := l10) (x' := (1)) rfl rfl (by decide) f182_315)) ((E_goto f182_318)))))) (tq ((E_iconst (x := (1)) (by decide) f182_236)) (tq ((E_goto f182_237)) (tq ((E_istore rfl f182_241)) (tq ((E_goto f182_243)) (tq ((E_iinc (x := l10) (x' := (1)) rfl rfl (by decide) f182_315)) ((E_goto f182_318))))))))) rfl))))))))))) (tq ((E_aload (v := Value.ref 37) rfl rfl f182_194)) (tq (tq ((G11041 f182_195)) (if_pos (zS37 hS))) (tq (exe_R (zR37_41 hS)) (tq ((E_iload (x := l8) rfl f182_198)) (tq ((E_iconst (x := (1)) (by decide) f182_200)) (tq ((E_isub f182_201)) (tq ((E_aload (v := Value.ref 37) rfl rfl f182_202)) (tq (tq ((G11041 f182_203)) (if_pos (zS37 hS))) (tq (exe_R (zR37_41 hS)) (tq ((E_iload (x := l8) rfl f182_206)) (tq ((E_iconst (x := (1)) (by decide) f182_208)) (tq ((E_isub f182_209)) (tq (tq ((E_iald f182_210)) (ite_ar (zS66 hS))) (ite_c (tq ((E_ineg f182_211)) (tq (tq ((E_iast f182_212)) (ite_ar (zS66 hS))) (ite_c (tq ((E_goto f182_213)) (tq ((E_iinc (x := l10) (x' := (1)) rfl rfl (by decide) f182_315)) ((E_goto f182_318)))) rfl))) rfl)))))))))))))))))) (tq ((E_aload (v := Value.ref 37) rfl rfl f182_155)) (tq (tq ((G11041 f182_156)) (if_pos (zS37 hS))) (tq (exe_R (zR37_41 hS)) (tq ((E_iload (x := l8) rfl f182_159)) (tq ((E_iconst (x := (1)) (by decide) f182_161)) (tq ((E_isub f182_162)) (tq ((E_aload (v := Value.ref 37) rfl rfl f182_163)) (tq (tq ((G11041 f182_164)) (if_pos (zS37 hS))) (tq (exe_R (zR37_41 hS)) (tq ((E_iload (x := l8) rfl f182_167)) (tq ((E_iconst (x := (1)) (by decide) f182_169)) (tq ((E_isub f182_170)) (tq (tq ((E_iald f182_171)) (ite_ar (zS66 hS))) (ite_c (tq ((E_if_ne f182_172)) (ite_c (tq ((E_iconst (x := (0)) (by decide) f182_179)) ((E_callS pn_183 rfl rfl (Nat.le_of_ble_eq_true rfl) (Nat.le_of_ble_eq_true rfl) f182_180))) (tq ((E_iconst (x := (1)) (by decide) f182_175)) (tq ((E_goto f182_176)) ((E_callS pn_183 rfl rfl (Nat.le_of_ble_eq_true rfl) (Nat.le_of_ble_eq_true rfl) f182_180)))))) rfl)))))))))))))))))) (rfl)))))))))) rfl)))))))))))) rfl))))))
theorem t182_113 {X : XX} {d : Nat} {sz sl : Nat} {sh : Nat → Nat × Nat} {R : Nat → Nat → Option Nat} {I : Nat → Nat → Int32} {J : Nat → Nat → Int64} (hS : SF sh R) {l1 : Int32} {l8 : Int32} {l9 : Int32} {l10 : Int32} {l11 : Int32} : exe X d 182 113 [Value.ref 37, Value.int l1, dm, dm, dm, dm, dm, dm, Value.int l8, Value.int l9, Value.int l10, Value.int l11] [] (sz, sl, sh, R, I, J) =
    (if (8) ≤ l11 then (if inb l8 130 then exe X d 182 73 [Value.ref 37, Value.int l1, dm, dm, dm, dm, dm, dm, Value.int (l8 + (1)), Value.int l9, Value.int (l10 + (1)), dm] [] (sz, sl, sh, R, (u2 I 66 l8.toNatClampNeg (l11 - (100000))), J) else none) else (if inb l11 8 then (if inb l8 130 then exe X d 182 73 [Value.ref 37, Value.int l1, dm, dm, dm, dm, dm, dm, Value.int (l8 + (1)), Value.int l9, Value.int (l10 + (1)), dm] [] (sz, sl, sh, R, (u2 I 66 l8.toNatClampNeg (I 65 l11.toNatClampNeg)), J) else none) else none)) :=
  tq ((E_aload (v := Value.ref 37) rfl rfl f182_113)) (tq (tq ((G11041 f182_114)) (if_pos (zS37 hS))) (tq (exe_R (zR37_41 hS)) (tq ((E_iload (x := l8) rfl f182_117)) (tq ((E_iload (x := l11) rfl f182_119)) (tq ((E_iconst (x := (8)) (by decide) f182_121)) (tq ((E_ic_ge f182_123)) (ite_c (tq ((E_iload (x := l11) rfl f182_136)) (tq ((E_iconst (x := (100000)) (by decide) f182_138)) (tq ((E_isub f182_140)) (tq (tq ((E_iast f182_141)) (ite_ar (zS66 hS))) (ite_c (tq ((E_iinc (x := l8) (x' := (1)) rfl rfl (by decide) f182_142)) (tq ((E_goto f182_145)) (tq ((E_iinc (x := l10) (x' := (1)) rfl rfl (by decide) f182_315)) ((E_goto f182_318))))) rfl))))) (tq ((E_aload (v := Value.ref 37) rfl rfl f182_126)) (tq (tq ((G11040 f182_127)) (if_pos (zS37 hS))) (tq (exe_R (zR37_40 hS)) (tq ((E_iload (x := l11) rfl f182_130)) (tq (tq ((E_iald f182_132)) (ite_ar (zS65 hS))) (ite_c (tq ((E_goto f182_133)) (tq (tq ((E_iast f182_141)) (ite_ar (zS66 hS))) (ite_c (tq ((E_iinc (x := l8) (x' := (1)) rfl rfl (by decide) f182_142)) (tq ((E_goto f182_145)) (tq ((E_iinc (x := l10) (x' := (1)) rfl rfl (by decide) f182_315)) ((E_goto f182_318))))) rfl))) rfl)))))))))))))
theorem t182_183 {X : XX} {d : Nat} {sz sl : Nat} {sh : Nat → Nat × Nat} {R : Nat → Nat → Option Nat} {I : Nat → Nat → Int32} {J : Nat → Nat → Int64} {l1 : Int32} {l8 : Int32} {l9 : Int32} {l10 : Int32} {s0 : Int32} {s1 : Int32} {s2 : Value} (k2 : isB s2 = true) : exe X d 182 183 [Value.ref 37, Value.int l1, dm, dm, dm, dm, dm, dm, Value.int l8, Value.int l9, Value.int l10, dm] [Value.int s0, Value.int s1, s2] (sz, sl, sh, R, I, J) =
    (rf (s2) fun p1 => (if (sh p1).1 = 0 ∧ inb s1 (sh p1).2 then exe X d 182 73 [Value.ref 37, Value.int l1, dm, dm, dm, dm, dm, dm, Value.int l8, Value.int l9, Value.int (l10 + (1)), dm] [] (sz, sl, sh, R, (u2 I p1 s1.toNatClampNeg s0), J) else none)) :=
  tq ((E_iast f182_183)) (rf_c fun p1 => ite_c (tq ((E_goto f182_184)) (tq ((E_iinc (x := l10) (x' := (1)) rfl rfl (by decide) f182_315)) ((E_goto f182_318)))) rfl)
theorem t182_260 {X : XX} {d : Nat} {sz sl : Nat} {sh : Nat → Nat × Nat} {R : Nat → Nat → Option Nat} {I : Nat → Nat → Int32} {J : Nat → Nat → Int64} (hS : SF sh R) {l1 : Int32} {l8 : Int32} {l9 : Int32} {l10 : Int32} : exe X d 182 260 [Value.ref 37, Value.int l1, dm, dm, dm, dm, dm, dm, Value.int l8, Value.int l9, Value.int l10, dm] [] (sz, sl, sh, R, I, J) =
    (if ¬ l9 = 0 then exe X d 182 73 [Value.ref 37, Value.int l1, dm, dm, dm, dm, dm, dm, Value.int (l8 + (-1)), Value.int (0), Value.int (l10 + (1)), dm] [] (sz, sl, sh, R, I, J) else (if inb (l8 + (-1)) 130 then some (some (Value.int (I 66 (l8 + (-1)).toNatClampNeg)), (sz, sl, sh, R, I, J)) else none)) :=
  tq ((E_iinc (x := l8) (x' := (-1)) rfl rfl (by decide) f182_260)) (tq ((E_iload (x := l9) rfl f182_263)) (tq ((E_if_ne f182_265)) (ite_c (tq ((E_iconst (x := (0)) (by decide) f182_276)) (tq ((E_istore rfl f182_277)) (tq ((E_goto f182_279)) (tq ((E_iinc (x := l10) (x' := (1)) rfl rfl (by decide) f182_315)) ((E_goto f182_318)))))) (tq ((E_aload (v := Value.ref 37) rfl rfl f182_268)) (tq (tq ((G11041 f182_269)) (if_pos (zS37 hS))) (tq (exe_R (zR37_41 hS)) (tq ((E_iload (x := (l8 + (-1))) rfl f182_272)) (tq (tq ((E_iald f182_274)) (ite_ar (zS66 hS))) (ite_c ((E_iret pr_182 f182_275)) rfl)))))))))
theorem t182_314 {X : XX} {d : Nat} {sz sl : Nat} {sh : Nat → Nat × Nat} {R : Nat → Nat → Option Nat} {I : Nat → Nat → Int32} {J : Nat → Nat → Int64} {l1 : Int32} {l8 : Int32} {l9 : Int32} {l10 : Int32} {s0 : Int32} {s1 : Int32} {s2 : Value} (k2 : isB s2 = true) : exe X d 182 314 [Value.ref 37, Value.int l1, dm, dm, dm, dm, dm, dm, Value.int l8, Value.int l9, Value.int l10, dm] [Value.int s0, Value.int s1, s2] (sz, sl, sh, R, I, J) =
    (rf (s2) fun p1 => (if (sh p1).1 = 0 ∧ inb s1 (sh p1).2 then exe X d 182 73 [Value.ref 37, Value.int l1, dm, dm, dm, dm, dm, dm, Value.int l8, Value.int l9, Value.int (l10 + (1)), dm] [] (sz, sl, sh, R, (u2 I p1 s1.toNatClampNeg s0), J) else none)) :=
  tq ((E_iast f182_314)) (rf_c fun p1 => ite_c (tq ((E_iinc (x := l10) (x' := (1)) rfl rfl (by decide) f182_315)) ((E_goto f182_318))) rfl)
theorem n182 {X : XX} {d : Nat} {h : HP} {a0 : Int32} {a1 : Int32} {a2 : Int32} {a3 : Int32} {a4 : Int32} {a5 : Int32} {a6 : Int32} : ev X (d + 1) 182 [Value.ref 37, Value.int a0, Value.int a1, Value.int a2, Value.int a3, Value.int a4, Value.int a5, Value.int a6] h = exe X d 182 0 [Value.ref 37, Value.int a0, Value.int a1, Value.int a2, Value.int a3, Value.int a4, Value.int a5, Value.int a6, dm, dm, dm, dm] [] h := ev_exe (Nat.le_of_ble_eq_true rfl)
theorem f183_0 : fr 183 0 = some (.iload 0, 1, [0], []) := by decide +kernel
theorem f183_1 : fr 183 1 = some (.ifCond .eq 8, 3, [], []) := by decide +kernel
theorem f183_4 : fr 183 4 = some (.iconst 1, 1, [], []) := by decide +kernel
theorem f183_5 : fr 183 5 = some (.goto 9, 3, [], []) := by decide +kernel
theorem f183_8 : fr 183 8 = some (.iconst 0, 1, [], []) := by decide +kernel
theorem f183_9 : fr 183 9 = some (.ireturn, 1, [], []) := by decide +kernel
theorem t183_0 {X : XX} {d : Nat} {sz sl : Nat} {sh : Nat → Nat × Nat} {R : Nat → Nat → Option Nat} {I : Nat → Nat → Int32} {J : Nat → Nat → Int64} {l0 : Int32} : exe X d 183 0 [Value.int l0] [] (sz, sl, sh, R, I, J) =
    (if l0 = 0 then some (some (Value.int (0)), (sz, sl, sh, R, I, J)) else some (some (Value.int (1)), (sz, sl, sh, R, I, J))) :=
  tq ((E_iload (x := l0) rfl f183_0)) (tq ((E_if_eq f183_1)) (ite_c (tq ((E_iconst (x := (0)) (by decide) f183_8)) ((E_iret pr_183 f183_9))) (tq ((E_iconst (x := (1)) (by decide) f183_4)) (tq ((E_goto f183_5)) ((E_iret pr_183 f183_9))))))
theorem n183 {X : XX} {d : Nat} {h : HP} {a0 : Int32} : ev X (d + 1) 183 [Value.int a0] h = exe X d 183 0 [Value.int a0] [] h := ev_exe (Nat.le_of_ble_eq_true rfl)
theorem f184_0 : fr 184 0 = some (.iload 0, 1, [0], []) := by decide +kernel
theorem f184_1 : fr 184 1 = some (.lookupswitch 160 #[(11, 60), (12, 77), (13, 160), (14, 94), (15, 108), (16, 136), (17, 140), (18, 144), (19, 160), (20, 122), (21, 148)], 59, [], []) := by decide +kernel
theorem f184_60 : fr 184 60 = some (.iload 1, 1, [1], []) := by decide +kernel
theorem f184_61 : fr 184 61 = some (.ifCond .ne 68, 3, [], [2]) := by decide +kernel
theorem f184_64 : fr 184 64 = some (.iload 2, 1, [2], []) := by decide +kernel
theorem f184_65 : fr 184 65 = some (.ifCond .eq 72, 3, [], []) := by decide +kernel
theorem f184_68 : fr 184 68 = some (.iconst 1, 1, [], []) := by decide +kernel
theorem f184_69 : fr 184 69 = some (.goto 73, 3, [], []) := by decide +kernel
theorem f184_72 : fr 184 72 = some (.iconst 0, 1, [], []) := by decide +kernel
theorem f184_73 : fr 184 73 = some (.invokestatic 183, 3, [], []) := by decide +kernel
theorem f184_76 : fr 184 76 = some (.ireturn, 1, [], []) := by decide +kernel
theorem f184_77 : fr 184 77 = some (.iload 1, 1, [1], []) := by decide +kernel
theorem f184_78 : fr 184 78 = some (.ifCond .eq 89, 3, [], [2]) := by decide +kernel
theorem f184_81 : fr 184 81 = some (.iload 2, 1, [2], []) := by decide +kernel
theorem f184_82 : fr 184 82 = some (.ifCond .eq 89, 3, [], []) := by decide +kernel
theorem f184_85 : fr 184 85 = some (.iconst 1, 1, [], []) := by decide +kernel
theorem f184_86 : fr 184 86 = some (.goto 90, 3, [], []) := by decide +kernel
theorem f184_89 : fr 184 89 = some (.iconst 0, 1, [], []) := by decide +kernel
theorem f184_90 : fr 184 90 = some (.invokestatic 183, 3, [], []) := by decide +kernel
theorem f184_93 : fr 184 93 = some (.ireturn, 1, [], []) := by decide +kernel
theorem f184_94 : fr 184 94 = some (.iload 1, 1, [1], []) := by decide +kernel
theorem f184_95 : fr 184 95 = some (.iload 2, 1, [2], []) := by decide +kernel
theorem f184_96 : fr 184 96 = some (.if_icmp .ge 103, 3, [], []) := by decide +kernel
theorem f184_99 : fr 184 99 = some (.iconst 1, 1, [], []) := by decide +kernel
theorem f184_100 : fr 184 100 = some (.goto 104, 3, [], []) := by decide +kernel
theorem f184_103 : fr 184 103 = some (.iconst 0, 1, [], []) := by decide +kernel
theorem f184_104 : fr 184 104 = some (.invokestatic 183, 3, [], []) := by decide +kernel
theorem f184_107 : fr 184 107 = some (.ireturn, 1, [], []) := by decide +kernel
theorem f184_108 : fr 184 108 = some (.iload 1, 1, [1], []) := by decide +kernel
theorem f184_109 : fr 184 109 = some (.iload 2, 1, [2], []) := by decide +kernel
theorem f184_110 : fr 184 110 = some (.if_icmp .ne 117, 3, [], []) := by decide +kernel
theorem f184_113 : fr 184 113 = some (.iconst 1, 1, [], []) := by decide +kernel
theorem f184_114 : fr 184 114 = some (.goto 118, 3, [], []) := by decide +kernel
theorem f184_117 : fr 184 117 = some (.iconst 0, 1, [], []) := by decide +kernel
theorem f184_118 : fr 184 118 = some (.invokestatic 183, 3, [], []) := by decide +kernel
theorem f184_121 : fr 184 121 = some (.ireturn, 1, [], []) := by decide +kernel
theorem f184_122 : fr 184 122 = some (.iload 1, 1, [1], []) := by decide +kernel
theorem f184_123 : fr 184 123 = some (.iload 2, 1, [2], []) := by decide +kernel
theorem f184_124 : fr 184 124 = some (.if_icmp .le 131, 3, [], []) := by decide +kernel
theorem f184_127 : fr 184 127 = some (.iconst 1, 1, [], []) := by decide +kernel
theorem f184_128 : fr 184 128 = some (.goto 132, 3, [], []) := by decide +kernel
theorem f184_131 : fr 184 131 = some (.iconst 0, 1, [], []) := by decide +kernel
theorem f184_132 : fr 184 132 = some (.invokestatic 183, 3, [], []) := by decide +kernel
theorem f184_135 : fr 184 135 = some (.ireturn, 1, [], []) := by decide +kernel
theorem f184_136 : fr 184 136 = some (.iload 1, 1, [1], []) := by decide +kernel
theorem f184_137 : fr 184 137 = some (.iload 2, 1, [2], []) := by decide +kernel
theorem f184_138 : fr 184 138 = some (.iadd, 1, [], []) := by decide +kernel
theorem f184_139 : fr 184 139 = some (.ireturn, 1, [], []) := by decide +kernel
theorem f184_140 : fr 184 140 = some (.iload 1, 1, [1], []) := by decide +kernel
theorem f184_141 : fr 184 141 = some (.iload 2, 1, [2], []) := by decide +kernel
theorem f184_142 : fr 184 142 = some (.isub, 1, [], []) := by decide +kernel
theorem f184_143 : fr 184 143 = some (.ireturn, 1, [], []) := by decide +kernel
theorem f184_144 : fr 184 144 = some (.iload 1, 1, [1], []) := by decide +kernel
theorem f184_145 : fr 184 145 = some (.iload 2, 1, [2], []) := by decide +kernel
theorem f184_146 : fr 184 146 = some (.imul, 1, [], []) := by decide +kernel
theorem f184_147 : fr 184 147 = some (.ireturn, 1, [], []) := by decide +kernel
theorem f184_148 : fr 184 148 = some (.iload 2, 1, [], []) := by decide +kernel
theorem f184_149 : fr 184 149 = some (.ifCond .ne 156, 3, [1, 2], []) := by decide +kernel
theorem f184_152 : fr 184 152 = some (.iconst 0, 1, [], []) := by decide +kernel
theorem f184_153 : fr 184 153 = some (.goto 159, 3, [], []) := by decide +kernel
theorem f184_156 : fr 184 156 = some (.iload 1, 1, [1], []) := by decide +kernel
theorem f184_157 : fr 184 157 = some (.iload 2, 1, [2], []) := by decide +kernel
theorem f184_158 : fr 184 158 = some (.idiv, 1, [], []) := by decide +kernel
theorem f184_159 : fr 184 159 = some (.ireturn, 1, [], []) := by decide +kernel
theorem f184_160 : fr 184 160 = some (.iload 2, 1, [], []) := by decide +kernel
theorem f184_161 : fr 184 161 = some (.ifCond .ne 168, 3, [1, 2], []) := by decide +kernel
theorem f184_164 : fr 184 164 = some (.iconst 0, 1, [], []) := by decide +kernel
theorem f184_165 : fr 184 165 = some (.goto 171, 3, [], []) := by decide +kernel
theorem f184_168 : fr 184 168 = some (.iload 1, 1, [1], []) := by decide +kernel
theorem f184_169 : fr 184 169 = some (.iload 2, 1, [2], []) := by decide +kernel
theorem f184_170 : fr 184 170 = some (.irem, 1, [], []) := by decide +kernel
theorem f184_171 : fr 184 171 = some (.ireturn, 1, [], []) := by decide +kernel
theorem t184_0 {X : XX} {d : Nat} {sz sl : Nat} {sh : Nat → Nat × Nat} {R : Nat → Nat → Option Nat} {I : Nat → Nat → Int32} {J : Nat → Nat → Int64} {l0 : Int32} {l1 : Int32} {l2 : Int32} : exe X d 184 0 [Value.int l0, Value.int l1, Value.int l2] [] (sz, sl, sh, R, I, J) =
    (if l0 = (11) then (if ¬ l1 = 0 then ((ev X d 183 [Value.int (1)] (sz, sl, sh, R, I, J)).bind fun q => exe X d 184 76 [dm, dm, dm] (q.1.toList ++ []) q.2) else (if l2 = 0 then ((ev X d 183 [Value.int (0)] (sz, sl, sh, R, I, J)).bind fun q => exe X d 184 76 [dm, dm, dm] (q.1.toList ++ []) q.2) else ((ev X d 183 [Value.int (1)] (sz, sl, sh, R, I, J)).bind fun q => exe X d 184 76 [dm, dm, dm] (q.1.toList ++ []) q.2))) else (if l0 = (12) then (if l1 = 0 then ((ev X d 183 [Value.int (0)] (sz, sl, sh, R, I, J)).bind fun q => exe X d 184 93 [dm, dm, dm] (q.1.toList ++ []) q.2) else (if l2 = 0 then ((ev X d 183 [Value.int (0)] (sz, sl, sh, R, I, J)).bind fun q => exe X d 184 93 [dm, dm, dm] (q.1.toList ++ []) q.2) else ((ev X d 183 [Value.int (1)] (sz, sl, sh, R, I, J)).bind fun q => exe X d 184 93 [dm, dm, dm] (q.1.toList ++ []) q.2))) else (if l0 = (13) then (if ¬ l2 = 0 then (if l2 = 0 then none else some (some (Value.int (l1 - l1 / l2 * l2)), (sz, sl, sh, R, I, J))) else some (some (Value.int (0)), (sz, sl, sh, R, I, J))) else (if l0 = (14) then (if l2 ≤ l1 then ((ev X d 183 [Value.int (0)] (sz, sl, sh, R, I, J)).bind fun q => exe X d 184 107 [dm, dm, dm] (q.1.toList ++ []) q.2) else ((ev X d 183 [Value.int (1)] (sz, sl, sh, R, I, J)).bind fun q => exe X d 184 107 [dm, dm, dm] (q.1.toList ++ []) q.2)) else (if l0 = (15) then (if ¬ l1 = l2 then ((ev X d 183 [Value.int (0)] (sz, sl, sh, R, I, J)).bind fun q => exe X d 184 121 [dm, dm, dm] (q.1.toList ++ []) q.2) else ((ev X d 183 [Value.int (1)] (sz, sl, sh, R, I, J)).bind fun q => exe X d 184 121 [dm, dm, dm] (q.1.toList ++ []) q.2)) else (if l0 = (16) then some (some (Value.int (l1 + l2)), (sz, sl, sh, R, I, J)) else (if l0 = (17) then some (some (Value.int (l1 - l2)), (sz, sl, sh, R, I, J)) else (if l0 = (18) then some (some (Value.int (l1 * l2)), (sz, sl, sh, R, I, J)) else (if l0 = (19) then (if ¬ l2 = 0 then (if l2 = 0 then none else some (some (Value.int (l1 - l1 / l2 * l2)), (sz, sl, sh, R, I, J))) else some (some (Value.int (0)), (sz, sl, sh, R, I, J))) else (if l0 = (20) then (if l1 ≤ l2 then ((ev X d 183 [Value.int (0)] (sz, sl, sh, R, I, J)).bind fun q => exe X d 184 135 [dm, dm, dm] (q.1.toList ++ []) q.2) else ((ev X d 183 [Value.int (1)] (sz, sl, sh, R, I, J)).bind fun q => exe X d 184 135 [dm, dm, dm] (q.1.toList ++ []) q.2)) else (if l0 = (21) then (if ¬ l2 = 0 then (if l2 = 0 then none else some (some (Value.int (l1 / l2)), (sz, sl, sh, R, I, J))) else some (some (Value.int (0)), (sz, sl, sh, R, I, J))) else (if ¬ l2 = 0 then (if l2 = 0 then none else some (some (Value.int (l1 - l1 / l2 * l2)), (sz, sl, sh, R, I, J))) else some (some (Value.int (0)), (sz, sl, sh, R, I, J)))))))))))))) :=
  tq ((E_iload (x := l0) rfl f184_0)) (tq ((E_sw f184_1)) (sw_c (by decide) (tq ((E_iload (x := l1) rfl f184_60)) (tq ((E_if_ne f184_61)) (ite_c (tq ((E_iconst (x := (1)) (by decide) f184_68)) (tq ((E_goto f184_69)) ((E_callS pn_183 rfl rfl (Nat.le_of_ble_eq_true rfl) (Nat.le_of_ble_eq_true rfl) f184_73)))) (tq ((E_iload (x := l2) rfl f184_64)) (tq ((E_if_eq f184_65)) (ite_c (tq ((E_iconst (x := (0)) (by decide) f184_72)) ((E_callS pn_183 rfl rfl (Nat.le_of_ble_eq_true rfl) (Nat.le_of_ble_eq_true rfl) f184_73))) (tq ((E_iconst (x := (1)) (by decide) f184_68)) (tq ((E_goto f184_69)) ((E_callS pn_183 rfl rfl (Nat.le_of_ble_eq_true rfl) (Nat.le_of_ble_eq_true rfl) f184_73)))))))))) (sw_c (by decide) (tq ((E_iload (x := l1) rfl f184_77)) (tq ((E_if_eq f184_78)) (ite_c (tq ((E_iconst (x := (0)) (by decide) f184_89)) ((E_callS pn_183 rfl rfl (Nat.le_of_ble_eq_true rfl) (Nat.le_of_ble_eq_true rfl) f184_90))) (tq ((E_iload (x := l2) rfl f184_81)) (tq ((E_if_eq f184_82)) (ite_c (tq ((E_iconst (x := (0)) (by decide) f184_89)) ((E_callS pn_183 rfl rfl (Nat.le_of_ble_eq_true rfl) (Nat.le_of_ble_eq_true rfl) f184_90))) (tq ((E_iconst (x := (1)) (by decide) f184_85)) (tq ((E_goto f184_86)) ((E_callS pn_183 rfl rfl (Nat.le_of_ble_eq_true rfl) (Nat.le_of_ble_eq_true rfl) f184_90)))))))))) (sw_c (by decide) (tq ((E_iload (x := l2) rfl f184_160)) (tq ((E_if_ne f184_161)) (ite_c (tq ((E_iload (x := l1) rfl f184_168)) (tq ((E_iload (x := l2) rfl f184_169)) (tq (E_irem' f184_170) (ite_c rfl ((E_iret pr_184 f184_171)))))) (tq ((E_iconst (x := (0)) (by decide) f184_164)) (tq ((E_goto f184_165)) ((E_iret pr_184 f184_171))))))) (sw_c (by decide) (tq ((E_iload (x := l1) rfl f184_94)) (tq ((E_iload (x := l2) rfl f184_95)) (tq ((E_ic_ge f184_96)) (ite_c (tq ((E_iconst (x := (0)) (by decide) f184_103)) ((E_callS pn_183 rfl rfl (Nat.le_of_ble_eq_true rfl) (Nat.le_of_ble_eq_true rfl) f184_104))) (tq ((E_iconst (x := (1)) (by decide) f184_99)) (tq ((E_goto f184_100)) ((E_callS pn_183 rfl rfl (Nat.le_of_ble_eq_true rfl) (Nat.le_of_ble_eq_true rfl) f184_104)))))))) (sw_c (by decide) (tq ((E_iload (x := l1) rfl f184_108)) (tq ((E_iload (x := l2) rfl f184_109)) (tq ((E_ic_ne f184_110)) (ite_c (tq ((E_iconst (x := (0)) (by decide) f184_117)) ((E_callS pn_183 rfl rfl (Nat.le_of_ble_eq_true rfl) (Nat.le_of_ble_eq_true rfl) f184_118))) (tq ((E_iconst (x := (1)) (by decide) f184_113)) (tq ((E_goto f184_114)) ((E_callS pn_183 rfl rfl (Nat.le_of_ble_eq_true rfl) (Nat.le_of_ble_eq_true rfl) f184_118)))))))) (sw_c (by decide) (tq ((E_iload (x := l1) rfl f184_136)) (tq ((E_iload (x := l2) rfl f184_137)) (tq ((E_iadd f184_138)) ((E_iret pr_184 f184_139))))) (sw_c (by decide) (tq ((E_iload (x := l1) rfl f184_140)) (tq ((E_iload (x := l2) rfl f184_141)) (tq ((E_isub f184_142)) ((E_iret pr_184 f184_143))))) (sw_c (by decide) (tq ((E_iload (x := l1) rfl f184_144)) (tq ((E_iload (x := l2) rfl f184_145)) (tq ((E_imul f184_146)) ((E_iret pr_184 f184_147))))) (sw_c (by decide) (tq ((E_iload (x := l2) rfl f184_160)) (tq ((E_if_ne f184_161)) (ite_c (tq ((E_iload (x := l1) rfl f184_168)) (tq ((E_iload (x := l2) rfl f184_169)) (tq (E_irem' f184_170) (ite_c rfl ((E_iret pr_184 f184_171)))))) (tq ((E_iconst (x := (0)) (by decide) f184_164)) (tq ((E_goto f184_165)) ((E_iret pr_184 f184_171))))))) (sw_c (by decide) (tq ((E_iload (x := l1) rfl f184_122)) (tq ((E_iload (x := l2) rfl f184_123)) (tq ((E_ic_le f184_124)) (ite_c (tq ((E_iconst (x := (0)) (by decide) f184_131)) ((E_callS pn_183 rfl rfl (Nat.le_of_ble_eq_true rfl) (Nat.le_of_ble_eq_true rfl) f184_132))) (tq ((E_iconst (x := (1)) (by decide) f184_127)) (tq ((E_goto f184_128)) ((E_callS pn_183 rfl rfl (Nat.le_of_ble_eq_true rfl) (Nat.le_of_ble_eq_true rfl) f184_132)))))))) (sw_c (by decide) (tq ((E_iload (x := l2) rfl f184_148)) (tq ((E_if_ne f184_149)) (ite_c (tq ((E_iload (x := l1) rfl f184_156)) (tq ((E_iload (x := l2) rfl f184_157)) (tq (E_idiv' f184_158) (ite_c rfl ((E_iret pr_184 f184_159)))))) (tq ((E_iconst (x := (0)) (by decide) f184_152)) (tq ((E_goto f184_153)) ((E_iret pr_184 f184_159))))))) (tq ((E_iload (x := l2) rfl f184_160)) (tq ((E_if_ne f184_161)) (ite_c (tq ((E_iload (x := l1) rfl f184_168)) (tq ((E_iload (x := l2) rfl f184_169)) (tq (E_irem' f184_170) (ite_c rfl ((E_iret pr_184 f184_171)))))) (tq ((E_iconst (x := (0)) (by decide) f184_164)) (tq ((E_goto f184_165)) ((E_iret pr_184 f184_171)))))))))))))))))))
theorem t184_76 {X : XX} {d : Nat} {sz sl : Nat} {sh : Nat → Nat × Nat} {R : Nat → Nat → Option Nat} {I : Nat → Nat → Int32} {J : Nat → Nat → Int64} {s0 : Int32} : exe X d 184 76 [dm, dm, dm] [Value.int s0] (sz, sl, sh, R, I, J) =
    some (some (Value.int s0), (sz, sl, sh, R, I, J)) :=
  (E_iret pr_184 f184_76)
theorem t184_93 {X : XX} {d : Nat} {sz sl : Nat} {sh : Nat → Nat × Nat} {R : Nat → Nat → Option Nat} {I : Nat → Nat → Int32} {J : Nat → Nat → Int64} {s0 : Int32} : exe X d 184 93 [dm, dm, dm] [Value.int s0] (sz, sl, sh, R, I, J) =
    some (some (Value.int s0), (sz, sl, sh, R, I, J)) :=
  (E_iret pr_184 f184_93)
theorem t184_107 {X : XX} {d : Nat} {sz sl : Nat} {sh : Nat → Nat × Nat} {R : Nat → Nat → Option Nat} {I : Nat → Nat → Int32} {J : Nat → Nat → Int64} {s0 : Int32} : exe X d 184 107 [dm, dm, dm] [Value.int s0] (sz, sl, sh, R, I, J) =
    some (some (Value.int s0), (sz, sl, sh, R, I, J)) :=
  (E_iret pr_184 f184_107)
theorem t184_121 {X : XX} {d : Nat} {sz sl : Nat} {sh : Nat → Nat × Nat} {R : Nat → Nat → Option Nat} {I : Nat → Nat → Int32} {J : Nat → Nat → Int64} {s0 : Int32} : exe X d 184 121 [dm, dm, dm] [Value.int s0] (sz, sl, sh, R, I, J) =
    some (some (Value.int s0), (sz, sl, sh, R, I, J)) :=
  (E_iret pr_184 f184_121)
theorem t184_135 {X : XX} {d : Nat} {sz sl : Nat} {sh : Nat → Nat × Nat} {R : Nat → Nat → Option Nat} {I : Nat → Nat → Int32} {J : Nat → Nat → Int64} {s0 : Int32} : exe X d 184 135 [dm, dm, dm] [Value.int s0] (sz, sl, sh, R, I, J) =
    some (some (Value.int s0), (sz, sl, sh, R, I, J)) :=
  (E_iret pr_184 f184_135)
theorem n184 {X : XX} {d : Nat} {h : HP} {a0 : Int32} {a1 : Int32} {a2 : Int32} : ev X (d + 1) 184 [Value.int a0, Value.int a1, Value.int a2] h = exe X d 184 0 [Value.int a0, Value.int a1, Value.int a2] [] h := ev_exe (Nat.le_of_ble_eq_true rfl)
theorem f185_0 : fr 185 0 = some (.iload 1, 1, [], []) := by decide +kernel
theorem f185_1 : fr 185 1 = some (.ifCond .lt 43, 3, [], []) := by decide +kernel
theorem f185_4 : fr 185 4 = some (.iload 1, 1, [], []) := by decide +kernel
theorem f185_5 : fr 185 5 = some (.iconst 10000, 3, [], []) := by decide +kernel
theorem f185_8 : fr 185 8 = some (.idiv, 1, [], []) := by decide +kernel
theorem f185_9 : fr 185 9 = some (.iconst 2000, 3, [], []) := by decide +kernel
theorem f185_12 : fr 185 12 = some (.if_icmp .gt 43, 3, [], []) := by decide +kernel
theorem f185_15 : fr 185 15 = some (.iload 1, 1, [], []) := by decide +kernel
theorem f185_16 : fr 185 16 = some (.iconst 10000, 3, [], []) := by decide +kernel
theorem f185_19 : fr 185 19 = some (.irem, 1, [], []) := by decide +kernel
theorem f185_20 : fr 185 20 = some (.iconst 2000, 3, [], []) := by decide +kernel
theorem f185_23 : fr 185 23 = some (.if_icmp .gt 43, 3, [], []) := by decide +kernel
theorem f185_26 : fr 185 26 = some (.iload 1, 1, [], []) := by decide +kernel
theorem f185_27 : fr 185 27 = some (.iconst 10000, 3, [], []) := by decide +kernel
theorem f185_30 : fr 185 30 = some (.idiv, 1, [], []) := by decide +kernel
theorem f185_31 : fr 185 31 = some (.iload 1, 1, [], []) := by decide +kernel
theorem f185_32 : fr 185 32 = some (.iconst 10000, 3, [], []) := by decide +kernel
theorem f185_35 : fr 185 35 = some (.irem, 1, [], []) := by decide +kernel
theorem f185_36 : fr 185 36 = some (.if_icmp .gt 43, 3, [], []) := by decide +kernel
theorem f185_39 : fr 185 39 = some (.iconst 1, 1, [], []) := by decide +kernel
theorem f185_40 : fr 185 40 = some (.goto 44, 3, [], []) := by decide +kernel
theorem f185_43 : fr 185 43 = some (.iconst 0, 1, [], []) := by decide +kernel
theorem f185_44 : fr 185 44 = some (.istore 4, 2, [], []) := by decide +kernel
theorem f185_46 : fr 185 46 = some (.iload 4, 2, [4], []) := by decide +kernel
theorem f185_48 : fr 185 48 = some (.ifCond .eq 80, 3, [], [0, 1, 2, 3]) := by decide +kernel
theorem f185_51 : fr 185 51 = some (.iload 2, 1, [], []) := by decide +kernel
theorem f185_52 : fr 185 52 = some (.iconst 0, 1, [], []) := by decide +kernel
theorem f185_53 : fr 185 53 = some (.iconst 999999, 2, [], []) := by decide +kernel
theorem f185_55 : fr 185 55 = some (.invokestatic 148, 3, [], []) := by decide +kernel
theorem f185_58 : fr 185 58 = some (.ifCond .eq 80, 3, [], [0, 1, 2, 3]) := by decide +kernel
theorem f185_61 : fr 185 61 = some (.iload 3, 1, [], []) := by decide +kernel
theorem f185_62 : fr 185 62 = some (.iconst 0, 1, [], []) := by decide +kernel
theorem f185_63 : fr 185 63 = some (.iconst 799, 3, [], []) := by decide +kernel
theorem f185_66 : fr 185 66 = some (.invokestatic 148, 3, [], []) := by decide +kernel
theorem f185_69 : fr 185 69 = some (.ifCond .eq 80, 3, [], [0, 1, 2, 3]) := by decide +kernel
theorem f185_72 : fr 185 72 = some (.iload 3, 1, [], []) := by decide +kernel
theorem f185_73 : fr 185 73 = some (.iconst 10, 2, [], []) := by decide +kernel
theorem f185_75 : fr 185 75 = some (.irem, 1, [], []) := by decide +kernel
theorem f185_76 : fr 185 76 = some (.iconst 1, 1, [], []) := by decide +kernel
theorem f185_77 : fr 185 77 = some (.if_icmp .le 82, 3, [0, 1, 2, 3], []) := by decide +kernel
theorem f185_80 : fr 185 80 = some (.iconst (-1), 1, [], []) := by decide +kernel
theorem f185_81 : fr 185 81 = some (.ireturn, 1, [], []) := by decide +kernel
theorem f185_82 : fr 185 82 = some (.aload 0, 1, [], []) := by decide +kernel
theorem f185_83 : fr 185 83 = some (.getfield 11013, 3, [], []) := by decide +kernel
theorem f185_86 : fr 185 86 = some (.iconst 10, 2, [], []) := by decide +kernel
theorem f185_88 : fr 185 88 = some (.if_icmp .ne 94, 3, [0, 1, 2, 3], []) := by decide +kernel
theorem f185_91 : fr 185 91 = some (.iconst (-3), 2, [], []) := by decide +kernel
theorem f185_93 : fr 185 93 = some (.ireturn, 1, [], []) := by decide +kernel
theorem f185_94 : fr 185 94 = some (.aload 0, 1, [], []) := by decide +kernel
theorem f185_95 : fr 185 95 = some (.getfield 11014, 3, [], []) := by decide +kernel
theorem f185_98 : fr 185 98 = some (.aload 0, 1, [], []) := by decide +kernel
theorem f185_99 : fr 185 99 = some (.getfield 11013, 3, [], []) := by decide +kernel
theorem f185_102 : fr 185 102 = some (.iload 1, 1, [], []) := by decide +kernel
theorem f185_103 : fr 185 103 = some (.iconst 10000, 3, [], []) := by decide +kernel
theorem f185_106 : fr 185 106 = some (.idiv, 1, [], []) := by decide +kernel
theorem f185_107 : fr 185 107 = some (.iastore, 1, [], []) := by decide +kernel
theorem f185_108 : fr 185 108 = some (.aload 0, 1, [], []) := by decide +kernel
theorem f185_109 : fr 185 109 = some (.getfield 11015, 3, [], []) := by decide +kernel
theorem f185_112 : fr 185 112 = some (.aload 0, 1, [], []) := by decide +kernel
theorem f185_113 : fr 185 113 = some (.getfield 11013, 3, [], []) := by decide +kernel
theorem f185_116 : fr 185 116 = some (.iload 1, 1, [1], []) := by decide +kernel
theorem f185_117 : fr 185 117 = some (.iconst 10000, 3, [], []) := by decide +kernel
theorem f185_120 : fr 185 120 = some (.irem, 1, [], []) := by decide +kernel
theorem f185_121 : fr 185 121 = some (.iastore, 1, [], []) := by decide +kernel
theorem f185_122 : fr 185 122 = some (.aload 0, 1, [], []) := by decide +kernel
theorem f185_123 : fr 185 123 = some (.getfield 11016, 3, [], []) := by decide +kernel
theorem f185_126 : fr 185 126 = some (.aload 0, 1, [], []) := by decide +kernel
theorem f185_127 : fr 185 127 = some (.getfield 11013, 3, [], []) := by decide +kernel
theorem f185_130 : fr 185 130 = some (.iload 2, 1, [], []) := by decide +kernel
theorem f185_131 : fr 185 131 = some (.iconst 1000, 3, [], []) := by decide +kernel
theorem f185_134 : fr 185 134 = some (.idiv, 1, [], []) := by decide +kernel
theorem f185_135 : fr 185 135 = some (.iastore, 1, [], []) := by decide +kernel
theorem f185_136 : fr 185 136 = some (.aload 0, 1, [], []) := by decide +kernel
theorem f185_137 : fr 185 137 = some (.getfield 11017, 3, [], []) := by decide +kernel
theorem f185_140 : fr 185 140 = some (.aload 0, 1, [], []) := by decide +kernel
theorem f185_141 : fr 185 141 = some (.getfield 11013, 3, [], []) := by decide +kernel
theorem f185_144 : fr 185 144 = some (.iload 2, 1, [2], []) := by decide +kernel
theorem f185_145 : fr 185 145 = some (.iconst 1000, 3, [], []) := by decide +kernel
theorem f185_148 : fr 185 148 = some (.irem, 1, [], []) := by decide +kernel
theorem f185_149 : fr 185 149 = some (.iastore, 1, [], []) := by decide +kernel
theorem f185_150 : fr 185 150 = some (.aload 0, 1, [], []) := by decide +kernel
theorem f185_151 : fr 185 151 = some (.getfield 11018, 3, [], []) := by decide +kernel
theorem f185_154 : fr 185 154 = some (.aload 0, 1, [], []) := by decide +kernel
theorem f185_155 : fr 185 155 = some (.getfield 11013, 3, [], []) := by decide +kernel
theorem f185_158 : fr 185 158 = some (.iload 3, 1, [], []) := by decide +kernel
theorem f185_159 : fr 185 159 = some (.iconst 100, 2, [], []) := by decide +kernel
theorem f185_161 : fr 185 161 = some (.idiv, 1, [], []) := by decide +kernel
theorem f185_162 : fr 185 162 = some (.iastore, 1, [], []) := by decide +kernel
theorem f185_163 : fr 185 163 = some (.aload 0, 1, [], []) := by decide +kernel
theorem f185_164 : fr 185 164 = some (.getfield 11019, 3, [], []) := by decide +kernel
theorem f185_167 : fr 185 167 = some (.aload 0, 1, [], []) := by decide +kernel
theorem f185_168 : fr 185 168 = some (.getfield 11013, 3, [], []) := by decide +kernel
theorem f185_171 : fr 185 171 = some (.iload 3, 1, [], []) := by decide +kernel
theorem f185_172 : fr 185 172 = some (.iconst 10, 2, [], []) := by decide +kernel
theorem f185_174 : fr 185 174 = some (.idiv, 1, [], []) := by decide +kernel
theorem f185_175 : fr 185 175 = some (.iconst 10, 2, [], []) := by decide +kernel
theorem f185_177 : fr 185 177 = some (.irem, 1, [], []) := by decide +kernel
theorem f185_178 : fr 185 178 = some (.iastore, 1, [], []) := by decide +kernel
theorem f185_179 : fr 185 179 = some (.aload 0, 1, [], []) := by decide +kernel
theorem f185_180 : fr 185 180 = some (.getfield 11020, 3, [], []) := by decide +kernel
theorem f185_183 : fr 185 183 = some (.aload 0, 1, [], []) := by decide +kernel
theorem f185_184 : fr 185 184 = some (.getfield 11013, 3, [], []) := by decide +kernel
theorem f185_187 : fr 185 187 = some (.iload 3, 1, [3], []) := by decide +kernel
theorem f185_188 : fr 185 188 = some (.iconst 10, 2, [], []) := by decide +kernel
theorem f185_190 : fr 185 190 = some (.irem, 1, [], []) := by decide +kernel
theorem f185_191 : fr 185 191 = some (.iastore, 1, [], []) := by decide +kernel
theorem f185_192 : fr 185 192 = some (.aload 0, 1, [], []) := by decide +kernel
theorem f185_193 : fr 185 193 = some (.dup, 1, [], []) := by decide +kernel
theorem f185_194 : fr 185 194 = some (.getfield 11013, 3, [], []) := by decide +kernel
theorem f185_197 : fr 185 197 = some (.iconst 1, 1, [], []) := by decide +kernel
theorem f185_198 : fr 185 198 = some (.iadd, 1, [], []) := by decide +kernel
theorem f185_199 : fr 185 199 = some (.putfield 11013, 3, [], []) := by decide +kernel
theorem f185_202 : fr 185 202 = some (.aload 0, 1, [0], []) := by decide +kernel
theorem f185_203 : fr 185 203 = some (.getfield 11013, 3, [], []) := by decide +kernel
theorem f185_206 : fr 185 206 = some (.iconst 1, 1, [], []) := by decide +kernel
theorem f185_207 : fr 185 207 = some (.isub, 1, [], []) := by decide +kernel
theorem f185_208 : fr 185 208 = some (.ireturn, 1, [], []) := by decide +kernel
theorem t185_0 {X : XX} {d : Nat} {sz sl : Nat} {sh : Nat → Nat × Nat} {R : Nat → Nat → Option Nat} {I : Nat → Nat → Int32} {J : Nat → Nat → Int64} {l1 : Int32} {l2 : Int32} {l3 : Int32} : exe X d 185 0 [Value.ref 37, Value.int l1, Value.int l2, Value.int l3, dm] [] (sz, sl, sh, R, I, J) =
    (if l1 < 0 then exe X d 185 43 [Value.ref 37, Value.int l1, Value.int l2, Value.int l3, dm] [] (sz, sl, sh, R, I, J) else (if (2000) < (l1 / (10000)) then exe X d 185 43 [Value.ref 37, Value.int l1, Value.int l2, Value.int l3, dm] [] (sz, sl, sh, R, I, J) else (if (2000) < (l1 - l1 / (10000) * (10000)) then exe X d 185 43 [Value.ref 37, Value.int l1, Value.int l2, Value.int l3, dm] [] (sz, sl, sh, R, I, J) else (if (l1 - l1 / (10000) * (10000)) < (l1 / (10000)) then exe X d 185 43 [Value.ref 37, Value.int l1, Value.int l2, Value.int l3, dm] [] (sz, sl, sh, R, I, J) else exe X d 185 44 [Value.ref 37, Value.int l1, Value.int l2, Value.int l3, dm] [Value.int (1)] (sz, sl, sh, R, I, J))))) :=
  tq ((E_iload (x := l1) rfl f185_0)) (tq ((E_if_lt f185_1)) (ite_c (rfl) (tq ((E_iload (x := l1) rfl f185_4)) (tq ((E_iconst (x := (10000)) (by decide) f185_5)) (tq ((E_idiv (by decide) f185_8)) (tq ((E_iconst (x := (2000)) (by decide) f185_9)) (tq ((E_ic_gt f185_12)) (ite_c (rfl) (tq ((E_iload (x := l1) rfl f185_15)) (tq ((E_iconst (x := (10000)) (by decide) f185_16)) (tq ((E_irem (by decide) f185_19)) (tq ((E_iconst (x := (2000)) (by decide) f185_20)) (tq ((E_ic_gt f185_23)) (ite_c (rfl) (tq ((E_iload (x := l1) rfl f185_26)) (tq ((E_iconst (x := (10000)) (by decide) f185_27)) (tq ((E_idiv (by decide) f185_30)) (tq ((E_iload (x := l1) rfl f185_31)) (tq ((E_iconst (x := (10000)) (by decide) f185_32)) (tq ((E_irem (by decide) f185_35)) (tq ((E_ic_gt f185_36)) (ite_c (rfl) (tq ((E_iconst (x := (1)) (by decide) f185_39)) ((E_goto f185_40)))))))))))))))))))))))))
theorem t185_43 {X : XX} {d : Nat} {sz sl : Nat} {sh : Nat → Nat × Nat} {R : Nat → Nat → Option Nat} {I : Nat → Nat → Int32} {J : Nat → Nat → Int64} {l1 : Int32} {l2 : Int32} {l3 : Int32} : exe X d 185 43 [Value.ref 37, Value.int l1, Value.int l2, Value.int l3, dm] [] (sz, sl, sh, R, I, J) =
    exe X d 185 44 [Value.ref 37, Value.int l1, Value.int l2, Value.int l3, dm] [Value.int (0)] (sz, sl, sh, R, I, J) :=
  (E_iconst (x := (0)) (by decide) f185_43)
theorem t185_44 {X : XX} {d : Nat} {sz sl : Nat} {sh : Nat → Nat × Nat} {R : Nat → Nat → Option Nat} {I : Nat → Nat → Int32} {J : Nat → Nat → Int64} {l1 : Int32} {l2 : Int32} {l3 : Int32} {s0 : Int32} : exe X d 185 44 [Value.ref 37, Value.int l1, Value.int l2, Value.int l3, dm] [Value.int s0] (sz, sl, sh, R, I, J) =
    (if s0 = 0 then some (some (Value.int (-1)), (sz, sl, sh, R, I, J)) else ((ev X d 148 [Value.int l2, Value.int (0), Value.int (999999)] (sz, sl, sh, R, I, J)).bind fun q => exe X d 185 58 [Value.ref 37, Value.int l1, Value.int l2, Value.int l3, dm] (q.1.toList ++ []) q.2)) :=
  tq ((E_istore rfl f185_44)) (tq ((E_iload (x := s0) rfl f185_46)) (tq ((E_if_eq f185_48)) (ite_c (tq ((E_iconst (x := (-1)) (by decide) f185_80)) ((E_iret pr_185 f185_81))) (tq ((E_iload (x := l2) rfl f185_51)) (tq ((E_iconst (x := (0)) (by decide) f185_52)) (tq ((E_iconst (x := (999999)) (by decide) f185_53)) ((E_callS pn_148 rfl rfl (Nat.le_of_ble_eq_true rfl) (Nat.le_of_ble_eq_true rfl) f185_55))))))))
theorem t185_58 {X : XX} {d : Nat} {sz sl : Nat} {sh : Nat → Nat × Nat} {R : Nat → Nat → Option Nat} {I : Nat → Nat → Int32} {J : Nat → Nat → Int64} {l1 : Int32} {l2 : Int32} {l3 : Int32} {s0 : Int32} : exe X d 185 58 [Value.ref 37, Value.int l1, Value.int l2, Value.int l3, dm] [Value.int s0] (sz, sl, sh, R, I, J) =
    (if s0 = 0 then some (some (Value.int (-1)), (sz, sl, sh, R, I, J)) else ((ev X d 148 [Value.int l3, Value.int (0), Value.int (799)] (sz, sl, sh, R, I, J)).bind fun q => exe X d 185 69 [Value.ref 37, Value.int l1, Value.int l2, Value.int l3, dm] (q.1.toList ++ []) q.2)) :=
  tq ((E_if_eq f185_58)) (ite_c (tq ((E_iconst (x := (-1)) (by decide) f185_80)) ((E_iret pr_185 f185_81))) (tq ((E_iload (x := l3) rfl f185_61)) (tq ((E_iconst (x := (0)) (by decide) f185_62)) (tq ((E_iconst (x := (799)) (by decide) f185_63)) ((E_callS pn_148 rfl rfl (Nat.le_of_ble_eq_true rfl) (Nat.le_of_ble_eq_true rfl) f185_66))))))
theorem t185_69 {X : XX} {d : Nat} {sz sl : Nat} {sh : Nat → Nat × Nat} {R : Nat → Nat → Option Nat} {I : Nat → Nat → Int32} {J : Nat → Nat → Int64} (hS : SF sh R) {l1 : Int32} {l2 : Int32} {l3 : Int32} {s0 : Int32} : exe X d 185 69 [Value.ref 37, Value.int l1, Value.int l2, Value.int l3, dm] [Value.int s0] (sz, sl, sh, R, I, J) =
    (if s0 = 0 then some (some (Value.int (-1)), (sz, sl, sh, R, I, J)) else (if (l3 - l3 / (10) * (10)) ≤ (1) then (if ¬ (I 37 13) = (10) then (if inb (I 37 13) 10 then (if inb (I 37 13) 10 then (if inb (I 37 13) 10 then (if inb (I 37 13) 10 then (if inb (I 37 13) 10 then (if inb (I 37 13) 10 then (if inb (I 37 13) 10 then some (some (Value.int (((I 37 13) + (1)) - (1))), (sz, sl, sh, R, (u2 (u2 (u2 (u2 (u2 (u2 (u2 (u2 I 48 (I 37 13).toNatClampNeg (l1 / (10000))) 49 (I 37 13).toNatClampNeg (l1 - l1 / (10000) * (10000))) 50 (I 37 13).toNatClampNeg (l2 / (1000))) 51 (I 37 13).toNatClampNeg (l2 - l2 / (1000) * (1000))) 52 (I 37 13).toNatClampNeg (l3 / (100))) 53 (I 37 13).toNatClampNeg ((l3 / (10)) - (l3 / (10)) / (10) * (10))) 54 (I 37 13).toNatClampNeg (l3 - l3 / (10) * (10))) 37 13 ((I 37 13) + (1))), J)) else none) else none) else none) else none) else none) else none) else none) else some (some (Value.int (-3)), (sz, sl, sh, R, I, J))) else some (some (Value.int (-1)), (sz, sl, sh, R, I, J)))) :=
  tq ((E_if_eq f185_69)) (ite_c (tq ((E_iconst (x := (-1)) (by decide) f185_80)) ((E_iret pr_185 f185_81))) (tq ((E_iload (x := l3) rfl f185_72)) (tq ((E_iconst (x := (10)) (by decide) f185_73)) (tq ((E_irem (by decide) f185_75)) (tq ((E_iconst (x := (1)) (by decide) f185_76)) (tq ((E_ic_le f185_77)) (ite_c (tq ((E_aload (v := Value.ref 37) rfl rfl f185_82)) (tq (tq ((G11013 f185_83)) (if_pos (zS37 hS))) (tq ((E_iconst (x := (10)) (by decide) f185_86)) (tq ((E_ic_ne f185_88)) (ite_c (tq ((E_aload (v := Value.ref 37) rfl rfl f185_94)) (tq (tq ((G11014 f185_95)) (if_pos (zS37 hS))) (tq (exe_R (zR37_14 hS)) (tq ((E_aload (v := Value.ref 37) rfl rfl f185_98)) (tq (tq ((G11013 f185_99)) (if_pos (zS37 hS))) (tq ((E_iload (x := l1) rfl f185_102)) (tq ((E_iconst (x := (10000)) (by decide) f185_103)) (tq ((E_idiv (by decide) f185_106)) (tq (tq ((E_iast f185_107)) (ite_ar (zS48 hS))) (ite_c (tq ((E_aload (v := Value.ref 37) rfl rfl f185_108)) (tq (tq ((G11015 f185_109)) (if_pos (zS37 hS))) (tq (exe_R (zR37_15 hS)) (tq ((E_aload (v := Value.ref 37) rfl rfl f185_112)) (tq (tq (tq ((G11013 f185_113)) (if_pos (zS37 hS))) (exe_i (u2_pa (by decide)))) (tq ((E_iload (x := l1) rfl f185_116)) (tq ((E_iconst (x := (10000)) (by decide) f185_117)) (tq ((E_irem (by decide) f185_120)) (tq (tq ((E_iast f185_121)) (ite_ar (zS49 hS))) (ite_c (tq ((E_aload (v := Value.ref 37) rfl rfl f185_122)) (tq (tq ((G11016 f185_123)) (if_pos (zS37 hS))) (tq (exe_R (zR37_16 hS)) (tq ((E_aload (v := Value.ref 37) rfl rfl f185_126)) (tq (tq (tq ((G11013 f185_127)) (if_pos (zS37 hS))) (exe_i (tq (u2_pa (by decide)) (u2_pa (by decide))))) (tq ((E_iload (x := l2) rfl f185_130)) (tq ((E_iconst (x := (1000)) (by decide) f185_131)) (tq ((E_idiv (by decide) f185_134)) (tq (tq ((E_iast f185_135)) (ite_ar (zS50 hS))) (ite_c (tq ((E_aload (v := Value.ref 37) rfl rfl f185_136)) (tq (tq ((G11017 f185_137)) (if_pos (zS37 hS))) (tq (exe_R (zR37_17 hS)) (tq ((E_aload (v := Value.ref 37) rfl rfl f185_140)) (tq (tq (tq ((G11013 f185_141)) (if_pos (zS37 hS))) (exe_i (tq (u2_pa (by decide)) (tq (u2_pa (by decide)) (u2_pa (by decide)))))) (tq ((E_iload (x := l2) rfl f185_144)) (tq ((E_iconst (x := (1000)) (by decide) f185_145)) (tq ((E_irem (by decide) f185_148)) (tq (tq ((E_iast f185_149)) (ite_ar (zS51 hS))) (ite_c (tq ((E_aload (v := Value.ref 37) rfl rfl f185_150)) (tq (tq ((G11018 f185_151)) (if_pos (zS37 hS))) (tq (exe_R (zR37_18 hS)) (tq ((E_aload (v := Value.ref 37) rfl rfl f185_154)) (tq (tq (tq ((G11013 f185_155)) (if_pos (zS37 hS))) (exe_i (tq (u2_pa (by decide)) (tq (u2_pa (by decide)) (tq (u2_pa (by decide)) (u2_pa (by decide))))))) (tq ((E_iload (x := l3) rfl f185_158)) (tq ((E_iconst (x := (100)) (by decide) f185_159)) (tq ((E_idiv (by decide) f185_161)) (tq (tq ((E_iast f185_162)) (ite_ar (zS52 hS))) (ite_c (tq ((E_aload (v := Value.ref 37) rfl rfl f185_163)) (tq (tq ((G11019 f185_164)) (if_pos (zS37 hS))) (tq (exe_R (zR37_19 hS)) (tq ((E_aload (v := Value.ref 37) rfl rfl f185_167)) (tq (tq (tq ((G11013 f185_168)) (if_pos (zS37 hS))) (exe_i (tq (u2_pa (by decide)) (tq (u2_pa (by decide)) (tq (u2_pa (by decide)) (tq (u2_pa (by decide)) (u2_pa (by decide)))))))) (tq ((E_iload (x := l3) rfl f185_171)) (tq ((E_iconst (x := (10)) (by decide) f185_172)) (tq ((E_idiv (by decide) f185_174)) (tq ((E_iconst (x := (10)) (by decide) f185_175)) (tq ((E_irem (by decide) f185_177)) (tq (tq ((E_iast f185_178)) (ite_ar (zS53 hS))) (ite_c (tq ((E_aload (v := Value.ref 37) rfl rfl f185_179)) (tq (tq ((G11020 f185_180)) (if_pos (zS37 hS))) (tq (exe_R (zR37_20 hS)) (tq ((E_aload (v := Value.ref 37) rfl rfl f185_183)) (tq (tq (tq ((G11013 f185_184)) (if_pos (zS37 hS))) (exe_i (tq (u2_pa (by decide)) (tq (u2_pa (by decide)) (tq (u2_pa (by decide)) (tq (u2_pa (by decide)) (tq (u2_pa (by decide)) (u2_pa (by decide))))))))) (tq ((E_iload (x := l3) rfl f185_187)) (tq ((E_iconst (x := (10)) (by decide) f185_188)) (tq ((E_irem (by decide) f185_190)) (tq (tq ((E_iast f185_191)) (ite_ar (zS54 hS))) (ite_c (tq ((E_aload (v := Value.ref 37) rfl rfl f185_192)) (tq ((E_dup rfl f185_193)) (tq (tq (tq ((G11013 f185_194)) (if_pos (zS37 hS))) (exe_i (tq (u2_pa (by decide)) (tq (u2_pa (by decide)) (tq (u2_pa (by decide)) (tq (u2_pa (by decide)) (tq (u2_pa (by decide)) (tq (u2_pa (by decide)) (u2_pa (by decide)))))))))) (tq ((E_iconst (x := (1)) (by decide) f185_197)) (tq ((E_iadd f185_198)) (tq (tq ((P11013 f185_199)) (if_pos (zS37 hS))) (tq ((E_aload (v := Value.ref 37) rfl rfl f185_202)) (tq (tq (tq ((G11013 f185_203)) (if_pos (zS37 hS))) (exe_i (u2_at0))) (tq ((E_iconst (x := (1)) (by decide) f185_206)) (tq ((E_isub f185_207)) ((E_iret pr_185 f185_208)))))))))))) rfl)))))))))) rfl)))))))))))) rfl)))))))))) rfl)))))))))) rfl)))))))))) rfl)))))))))) rfl)))))))))) (tq ((E_iconst (x := (-3)) (by decide) f185_91)) ((E_iret pr_185 f185_93)))))))) (tq ((E_iconst (x := (-1)) (by decide) f185_80)) ((E_iret pr_185 f185_81))))))))))
theorem n185 {X : XX} {d : Nat} {h : HP} {a0 : Int32} {a1 : Int32} {a2 : Int32} : ev X (d + 1) 185 [Value.ref 37, Value.int a0, Value.int a1, Value.int a2] h = exe X d 185 0 [Value.ref 37, Value.int a0, Value.int a1, Value.int a2, dm] [] h := ev_exe (Nat.le_of_ble_eq_true rfl)
theorem f186_0 : fr 186 0 = some (.aload 0, 1, [], []) := by decide +kernel
theorem f186_1 : fr 186 1 = some (.iload 1, 1, [], []) := by decide +kernel
theorem f186_2 : fr 186 2 = some (.invokevirtual 179, 3, [], []) := by decide +kernel
theorem f186_5 : fr 186 5 = some (.ifCond .eq 44, 3, [], [0, 1, 2, 3]) := by decide +kernel
theorem f186_8 : fr 186 8 = some (.aload 0, 1, [], []) := by decide +kernel
theorem f186_9 : fr 186 9 = some (.iload 2, 1, [], []) := by decide +kernel
theorem f186_10 : fr 186 10 = some (.invokevirtual 154, 3, [], []) := by decide +kernel
theorem f186_13 : fr 186 13 = some (.ifCond .eq 44, 3, [], [0, 1, 2, 3]) := by decide +kernel
theorem f186_16 : fr 186 16 = some (.aload 0, 1, [], []) := by decide +kernel
theorem f186_17 : fr 186 17 = some (.iload 3, 1, [], []) := by decide +kernel
theorem f186_18 : fr 186 18 = some (.invokevirtual 187, 3, [], []) := by decide +kernel
theorem f186_21 : fr 186 21 = some (.ifCond .eq 44, 3, [], [0, 1, 2, 3]) := by decide +kernel
theorem f186_24 : fr 186 24 = some (.aload 0, 1, [0], []) := by decide +kernel
theorem f186_25 : fr 186 25 = some (.iload 1, 1, [1], []) := by decide +kernel
theorem f186_26 : fr 186 26 = some (.iload 2, 1, [], []) := by decide +kernel
theorem f186_27 : fr 186 27 = some (.iconst 10, 2, [], []) := by decide +kernel
theorem f186_29 : fr 186 29 = some (.idiv, 1, [], []) := by decide +kernel
theorem f186_30 : fr 186 30 = some (.iload 2, 1, [2], []) := by decide +kernel
theorem f186_31 : fr 186 31 = some (.iconst 10, 2, [], []) := by decide +kernel
theorem f186_33 : fr 186 33 = some (.irem, 1, [], []) := by decide +kernel
theorem f186_34 : fr 186 34 = some (.iload 3, 1, [3], []) := by decide +kernel
theorem f186_35 : fr 186 35 = some (.invokevirtual 188, 3, [], []) := by decide +kernel
theorem f186_38 : fr 186 38 = some (.invokestatic 190, 3, [], []) := by decide +kernel
theorem f186_41 : fr 186 41 = some (.goto 45, 3, [], []) := by decide +kernel
theorem f186_44 : fr 186 44 = some (.iconst (-1), 1, [], []) := by decide +kernel
theorem f186_45 : fr 186 45 = some (.ireturn, 1, [], []) := by decide +kernel
theorem t186_0 {X : XX} {d : Nat} {sz sl : Nat} {sh : Nat → Nat × Nat} {R : Nat → Nat → Option Nat} {I : Nat → Nat → Int32} {J : Nat → Nat → Int64} (hS : SF sh R) {l1 : Int32} {l2 : Int32} {l3 : Int32} : exe X d 186 0 [Value.ref 37, Value.int l1, Value.int l2, Value.int l3] [] (sz, sl, sh, R, I, J) =
    ((ev X d 179 [Value.ref 37, Value.int l1] (sz, sl, sh, R, I, J)).bind fun q => exe X d 186 5 [Value.ref 37, Value.int l1, Value.int l2, Value.int l3] (q.1.toList ++ []) q.2) :=
  tq ((E_aload (v := Value.ref 37) rfl rfl f186_0)) (tq ((E_iload (x := l1) rfl f186_1)) ((tq ((E_callV pn_179 pc_179 rfl rfl (Nat.le_of_ble_eq_true rfl) f186_2)) (if_pos (zS37 hS)))))
theorem t186_5 {X : XX} {d : Nat} {sz sl : Nat} {sh : Nat → Nat × Nat} {R : Nat → Nat → Option Nat} {I : Nat → Nat → Int32} {J : Nat → Nat → Int64} (hS : SF sh R) {l1 : Int32} {l2 : Int32} {l3 : Int32} {s0 : Int32} : exe X d 186 5 [Value.ref 37, Value.int l1, Value.int l2, Value.int l3] [Value.int s0] (sz, sl, sh, R, I, J) =
    (if s0 = 0 then some (some (Value.int (-1)), (sz, sl, sh, R, I, J)) else ((ev X d 154 [Value.ref 37, Value.int l2] (sz, sl, sh, R, I, J)).bind fun q => exe X d 186 13 [Value.ref 37, Value.int l1, Value.int l2, Value.int l3] (q.1.toList ++ []) q.2)) :=
  tq ((E_if_eq f186_5)) (ite_c (tq ((E_iconst (x := (-1)) (by decide) f186_44)) ((E_iret pr_186 f186_45))) (tq ((E_aload (v := Value.ref 37) rfl rfl f186_8)) (tq ((E_iload (x := l2) rfl f186_9)) ((tq ((E_callV pn_154 pc_154 rfl rfl (Nat.le_of_ble_eq_true rfl) f186_10)) (if_pos (zS37 hS)))))))
theorem t186_13 {X : XX} {d : Nat} {sz sl : Nat} {sh : Nat → Nat × Nat} {R : Nat → Nat → Option Nat} {I : Nat → Nat → Int32} {J : Nat → Nat → Int64} (hS : SF sh R) {l1 : Int32} {l2 : Int32} {l3 : Int32} {s0 : Int32} : exe X d 186 13 [Value.ref 37, Value.int l1, Value.int l2, Value.int l3] [Value.int s0] (sz, sl, sh, R, I, J) =
    (if s0 = 0 then some (some (Value.int (-1)), (sz, sl, sh, R, I, J)) else ((ev X d 187 [Value.ref 37, Value.int l3] (sz, sl, sh, R, I, J)).bind fun q => exe X d 186 21 [Value.ref 37, Value.int l1, Value.int l2, Value.int l3] (q.1.toList ++ []) q.2)) :=
  tq ((E_if_eq f186_13)) (ite_c (tq ((E_iconst (x := (-1)) (by decide) f186_44)) ((E_iret pr_186 f186_45))) (tq ((E_aload (v := Value.ref 37) rfl rfl f186_16)) (tq ((E_iload (x := l3) rfl f186_17)) ((tq ((E_callV pn_187 pc_187 rfl rfl (Nat.le_of_ble_eq_true rfl) f186_18)) (if_pos (zS37 hS)))))))
theorem t186_21 {X : XX} {d : Nat} {sz sl : Nat} {sh : Nat → Nat × Nat} {R : Nat → Nat → Option Nat} {I : Nat → Nat → Int32} {J : Nat → Nat → Int64} (hS : SF sh R) {l1 : Int32} {l2 : Int32} {l3 : Int32} {s0 : Int32} : exe X d 186 21 [Value.ref 37, Value.int l1, Value.int l2, Value.int l3] [Value.int s0] (sz, sl, sh, R, I, J) =
    (if s0 = 0 then some (some (Value.int (-1)), (sz, sl, sh, R, I, J)) else ((ev X d 188 [Value.ref 37, Value.int l1, Value.int (l2 / (10)), Value.int (l2 - l2 / (10) * (10)), Value.int l3] (sz, sl, sh, R, I, J)).bind fun q => exe X d 186 38 [dm, dm, dm, dm] (q.1.toList ++ []) q.2)) :=
  tq ((E_if_eq f186_21)) (ite_c (tq ((E_iconst (x := (-1)) (by decide) f186_44)) ((E_iret pr_186 f186_45))) (tq ((E_aload (v := Value.ref 37) rfl rfl f186_24)) (tq ((E_iload (x := l1) rfl f186_25)) (tq ((E_iload (x := l2) rfl f186_26)) (tq ((E_iconst (x := (10)) (by decide) f186_27)) (tq ((E_idiv (by decide) f186_29)) (tq ((E_iload (x := l2) rfl f186_30)) (tq ((E_iconst (x := (10)) (by decide) f186_31)) (tq ((E_irem (by decide) f186_33)) (tq ((E_iload (x := l3) rfl f186_34)) ((tq ((E_callV pn_188 pc_188 rfl rfl (Nat.le_of_ble_eq_true rfl) f186_35)) (if_pos (zS37 hS))))))))))))))
theorem t186_38 {X : XX} {d : Nat} {sz sl : Nat} {sh : Nat → Nat × Nat} {R : Nat → Nat → Option Nat} {I : Nat → Nat → Int32} {J : Nat → Nat → Int64} {s0 : Int64} : exe X d 186 38 [dm, dm, dm, dm] [Value.long s0] (sz, sl, sh, R, I, J) =
    ((ev X d 190 [Value.long s0] (sz, sl, sh, R, I, J)).bind fun q => exe X d 186 41 [dm, dm, dm, dm] (q.1.toList ++ []) q.2) :=
  (E_callS pn_190 rfl rfl (Nat.le_of_ble_eq_true rfl) (Nat.le_of_ble_eq_true rfl) f186_38)
theorem t186_41 {X : XX} {d : Nat} {sz sl : Nat} {sh : Nat → Nat × Nat} {R : Nat → Nat → Option Nat} {I : Nat → Nat → Int32} {J : Nat → Nat → Int64} {s0 : Int32} : exe X d 186 41 [dm, dm, dm, dm] [Value.int s0] (sz, sl, sh, R, I, J) =
    some (some (Value.int s0), (sz, sl, sh, R, I, J)) :=
  tq ((E_goto f186_41)) ((E_iret pr_186 f186_45))
theorem n186 {X : XX} {d : Nat} {h : HP} {a0 : Int32} {a1 : Int32} {a2 : Int32} : ev X (d + 1) 186 [Value.ref 37, Value.int a0, Value.int a1, Value.int a2] h = exe X d 186 0 [Value.ref 37, Value.int a0, Value.int a1, Value.int a2] [] h := ev_exe (Nat.le_of_ble_eq_true rfl)
theorem f187_0 : fr 187 0 = some (.iload 1, 1, [1], []) := by decide +kernel
theorem f187_1 : fr 187 1 = some (.iconst 0, 1, [], []) := by decide +kernel
theorem f187_2 : fr 187 2 = some (.iconst 1, 1, [], []) := by decide +kernel
theorem f187_3 : fr 187 3 = some (.aload 0, 1, [0], []) := by decide +kernel
theorem f187_4 : fr 187 4 = some (.getfield 11013, 3, [], []) := by decide +kernel
theorem f187_7 : fr 187 7 = some (.ishl, 1, [], []) := by decide +kernel
theorem f187_8 : fr 187 8 = some (.iconst 1, 1, [], []) := by decide +kernel
theorem f187_9 : fr 187 9 = some (.isub, 1, [], []) := by decide +kernel
theorem f187_10 : fr 187 10 = some (.invokestatic 148, 3, [], []) := by decide +kernel
theorem f187_13 : fr 187 13 = some (.ireturn, 1, [], []) := by decide +kernel
theorem t187_0 {X : XX} {d : Nat} {sz sl : Nat} {sh : Nat → Nat × Nat} {R : Nat → Nat → Option Nat} {I : Nat → Nat → Int32} {J : Nat → Nat → Int64} (hS : SF sh R) {l1 : Int32} : exe X d 187 0 [Value.ref 37, Value.int l1] [] (sz, sl, sh, R, I, J) =
    ((ev X d 148 [Value.int l1, Value.int (0), Value.int (((1) <<< ((I 37 13) &&& 31)) - (1))] (sz, sl, sh, R, I, J)).bind fun q => exe X d 187 13 [dm, dm] (q.1.toList ++ []) q.2) :=
  tq ((E_iload (x := l1) rfl f187_0)) (tq ((E_iconst (x := (0)) (by decide) f187_1)) (tq ((E_iconst (x := (1)) (by decide) f187_2)) (tq ((E_aload (v := Value.ref 37) rfl rfl f187_3)) (tq (tq ((G11013 f187_4)) (if_pos (zS37 hS))) (tq ((E_ishl f187_7)) (tq ((E_iconst (x := (1)) (by decide) f187_8)) (tq ((E_isub f187_9)) ((E_callS pn_148 rfl rfl (Nat.le_of_ble_eq_true rfl) (Nat.le_of_ble_eq_true rfl) f187_10)))))))))
theorem t187_13 {X : XX} {d : Nat} {sz sl : Nat} {sh : Nat → Nat × Nat} {R : Nat → Nat → Option Nat} {I : Nat → Nat → Int32} {J : Nat → Nat → Int64} {s0 : Int32} : exe X d 187 13 [dm, dm] [Value.int s0] (sz, sl, sh, R, I, J) =
    (if s0 = 0 ∨ s0 = 1 then some (some (Value.int s0), (sz, sl, sh, R, I, J)) else none) :=
  (E_zret pr_187 f187_13)
theorem n187 {X : XX} {d : Nat} {h : HP} {a0 : Int32} : ev X (d + 1) 187 [Value.ref 37, Value.int a0] h = exe X d 187 0 [Value.ref 37, Value.int a0] [] h := ev_exe (Nat.le_of_ble_eq_true rfl)
theorem f188_0 : fr 188 0 = some (.jsr_w 0, 1, [], []) := by decide +kernel
theorem f188_1 : fr 188 1 = some (.lstore 5, 2, [], []) := by decide +kernel
theorem f188_3 : fr 188 3 = some (.iconst 0, 1, [], []) := by decide +kernel
theorem f188_4 : fr 188 4 = some (.istore 7, 2, [], []) := by decide +kernel
theorem f188_6 : fr 188 6 = some (.iload 7, 2, [], []) := by decide +kernel
theorem f188_8 : fr 188 8 = some (.aload 0, 1, [], []) := by decide +kernel
theorem f188_9 : fr 188 9 = some (.getfield 11013, 3, [], []) := by decide +kernel
theorem f188_12 : fr 188 12 = some (.if_icmp .ge 50, 3, [], [0, 1, 2, 3, 4, 7]) := by decide +kernel
theorem f188_15 : fr 188 15 = some (.lload 5, 2, [5], []) := by decide +kernel
theorem f188_17 : fr 188 17 = some (.iload 4, 2, [], []) := by decide +kernel
theorem f188_19 : fr 188 19 = some (.iload 7, 2, [], []) := by decide +kernel
theorem f188_21 : fr 188 21 = some (.ishr, 1, [], []) := by decide +kernel
theorem f188_22 : fr 188 22 = some (.iconst 1, 1, [], []) := by decide +kernel
theorem f188_23 : fr 188 23 = some (.iand, 1, [], []) := by decide +kernel
theorem f188_24 : fr 188 24 = some (.iconst 1, 1, [], []) := by decide +kernel
theorem f188_25 : fr 188 25 = some (.if_icmp .ne 40, 3, [], []) := by decide +kernel
theorem f188_28 : fr 188 28 = some (.aload 0, 1, [], []) := by decide +kernel
theorem f188_29 : fr 188 29 = some (.iload 1, 1, [], []) := by decide +kernel
theorem f188_30 : fr 188 30 = some (.iload 2, 1, [], []) := by decide +kernel
theorem f188_31 : fr 188 31 = some (.iload 3, 1, [], []) := by decide +kernel
theorem f188_32 : fr 188 32 = some (.iload 7, 2, [], []) := by decide +kernel
theorem f188_34 : fr 188 34 = some (.invokevirtual 189, 3, [], []) := by decide +kernel
theorem f188_37 : fr 188 37 = some (.goto 41, 3, [], []) := by decide +kernel
theorem f188_40 : fr 188 40 = some (.jsr_w 0, 1, [], []) := by decide +kernel
theorem f188_41 : fr 188 41 = some (.ladd, 1, [], []) := by decide +kernel
theorem f188_42 : fr 188 42 = some (.lstore 5, 2, [], []) := by decide +kernel
theorem f188_44 : fr 188 44 = some (.iinc 7 1, 3, [], []) := by decide +kernel
theorem f188_47 : fr 188 47 = some (.goto 6, 3, [], []) := by decide +kernel
theorem f188_50 : fr 188 50 = some (.lload 5, 2, [5], []) := by decide +kernel
theorem f188_52 : fr 188 52 = some (.lreturn, 1, [], []) := by decide +kernel
theorem t188_0 {X : XX} {d : Nat} {sz sl : Nat} {sh : Nat → Nat × Nat} {R : Nat → Nat → Option Nat} {I : Nat → Nat → Int32} {J : Nat → Nat → Int64} {l1 : Int32} {l2 : Int32} {l3 : Int32} {l4 : Int32} : exe X d 188 0 [Value.ref 37, Value.int l1, Value.int l2, Value.int l3, Value.int l4, dm, dm, dm] [] (sz, sl, sh, R, I, J) =
    exe X d 188 6 [Value.ref 37, Value.int l1, Value.int l2, Value.int l3, Value.int l4, Value.long (0), dm, Value.int (0)] [] (sz, sl, sh, R, I, J) :=
  tq ((E_lconst (x := (0)) (by decide) f188_0)) (tq ((E_lstore rfl (Nat.le_of_ble_eq_true rfl) f188_1)) (tq ((E_iconst (x := (0)) (by decide) f188_3)) ((E_istore rfl f188_4))))
theorem t188_6 {X : XX} {d : Nat} {sz sl : Nat} {sh : Nat → Nat × Nat} {R : Nat → Nat → Option Nat} {I : Nat → Nat → Int32} {J : Nat → Nat → Int64} (hS : SF sh R) {l1 : Int32} {l2 : Int32} {l3 : Int32} {l4 : Int32} {l5 : Int64} {l7 : Int32} : exe X d 188 6 [Value.ref 37, Value.int l1, Value.int l2, Value.int l3, Value.int l4, Value.long l5, dm, Value.int l7] [] (sz, sl, sh, R, I, J) =
    (if (I 37 13) ≤ l7 then some (some (Value.long l5), (sz, sl, sh, R, I, J)) else (if ¬ ((l4 >>> (l7 &&& 31)) &&& (1)) = (1) then exe X d 188 6 [Value.ref 37, Value.int l1, Value.int l2, Value.int l3, Value.int l4, Value.long (l5 + (0)), dm, Value.int (l7 + (1))] [] (sz, sl, sh, R, I, J) else ((ev X d 189 [Value.ref 37, Value.int l1, Value.int l2, Value.int l3, Value.int l7] (sz, sl, sh, R, I, J)).bind fun q => exe X d 188 37 [Value.ref 37, Value.int l1, Value.int l2, Value.int l3, Value.int l4, dm, dm, Value.int l7] (q.1.toList ++ [Value.long l5]) q.2))) :=
  tq ((E_iload (x := l7) rfl f188_6)) (tq ((E_aload (v := Value.ref 37) rfl rfl f188_8)) (tq (tq ((G11013 f188_9)) (if_pos (zS37 hS))) (tq ((E_ic_ge f188_12)) (ite_c (tq ((E_lload (x := l5) rfl f188_50)) ((E_lret pr_188 f188_52))) (tq ((E_lload (x := l5) rfl f188_15)) (tq ((E_iload (x := l4) rfl f188_17)) (tq ((E_iload (x := l7) rfl f188_19)) (tq ((E_ishr f188_21)) (tq ((E_iconst (x := (1)) (by decide) f188_22)) (tq ((E_iand f188_23)) (tq ((E_iconst (x := (1)) (by decide) f188_24)) (tq ((E_ic_ne f188_25)) (ite_c (tq ((E_lconst (x := (0)) (by decide) f188_40)) (tq ((E_ladd f188_41)) (tq ((E_lstore rfl (Nat.le_of_ble_eq_true rfl) f188_42)) (tq ((E_iinc (x := l7) (x' := (1)) rfl rfl (by decide) f188_44)) ((E_goto f188_47)))))) (tq ((E_aload (v := Value.ref 37) rfl rfl f188_28)) (tq ((E_iload (x := l1) rfl f188_29)) (tq ((E_iload (x := l2) rfl f188_30)) (tq ((E_iload (x := l3) rfl f188_31)) (tq ((E_iload (x := l7) rfl f188_32)) ((tq ((E_callV pn_189 pc_189 rfl rfl (Nat.le_of_ble_eq_true rfl) f188_34)) (if_pos (zS37 hS))))))))))))))))))))))
theorem t188_37 {X : XX} {d : Nat} {sz sl : Nat} {sh : Nat → Nat × Nat} {R : Nat → Nat → Option Nat} {I : Nat → Nat → Int32} {J : Nat → Nat → Int64} {l1 : Int32} {l2 : Int32} {l3 : Int32} {l4 : Int32} {l7 : Int32} {s0 : Int64} {s1 : Int64} : exe X d 188 37 [Value.ref 37, Value.int l1, Value.int l2, Value.int l3, Value.int l4, dm, dm, Value.int l7] [Value.long s0, Value.long s1] (sz, sl, sh, R, I, J) =
    exe X d 188 6 [Value.ref 37, Value.int l1, Value.int l2, Value.int l3, Value.int l4, Value.long (s1 + s0), dm, Value.int (l7 + (1))] [] (sz, sl, sh, R, I, J) :=
  tq ((E_goto f188_37)) (tq ((E_ladd f188_41)) (tq ((E_lstore rfl (Nat.le_of_ble_eq_true rfl) f188_42)) (tq ((E_iinc (x := l7) (x' := (1)) rfl rfl (by decide) f188_44)) ((E_goto f188_47)))))
theorem n188 {X : XX} {d : Nat} {h : HP} {a0 : Int32} {a1 : Int32} {a2 : Int32} {a3 : Int32} : ev X (d + 1) 188 [Value.ref 37, Value.int a0, Value.int a1, Value.int a2, Value.int a3] h = exe X d 188 0 [Value.ref 37, Value.int a0, Value.int a1, Value.int a2, Value.int a3, dm, dm, dm] [] h := ev_exe (Nat.le_of_ble_eq_true rfl)
theorem f189_0 : fr 189 0 = some (.aload 0, 1, [], []) := by decide +kernel
theorem f189_1 : fr 189 1 = some (.getfield 11015, 3, [], []) := by decide +kernel
theorem f189_4 : fr 189 4 = some (.iload 4, 2, [], []) := by decide +kernel
theorem f189_6 : fr 189 6 = some (.iaload, 1, [], []) := by decide +kernel
theorem f189_7 : fr 189 7 = some (.aload 0, 1, [], []) := by decide +kernel
theorem f189_8 : fr 189 8 = some (.getfield 11014, 3, [], []) := by decide +kernel
theorem f189_11 : fr 189 11 = some (.iload 4, 2, [], []) := by decide +kernel
theorem f189_13 : fr 189 13 = some (.iaload, 1, [], []) := by decide +kernel
theorem f189_14 : fr 189 14 = some (.aload 0, 1, [], []) := by decide +kernel
theorem f189_15 : fr 189 15 = some (.getfield 11003, 3, [], []) := by decide +kernel
theorem f189_18 : fr 189 18 = some (.iload 2, 1, [], []) := by decide +kernel
theorem f189_19 : fr 189 19 = some (.iaload, 1, [], []) := by decide +kernel
theorem f189_20 : fr 189 20 = some (.if_icmp .le 33, 3, [], []) := by decide +kernel
theorem f189_23 : fr 189 23 = some (.aload 0, 1, [], []) := by decide +kernel
theorem f189_24 : fr 189 24 = some (.getfield 11014, 3, [], []) := by decide +kernel
theorem f189_27 : fr 189 27 = some (.iload 4, 2, [], []) := by decide +kernel
theorem f189_29 : fr 189 29 = some (.iaload, 1, [], []) := by decide +kernel
theorem f189_30 : fr 189 30 = some (.goto 39, 3, [], []) := by decide +kernel
theorem f189_33 : fr 189 33 = some (.aload 0, 1, [], []) := by decide +kernel
theorem f189_34 : fr 189 34 = some (.getfield 11003, 3, [], []) := by decide +kernel
theorem f189_37 : fr 189 37 = some (.iload 2, 1, [], []) := by decide +kernel
theorem f189_38 : fr 189 38 = some (.iaload, 1, [], []) := by decide +kernel
theorem f189_39 : fr 189 39 = some (.isub, 1, [], []) := by decide +kernel
theorem f189_40 : fr 189 40 = some (.i2l, 1, [], []) := by decide +kernel
theorem f189_41 : fr 189 41 = some (.lstore 5, 2, [], []) := by decide +kernel
theorem f189_43 : fr 189 43 = some (.lload 5, 2, [], []) := by decide +kernel
theorem f189_45 : fr 189 45 = some (.jsr_w 0, 1, [], []) := by decide +kernel
theorem f189_46 : fr 189 46 = some (.lcmp, 1, [], []) := by decide +kernel
theorem f189_47 : fr 189 47 = some (.ifCond .gt 52, 3, [0, 1, 2, 3, 4, 5], []) := by decide +kernel
theorem f189_50 : fr 189 50 = some (.jsr_w 0, 1, [], []) := by decide +kernel
theorem f189_51 : fr 189 51 = some (.lreturn, 1, [], []) := by decide +kernel
theorem f189_52 : fr 189 52 = some (.aload 0, 1, [], []) := by decide +kernel
theorem f189_53 : fr 189 53 = some (.iload 1, 1, [], []) := by decide +kernel
theorem f189_54 : fr 189 54 = some (.iload 2, 1, [], []) := by decide +kernel
theorem f189_55 : fr 189 55 = some (.iload 3, 1, [], []) := by decide +kernel
theorem f189_56 : fr 189 56 = some (.aload 0, 1, [], []) := by decide +kernel
theorem f189_57 : fr 189 57 = some (.getfield 11018, 3, [], []) := by decide +kernel
theorem f189_60 : fr 189 60 = some (.iload 4, 2, [], []) := by decide +kernel
theorem f189_62 : fr 189 62 = some (.iaload, 1, [], []) := by decide +kernel
theorem f189_63 : fr 189 63 = some (.iconst 0, 1, [], []) := by decide +kernel
theorem f189_64 : fr 189 64 = some (.aload 0, 1, [], []) := by decide +kernel
theorem f189_65 : fr 189 65 = some (.getfield 11019, 3, [], []) := by decide +kernel
theorem f189_68 : fr 189 68 = some (.iload 4, 2, [], []) := by decide +kernel
theorem f189_70 : fr 189 70 = some (.iaload, 1, [], []) := by decide +kernel
theorem f189_71 : fr 189 71 = some (.aload 0, 1, [], []) := by decide +kernel
theorem f189_72 : fr 189 72 = some (.getfield 11020, 3, [], []) := by decide +kernel
theorem f189_75 : fr 189 75 = some (.iload 4, 2, [], []) := by decide +kernel
theorem f189_77 : fr 189 77 = some (.iaload, 1, [], []) := by decide +kernel
theorem f189_78 : fr 189 78 = some (.invokevirtual 180, 3, [], []) := by decide +kernel
theorem f189_81 : fr 189 81 = some (.i2l, 1, [], []) := by decide +kernel
theorem f189_82 : fr 189 82 = some (.lstore 7, 2, [], []) := by decide +kernel
theorem f189_84 : fr 189 84 = some (.aload 0, 1, [], []) := by decide +kernel
theorem f189_85 : fr 189 85 = some (.iload 1, 1, [1], []) := by decide +kernel
theorem f189_86 : fr 189 86 = some (.iload 2, 1, [2], []) := by decide +kernel
theorem f189_87 : fr 189 87 = some (.iload 3, 1, [3], []) := by decide +kernel
theorem f189_88 : fr 189 88 = some (.aload 0, 1, [], []) := by decide +kernel
theorem f189_89 : fr 189 89 = some (.getfield 11018, 3, [], []) := by decide +kernel
theorem f189_92 : fr 189 92 = some (.iload 4, 2, [], []) := by decide +kernel
theorem f189_94 : fr 189 94 = some (.iaload, 1, [], []) := by decide +kernel
theorem f189_95 : fr 189 95 = some (.iconst 1, 1, [], []) := by decide +kernel
theorem f189_96 : fr 189 96 = some (.aload 0, 1, [], []) := by decide +kernel
theorem f189_97 : fr 189 97 = some (.getfield 11019, 3, [], []) := by decide +kernel
theorem f189_100 : fr 189 100 = some (.iload 4, 2, [], []) := by decide +kernel
theorem f189_102 : fr 189 102 = some (.iaload, 1, [], []) := by decide +kernel
theorem f189_103 : fr 189 103 = some (.aload 0, 1, [], []) := by decide +kernel
theorem f189_104 : fr 189 104 = some (.getfield 11020, 3, [], []) := by decide +kernel
theorem f189_107 : fr 189 107 = some (.iload 4, 2, [], []) := by decide +kernel
theorem f189_109 : fr 189 109 = some (.iaload, 1, [], []) := by decide +kernel
theorem f189_110 : fr 189 110 = some (.invokevirtual 180, 3, [], []) := by decide +kernel
theorem f189_113 : fr 189 113 = some (.i2l, 1, [], []) := by decide +kernel
theorem f189_114 : fr 189 114 = some (.lstore 9, 2, [], []) := by decide +kernel
theorem f189_116 : fr 189 116 = some (.lload 5, 2, [5], []) := by decide +kernel
theorem f189_118 : fr 189 118 = some (.aload 0, 1, [], []) := by decide +kernel
theorem f189_119 : fr 189 119 = some (.getfield 11016, 3, [], []) := by decide +kernel
theorem f189_122 : fr 189 122 = some (.iload 4, 2, [], []) := by decide +kernel
theorem f189_124 : fr 189 124 = some (.iaload, 1, [], []) := by decide +kernel
theorem f189_125 : fr 189 125 = some (.i2l, 1, [], []) := by decide +kernel
theorem f189_126 : fr 189 126 = some (.lload 7, 2, [7], []) := by decide +kernel
theorem f189_128 : fr 189 128 = some (.lmul, 1, [], []) := by decide +kernel
theorem f189_129 : fr 189 129 = some (.aload 0, 1, [0], []) := by decide +kernel
theorem f189_130 : fr 189 130 = some (.getfield 11017, 3, [], []) := by decide +kernel
theorem f189_133 : fr 189 133 = some (.iload 4, 2, [4], []) := by decide +kernel
theorem f189_135 : fr 189 135 = some (.iaload, 1, [], []) := by decide +kernel
theorem f189_136 : fr 189 136 = some (.i2l, 1, [], []) := by decide +kernel
theorem f189_137 : fr 189 137 = some (.lload 9, 2, [9], []) := by decide +kernel
theorem f189_139 : fr 189 139 = some (.lmul, 1, [], []) := by decide +kernel
theorem f189_140 : fr 189 140 = some (.ladd, 1, [], []) := by decide +kernel
theorem f189_141 : fr 189 141 = some (.lmul, 1, [], []) := by decide +kernel
theorem f189_142 : fr 189 142 = some (.jsr_w 300, 3, [], []) := by decide +kernel
theorem f189_145 : fr 189 145 = some (.lmul, 1, [], []) := by decide +kernel
theorem f189_146 : fr 189 146 = some (.jsr_w 1000, 3, [], []) := by decide +kernel
theorem f189_149 : fr 189 149 = some (.ldiv, 1, [], []) := by decide +kernel
theorem f189_150 : fr 189 150 = some (.lreturn, 1, [], []) := by decide +kernel
theorem t189_0 {X : XX} {d : Nat} {sz sl : Nat} {sh : Nat → Nat × Nat} {R : Nat → Nat → Option Nat} {I : Nat → Nat → Int32} {J : Nat → Nat → Int64} (hS : SF sh R) {l1 : Int32} {l2 : Int32} {l3 : Int32} {l4 : Int32} : exe X d 189 0 [Value.ref 37, Value.int l1, Value.int l2, Value.int l3, Value.int l4, dm, dm, dm, dm, dm, dm] [] (sz, sl, sh, R, I, J) =
    (if inb l4 10 then (if inb l4 10 then (if inb l2 40 then (if (I 48 l4.toNatClampNeg) ≤ (I 40 l2.toNatClampNeg) then (if inb l2 40 then exe X d 189 39 [Value.ref 37, Value.int l1, Value.int l2, Value.int l3, Value.int l4, dm, dm, dm, dm, dm, dm] [Value.int (I 40 l2.toNatClampNeg), Value.int (I 49 l4.toNatClampNeg)] (sz, sl, sh, R, I, J) else none) else (if inb l4 10 then exe X d 189 39 [Value.ref 37, Value.int l1, Value.int l2, Value.int l3, Value.int l4, dm, dm, dm, dm, dm, dm] [Value.int (I 48 l4.toNatClampNeg), Value.int (I 49 l4.toNatClampNeg)] (sz, sl, sh, R, I, J) else none)) else none) else none) else none) :=
  tq ((E_aload (v := Value.ref 37) rfl rfl f189_0)) (tq (tq ((G11015 f189_1)) (if_pos (zS37 hS))) (tq (exe_R (zR37_15 hS)) (tq ((E_iload (x := l4) rfl f189_4)) (tq (tq ((E_iald f189_6)) (ite_ar (zS49 hS))) (ite_c (tq ((E_aload (v := Value.ref 37) rfl rfl f189_7)) (tq (tq ((G11014 f189_8)) (if_pos (zS37 hS))) (tq (exe_R (zR37_14 hS)) (tq ((E_iload (x := l4) rfl f189_11)) (tq (tq ((E_iald f189_13)) (ite_ar (zS48 hS))) (ite_c (tq ((E_aload (v := Value.ref 37) rfl rfl f189_14)) (tq (tq ((G11003 f189_15)) (if_pos (zS37 hS))) (tq (exe_R (zR37_3 hS)) (tq ((E_iload (x := l2) rfl f189_18)) (tq (tq ((E_iald f189_19)) (ite_ar (zS40 hS))) (ite_c (tq ((E_ic_le f189_20)) (ite_c (tq ((E_aload (v := Value.ref 37) rfl rfl f189_33)) (tq (tq ((G11003 f189_34)) (if_pos (zS37 hS))) (tq (exe_R (zR37_3 hS)) (tq ((E_iload (x := l2) rfl f189_37)) (tq (tq ((E_iald f189_38)) (ite_ar (zS40 hS))) (ite_c (rfl) rfl)))))) (tq ((E_aload (v := Value.ref 37) rfl rfl f189_23)) (tq (tq ((G11014 f189_24)) (if_pos (zS37 hS))) (tq (exe_R (zR37_14 hS)) (tq ((E_iload (x := l4) rfl f189_27)) (tq (tq ((E_iald f189_29)) (ite_ar (zS48 hS))) (ite_c ((E_goto f189_30)) rfl)))))))) rfl)))))) rfl)))))) rfl)))))
theorem t189_39 {X : XX} {d : Nat} {sz sl : Nat} {sh : Nat → Nat × Nat} {R : Nat → Nat → Option Nat} {I : Nat → Nat → Int32} {J : Nat → Nat → Int64} (hS : SF sh R) {l1 : Int32} {l2 : Int32} {l3 : Int32} {l4 : Int32} {s0 : Int32} {s1 : Int32} : exe X d 189 39 [Value.ref 37, Value.int l1, Value.int l2, Value.int l3, Value.int l4, dm, dm, dm, dm, dm, dm] [Value.int s0, Value.int s1] (sz, sl, sh, R, I, J) =
    (if 0 < (lg_cmp (Int32.toInt64 (s1 - s0)) (0)) then (if inb l4 10 then (if inb l4 10 then (if inb l4 10 then ((ev X d 180 [Value.ref 37, Value.int l1, Value.int l2, Value.int l3, Value.int (I 52 l4.toNatClampNeg), Value.int (0), Value.int (I 53 l4.toNatClampNeg), Value.int (I 54 l4.toNatClampNeg)] (sz, sl, sh, R, I, J)).bind fun q => exe X d 189 81 [Value.ref 37, Value.int l1, Value.int l2, Value.int l3, Value.int l4, Value.long (Int32.toInt64 (s1 - s0)), dm, dm, dm, dm, dm] (q.1.toList ++ []) q.2) else none) else none) else none) else some (some (Value.long (0)), (sz, sl, sh, R, I, J))) :=
  tq ((E_isub f189_39)) (tq ((E_i2l f189_40)) (tq ((E_lstore rfl (Nat.le_of_ble_eq_true rfl) f189_41)) (tq ((E_lload (x := (Int32.toInt64 (s1 - s0))) rfl f189_43)) (tq ((E_lconst (x := (0)) (by decide) f189_45)) (tq ((E_lcmp f189_46)) (tq ((E_if_gt f189_47)) (ite_c (tq ((E_aload (v := Value.ref 37) rfl rfl f189_52)) (tq ((E_iload (x := l1) rfl f189_53)) (tq ((E_iload (x := l2) rfl f189_54)) (tq ((E_iload (x := l3) rfl f189_55)) (tq ((E_aload (v := Value.ref 37) rfl rfl f189_56)) (tq (tq ((G11018 f189_57)) (if_pos (zS37 hS))) (tq (exe_R (zR37_18 hS)) (tq ((E_iload (x := l4) rfl f189_60)) (tq (tq ((E_iald f189_62)) (ite_ar (zS52 hS))) (ite_c (tq ((E_iconst (x := (0)) (by decide) f189_63)) (tq ((E_aload (v := Value.ref 37) rfl rfl f189_64)) (tq (tq ((G11019 f189_65)) (if_pos (zS37 hS))) (tq (exe_R (zR37_19 hS)) (tq ((E_iload (x := l4) rfl f189_68)) (tq (tq ((E_iald f189_70)) (ite_ar (zS53 hS))) (ite_c (tq ((E_aload (v := Value.ref 37) rfl rfl f189_71)) (tq (tq ((G11020 f189_72)) (if_pos (zS37 hS))) (tq (exe_R (zR37_20 hS)) (tq ((E_iload (x := l4) rfl f189_75)) (tq (tq ((E_iald f189_77)) (ite_ar (zS54 hS))) (ite_c ((tq ((E_callV pn_180 pc_180 rfl rfl (Nat.le_of_ble_eq_true rfl) f189_78)) (if_pos (zS37 hS)))) rfl)))))) rfl))))))) rfl)))))))))) (tq ((E_lconst (x := (0)) (by decide) f189_50)) ((E_lret pr_189 f189_51))))))))))
theorem t189_81 {X : XX} {d : Nat} {sz sl : Nat} {sh : Nat → Nat × Nat} {R : Nat → Nat → Option Nat} {I : Nat → Nat → Int32} {J : Nat → Nat → Int64} (hS : SF sh R) {l1 : Int32} {l2 : Int32} {l3 : Int32} {l4 : Int32} {l5 : Int64} {s0 : Int32} : exe X d 189 81 [Value.ref 37, Value.int l1, Value.int l2, Value.int l3, Value.int l4, Value.long l5, dm, dm, dm, dm, dm] [Value.int s0] (sz, sl, sh, R, I, J) =
    (if inb l4 10 then (if inb l4 10 then (if inb l4 10 then ((ev X d 180 [Value.ref 37, Value.int l1, Value.int l2, Value.int l3, Value.int (I 52 l4.toNatClampNeg), Value.int (1), Value.int (I 53 l4.toNatClampNeg), Value.int (I 54 l4.toNatClampNeg)] (sz, sl, sh, R, I, J)).bind fun q => exe X d 189 113 [Value.ref 37, dm, dm, dm, Value.int l4, Value.long l5, dm, Value.long (Int32.toInt64 s0), dm, dm, dm] (q.1.toList ++ []) q.2) else none) else none) else none) :=
  tq ((E_i2l f189_81)) (tq ((E_lstore rfl (Nat.le_of_ble_eq_true rfl) f189_82)) (tq ((E_aload (v := Value.ref 37) rfl rfl f189_84)) (tq ((E_iload (x := l1) rfl f189_85)) (tq ((E_iload (x := l2) rfl f189_86)) (tq ((E_iload (x := l3) rfl f189_87)) (tq ((E_aload (v := Value.ref 37) rfl rfl f189_88)) (tq (tq ((G11018 f189_89)) (if_pos (zS37 hS))) (tq (exe_R (zR37_18 hS)) (tq ((E_iload (x := l4) rfl f189_92)) (tq (tq ((E_iald f189_94)) (ite_ar (zS52 hS))) (ite_c (tq ((E_iconst (x := (1)) (by decide) f189_95)) (tq ((E_aload (v := Value.ref 37) rfl rfl f189_96)) (tq (tq ((G11019 f189_97)) (if_pos (zS37 hS))) (tq (exe_R (zR37_19 hS)) (tq ((E_iload (x := l4) rfl f189_100)) (tq (tq ((E_iald f189_102)) (ite_ar (zS53 hS))) (ite_c (tq ((E_aload (v := Value.ref 37) rfl rfl f189_103)) (tq (tq ((G11020 f189_104)) (if_pos (zS37 hS))) (tq (exe_R (zR37_20 hS)) (tq ((E_iload (x := l4) rfl f189_107)) (tq (tq ((E_iald f189_109)) (ite_ar (zS54 hS))) (ite_c ((tq ((E_callV pn_180 pc_180 rfl rfl (Nat.le_of_ble_eq_true rfl) f189_110)) (if_pos (zS37 hS)))) rfl)))))) rfl))))))) rfl)))))))))))
theorem t189_113 {X : XX} {d : Nat} {sz sl : Nat} {sh : Nat → Nat × Nat} {R : Nat → Nat → Option Nat} {I : Nat → Nat → Int32} {J : Nat → Nat → Int64} (hS : SF sh R) {l4 : Int32} {l5 : Int64} {l7 : Int64} {s0 : Int32} : exe X d 189 113 [Value.ref 37, dm, dm, dm, Value.int l4, Value.long l5, dm, Value.long l7, dm, dm, dm] [Value.int s0] (sz, sl, sh, R, I, J) =
    (if inb l4 10 then (if inb l4 10 then some (some (Value.long (((l5 * (((Int32.toInt64 (I 50 l4.toNatClampNeg)) * l7) + ((Int32.toInt64 (I 51 l4.toNatClampNeg)) * (Int32.toInt64 s0)))) * (300)) / (1000))), (sz, sl, sh, R, I, J)) else none) else none) :=
  tq ((E_i2l f189_113)) (tq ((E_lstore rfl (Nat.le_of_ble_eq_true rfl) f189_114)) (tq ((E_lload (x := l5) rfl f189_116)) (tq ((E_aload (v := Value.ref 37) rfl rfl f189_118)) (tq (tq ((G11016 f189_119)) (if_pos (zS37 hS))) (tq (exe_R (zR37_16 hS)) (tq ((E_iload (x := l4) rfl f189_122)) (tq (tq ((E_iald f189_124)) (ite_ar (zS50 hS))) (ite_c (tq ((E_i2l f189_125)) (tq ((E_lload (x := l7) rfl f189_126)) (tq ((E_lmul f189_128)) (tq ((E_aload (v := Value.ref 37) rfl rfl f189_129)) (tq (tq ((G11017 f189_130)) (if_pos (zS37 hS))) (tq (exe_R (zR37_17 hS)) (tq ((E_iload (x := l4) rfl f189_133)) (tq (tq ((E_iald f189_135)) (ite_ar (zS51 hS))) (ite_c (tq ((E_i2l f189_136)) (tq ((E_lload (x := (Int32.toInt64 s0)) rfl f189_137)) (tq ((E_lmul f189_139)) (tq ((E_ladd f189_140)) (tq ((E_lmul f189_141)) (tq ((E_lconst (x := (300)) (by decide) f189_142)) (tq ((E_lmul f189_145)) (tq ((E_lconst (x := (1000)) (by decide) f189_146)) (tq ((E_ldiv (by decide) f189_149)) ((E_lret pr_189 f189_150))))))))))) rfl))))))))) rfl))))))))
theorem n189 {X : XX} {d : Nat} {h : HP} {a0 : Int32} {a1 : Int32} {a2 : Int32} {a3 : Int32} : ev X (d + 1) 189 [Value.ref 37, Value.int a0, Value.int a1, Value.int a2, Value.int a3] h = exe X d 189 0 [Value.ref 37, Value.int a0, Value.int a1, Value.int a2, Value.int a3, dm, dm, dm, dm, dm, dm] [] h := ev_exe (Nat.le_of_ble_eq_true rfl)
theorem f190_0 : fr 190 0 = some (.lload 0, 1, [], []) := by decide +kernel
theorem f190_1 : fr 190 1 = some (.jsr_w 2000000000, 3, [], []) := by decide +kernel
theorem f190_4 : fr 190 4 = some (.lcmp, 1, [], []) := by decide +kernel
theorem f190_5 : fr 190 5 = some (.ifCond .le 13, 3, [0], []) := by decide +kernel
theorem f190_8 : fr 190 8 = some (.iconst 2000000000, 2, [], []) := by decide +kernel
theorem f190_10 : fr 190 10 = some (.goto 15, 3, [], []) := by decide +kernel
theorem f190_13 : fr 190 13 = some (.lload 0, 1, [0], []) := by decide +kernel
theorem f190_14 : fr 190 14 = some (.l2i, 1, [], []) := by decide +kernel
theorem f190_15 : fr 190 15 = some (.ireturn, 1, [], []) := by decide +kernel
theorem t190_0 {X : XX} {d : Nat} {sz sl : Nat} {sh : Nat → Nat × Nat} {R : Nat → Nat → Option Nat} {I : Nat → Nat → Int32} {J : Nat → Nat → Int64} {l0 : Int64} : exe X d 190 0 [Value.long l0, dm] [] (sz, sl, sh, R, I, J) =
    (if (lg_cmp l0 (2000000000)) ≤ 0 then some (some (Value.int (Int64.toInt32 l0)), (sz, sl, sh, R, I, J)) else some (some (Value.int (2000000000)), (sz, sl, sh, R, I, J))) :=
  tq ((E_lload (x := l0) rfl f190_0)) (tq ((E_lconst (x := (2000000000)) (by decide) f190_1)) (tq ((E_lcmp f190_4)) (tq ((E_if_le f190_5)) (ite_c (tq ((E_lload (x := l0) rfl f190_13)) (tq ((E_l2i f190_14)) ((E_iret pr_190 f190_15)))) (tq ((E_iconst (x := (2000000000)) (by decide) f190_8)) (tq ((E_goto f190_10)) ((E_iret pr_190 f190_15))))))))
theorem n190 {X : XX} {d : Nat} {h : HP} {a0 : Int64} : ev X (d + 1) 190 [Value.long a0] h = exe X d 190 0 [Value.long a0, dm] [] h := ev_exe (Nat.le_of_ble_eq_true rfl)
theorem f191_0 : fr 191 0 = some (.aload 0, 1, [], []) := by decide +kernel
theorem f191_1 : fr 191 1 = some (.iload 1, 1, [], []) := by decide +kernel
theorem f191_2 : fr 191 2 = some (.invokevirtual 179, 3, [], []) := by decide +kernel
theorem f191_5 : fr 191 5 = some (.ifCond .eq 16, 3, [], [0, 1, 2]) := by decide +kernel
theorem f191_8 : fr 191 8 = some (.aload 0, 1, [], []) := by decide +kernel
theorem f191_9 : fr 191 9 = some (.iload 2, 1, [], []) := by decide +kernel
theorem f191_10 : fr 191 10 = some (.invokevirtual 154, 3, [], []) := by decide +kernel
theorem f191_13 : fr 191 13 = some (.ifCond .ne 18, 3, [0, 1, 2], []) := by decide +kernel
theorem f191_16 : fr 191 16 = some (.iconst (-1), 1, [], []) := by decide +kernel
theorem f191_17 : fr 191 17 = some (.ireturn, 1, [], []) := by decide +kernel
theorem f191_18 : fr 191 18 = some (.iconst (-2), 2, [], []) := by decide +kernel
theorem f191_20 : fr 191 20 = some (.istore 3, 1, [], []) := by decide +kernel
theorem f191_21 : fr 191 21 = some (.jsr_w 0, 1, [], []) := by decide +kernel
theorem f191_22 : fr 191 22 = some (.lstore 4, 2, [], []) := by decide +kernel
theorem f191_24 : fr 191 24 = some (.iconst 0, 1, [], []) := by decide +kernel
theorem f191_25 : fr 191 25 = some (.istore 6, 2, [], []) := by decide +kernel
theorem f191_27 : fr 191 27 = some (.iload 6, 2, [], []) := by decide +kernel
theorem f191_29 : fr 191 29 = some (.aload 0, 1, [], []) := by decide +kernel
theorem f191_30 : fr 191 30 = some (.getfield 11013, 3, [], []) := by decide +kernel
theorem f191_33 : fr 191 33 = some (.if_icmp .ge 74, 3, [], [0, 1, 2, 4, 6]) := by decide +kernel
theorem f191_36 : fr 191 36 = some (.aload 0, 1, [], []) := by decide +kernel
theorem f191_37 : fr 191 37 = some (.iload 1, 1, [], []) := by decide +kernel
theorem f191_38 : fr 191 38 = some (.iload 2, 1, [], []) := by decide +kernel
theorem f191_39 : fr 191 39 = some (.iconst 10, 2, [], []) := by decide +kernel
theorem f191_41 : fr 191 41 = some (.idiv, 1, [], []) := by decide +kernel
theorem f191_42 : fr 191 42 = some (.iload 2, 1, [], []) := by decide +kernel
theorem f191_43 : fr 191 43 = some (.iconst 10, 2, [], []) := by decide +kernel
theorem f191_45 : fr 191 45 = some (.irem, 1, [], []) := by decide +kernel
theorem f191_46 : fr 191 46 = some (.iload 6, 2, [], []) := by decide +kernel
theorem f191_48 : fr 191 48 = some (.invokevirtual 189, 3, [], []) := by decide +kernel
theorem f191_51 : fr 191 51 = some (.lstore 7, 2, [], []) := by decide +kernel
theorem f191_53 : fr 191 53 = some (.lload 7, 2, [], []) := by decide +kernel
theorem f191_55 : fr 191 55 = some (.lload 4, 2, [], []) := by decide +kernel
theorem f191_57 : fr 191 57 = some (.lcmp, 1, [], []) := by decide +kernel
theorem f191_58 : fr 191 58 = some (.ifCond .le 68, 3, [3, 4], [7]) := by decide +kernel
theorem f191_61 : fr 191 61 = some (.iload 6, 2, [], []) := by decide +kernel
theorem f191_63 : fr 191 63 = some (.istore 3, 1, [], []) := by decide +kernel
theorem f191_64 : fr 191 64 = some (.lload 7, 2, [7], []) := by decide +kernel
theorem f191_66 : fr 191 66 = some (.lstore 4, 2, [], []) := by decide +kernel
theorem f191_68 : fr 191 68 = some (.iinc 6 1, 3, [], []) := by decide +kernel
theorem f191_71 : fr 191 71 = some (.goto 27, 3, [], []) := by decide +kernel
theorem f191_74 : fr 191 74 = some (.iload 3, 1, [3], []) := by decide +kernel
theorem f191_75 : fr 191 75 = some (.ireturn, 1, [], []) := by decide +kernel
theorem t191_0 {X : XX} {d : Nat} {sz sl : Nat} {sh : Nat → Nat × Nat} {R : Nat → Nat → Option Nat} {I : Nat → Nat → Int32} {J : Nat → Nat → Int64} (hS : SF sh R) {l1 : Int32} {l2 : Int32} : exe X d 191 0 [Value.ref 37, Value.int l1, Value.int l2, dm, dm, dm, dm, dm, dm] [] (sz, sl, sh, R, I, J) =
    ((ev X d 179 [Value.ref 37, Value.int l1] (sz, sl, sh, R, I, J)).bind fun q => exe X d 191 5 [Value.ref 37, Value.int l1, Value.int l2, dm, dm, dm, dm, dm, dm] (q.1.toList ++ []) q.2) :=
  tq ((E_aload (v := Value.ref 37) rfl rfl f191_0)) (tq ((E_iload (x := l1) rfl f191_1)) ((tq ((E_callV pn_179 pc_179 rfl rfl (Nat.le_of_ble_eq_true rfl) f191_2)) (if_pos (zS37 hS)))))
theorem t191_5 {X : XX} {d : Nat} {sz sl : Nat} {sh : Nat → Nat × Nat} {R : Nat → Nat → Option Nat} {I : Nat → Nat → Int32} {J : Nat → Nat → Int64} (hS : SF sh R) {l1 : Int32} {l2 : Int32} {s0 : Int32} : exe X d 191 5 [Value.ref 37, Value.int l1, Value.int l2, dm, dm, dm, dm, dm, dm] [Value.int s0] (sz, sl, sh, R, I, J) =
    (if s0 = 0 then some (some (Value.int (-1)), (sz, sl, sh, R, I, J)) else ((ev X d 154 [Value.ref 37, Value.int l2] (sz, sl, sh, R, I, J)).bind fun q => exe X d 191 13 [Value.ref 37, Value.int l1, Value.int l2, dm, dm, dm, dm, dm, dm] (q.1.toList ++ []) q.2)) :=
  tq ((E_if_eq f191_5)) (ite_c (tq ((E_iconst (x := (-1)) (by decide) f191_16)) ((E_iret pr_191 f191_17))) (tq ((E_aload (v := Value.ref 37) rfl rfl f191_8)) (tq ((E_iload (x := l2) rfl f191_9)) ((tq ((E_callV pn_154 pc_154 rfl rfl (Nat.le_of_ble_eq_true rfl) f191_10)) (if_pos (zS37 hS)))))))
theorem t191_13 {X : XX} {d : Nat} {sz sl : Nat} {sh : Nat → Nat × Nat} {R : Nat → Nat → Option Nat} {I : Nat → Nat → Int32} {J : Nat → Nat → Int64} {l1 : Int32} {l2 : Int32} {s0 : Int32} : exe X d 191 13 [Value.ref 37, Value.int l1, Value.int l2, dm, dm, dm, dm, dm, dm] [Value.int s0] (sz, sl, sh, R, I, J) =
    (if ¬ s0 = 0 then exe X d 191 27 [Value.ref 37, Value.int l1, Value.int l2, Value.int (-2), Value.long (0), dm, Value.int (0), dm, dm] [] (sz, sl, sh, R, I, J) else some (some (Value.int (-1)), (sz, sl, sh, R, I, J))) :=
  tq ((E_if_ne f191_13)) (ite_c (tq ((E_iconst (x := (-2)) (by decide) f191_18)) (tq ((E_istore rfl f191_20)) (tq ((E_lconst (x := (0)) (by decide) f191_21)) (tq ((E_lstore rfl (Nat.le_of_ble_eq_true rfl) f191_22)) (tq ((E_iconst (x := (0)) (by decide) f191_24)) ((E_istore rfl f191_25))))))) (tq ((E_iconst (x := (-1)) (by decide) f191_16)) ((E_iret pr_191 f191_17))))
theorem t191_27 {X : XX} {d : Nat} {sz sl : Nat} {sh : Nat → Nat × Nat} {R : Nat → Nat → Option Nat} {I : Nat → Nat → Int32} {J : Nat → Nat → Int64} (hS : SF sh R) {l1 : Int32} {l2 : Int32} {l3 : Int32} {l4 : Int64} {l6 : Int32} : exe X d 191 27 [Value.ref 37, Value.int l1, Value.int l2, Value.int l3, Value.long l4, dm, Value.int l6, dm, dm] [] (sz, sl, sh, R, I, J) =
    (if (I 37 13) ≤ l6 then some (some (Value.int l3), (sz, sl, sh, R, I, J)) else ((ev X d 189 [Value.ref 37, Value.int l1, Value.int (l2 / (10)), Value.int (l2 - l2 / (10) * (10)), Value.int l6] (sz, sl, sh, R, I, J)).bind fun q => exe X d 191 51 [Value.ref 37, Value.int l1, Value.int l2, Value.int l3, Value.long l4, dm, Value.int l6, dm, dm] (q.1.toList ++ []) q.2)) :=
  tq ((E_iload (x := l6) rfl f191_27)) (tq ((E_aload (v := Value.ref 37) rfl rfl f191_29)) (tq (tq ((G11013 f191_30)) (if_pos (zS37 hS))) (tq ((E_ic_ge f191_33)) (ite_c (tq ((E_iload (x := l3) rfl f191_74)) ((E_iret pr_191 f191_75))) (tq ((E_aload (v := Value.ref 37) rfl rfl f191_36)) (tq ((E_iload (x := l1) rfl f191_37)) (tq ((E_iload (x := l2) rfl f191_38)) (tq ((E_iconst (x := (10)) (by decide) f191_39)) (tq ((E_idiv (by decide) f191_41)) (tq ((E_iload (x := l2) rfl f191_42)) (tq ((E_iconst (x := (10)) (by decide) f191_43)) (tq ((E_irem (by decide) f191_45)) (tq ((E_iload (x := l6) rfl f191_46)) ((tq ((E_callV pn_189 pc_189 rfl rfl (Nat.le_of_ble_eq_true rfl) f191_48)) (if_pos (zS37 hS)))))))))))))))))
theorem t191_51 {X : XX} {d : Nat} {sz sl : Nat} {sh : Nat → Nat × Nat} {R : Nat → Nat → Option Nat} {I : Nat → Nat → Int32} {J : Nat → Nat → Int64} {l1 : Int32} {l2 : Int32} {l3 : Int32} {l4 : Int64} {l6 : Int32} {s0 : Int64} : exe X d 191 51 [Value.ref 37, Value.int l1, Value.int l2, Value.int l3, Value.long l4, dm, Value.int l6, dm, dm] [Value.long s0] (sz, sl, sh, R, I, J) =
    (if (lg_cmp s0 l4) ≤ 0 then exe X d 191 27 [Value.ref 37, Value.int l1, Value.int l2, Value.int l3, Value.long l4, dm, Value.int (l6 + (1)), dm, dm] [] (sz, sl, sh, R, I, J) else exe X d 191 27 [Value.ref 37, Value.int l1, Value.int l2, Value.int l6, Value.long s0, dm, Value.int (l6 + (1)), dm, dm] [] (sz, sl, sh, R, I, J)) :=
  tq ((E_lstore rfl (Nat.le_of_ble_eq_true rfl) f191_51)) (tq ((E_lload (x := s0) rfl f191_53)) (tq ((E_lload (x := l4) rfl f191_55)) (tq ((E_lcmp f191_57)) (tq ((E_if_le f191_58)) (ite_c (tq ((E_iinc (x := l6) (x' := (1)) rfl rfl (by decide) f191_68)) ((E_goto f191_71))) (tq ((E_iload (x := l6) rfl f191_61)) (tq ((E_istore rfl f191_63)) (tq ((E_lload (x := s0) rfl f191_64)) (tq ((E_lstore rfl (Nat.le_of_ble_eq_true rfl) f191_66)) (tq ((E_iinc (x := l6) (x' := (1)) rfl rfl (by decide) f191_68)) ((E_goto f191_71))))))))))))
theorem n191 {X : XX} {d : Nat} {h : HP} {a0 : Int32} {a1 : Int32} : ev X (d + 1) 191 [Value.ref 37, Value.int a0, Value.int a1] h = exe X d 191 0 [Value.ref 37, Value.int a0, Value.int a1, dm, dm, dm, dm, dm, dm] [] h := ev_exe (Nat.le_of_ble_eq_true rfl)
theorem f192_0 : fr 192 0 = some (.aload 0, 1, [], []) := by decide +kernel
theorem f192_1 : fr 192 1 = some (.iload 1, 1, [], []) := by decide +kernel
theorem f192_2 : fr 192 2 = some (.invokevirtual 179, 3, [], []) := by decide +kernel
theorem f192_5 : fr 192 5 = some (.ifCond .eq 30, 3, [], [0, 1, 2, 3]) := by decide +kernel
theorem f192_8 : fr 192 8 = some (.aload 0, 1, [], []) := by decide +kernel
theorem f192_9 : fr 192 9 = some (.iload 2, 1, [], []) := by decide +kernel
theorem f192_10 : fr 192 10 = some (.invokevirtual 150, 3, [], []) := by decide +kernel
theorem f192_13 : fr 192 13 = some (.ifCond .eq 30, 3, [], [0, 1, 2, 3]) := by decide +kernel
theorem f192_16 : fr 192 16 = some (.iload 3, 1, [], []) := by decide +kernel
theorem f192_17 : fr 192 17 = some (.iconst 0, 1, [], []) := by decide +kernel
theorem f192_18 : fr 192 18 = some (.aload 0, 1, [], []) := by decide +kernel
theorem f192_19 : fr 192 19 = some (.getfield 11013, 3, [], []) := by decide +kernel
theorem f192_22 : fr 192 22 = some (.iconst 1, 1, [], []) := by decide +kernel
theorem f192_23 : fr 192 23 = some (.isub, 1, [], []) := by decide +kernel
theorem f192_24 : fr 192 24 = some (.invokestatic 148, 3, [], []) := by decide +kernel
theorem f192_27 : fr 192 27 = some (.ifCond .ne 32, 3, [0, 1, 2, 3], []) := by decide +kernel
theorem f192_30 : fr 192 30 = some (.iconst (-1), 1, [], []) := by decide +kernel
theorem f192_31 : fr 192 31 = some (.ireturn, 1, [], []) := by decide +kernel
theorem f192_32 : fr 192 32 = some (.jsr_w 0, 1, [], []) := by decide +kernel
theorem f192_33 : fr 192 33 = some (.lstore 4, 2, [], []) := by decide +kernel
theorem f192_35 : fr 192 35 = some (.jsr_w 0, 1, [], []) := by decide +kernel
theorem f192_36 : fr 192 36 = some (.lstore 6, 2, [], []) := by decide +kernel
theorem f192_38 : fr 192 38 = some (.iconst 0, 1, [], []) := by decide +kernel
theorem f192_39 : fr 192 39 = some (.istore 8, 2, [], []) := by decide +kernel
theorem f192_41 : fr 192 41 = some (.iload 8, 2, [], []) := by decide +kernel
theorem f192_43 : fr 192 43 = some (.aload 0, 1, [], []) := by decide +kernel
theorem f192_44 : fr 192 44 = some (.getfield 11013, 3, [], []) := by decide +kernel
theorem f192_47 : fr 192 47 = some (.if_icmp .ge 108, 3, [], [0, 1, 2, 3, 8]) := by decide +kernel
theorem f192_50 : fr 192 50 = some (.iconst 0, 1, [], []) := by decide +kernel
theorem f192_51 : fr 192 51 = some (.istore 9, 2, [], []) := by decide +kernel
theorem f192_53 : fr 192 53 = some (.iload 9, 2, [], []) := by decide +kernel
theorem f192_55 : fr 192 55 = some (.iconst 8, 2, [], []) := by decide +kernel
theorem f192_57 : fr 192 57 = some (.if_icmp .ge 102, 3, [], [9]) := by decide +kernel
theorem f192_60 : fr 192 60 = some (.aload 0, 1, [], []) := by decide +kernel
theorem f192_61 : fr 192 61 = some (.iload 1, 1, [], []) := by decide +kernel
theorem f192_62 : fr 192 62 = some (.iload 2, 1, [], []) := by decide +kernel
theorem f192_63 : fr 192 63 = some (.iload 9, 2, [], []) := by decide +kernel
theorem f192_65 : fr 192 65 = some (.iload 8, 2, [], []) := by decide +kernel
theorem f192_67 : fr 192 67 = some (.invokevirtual 189, 3, [], []) := by decide +kernel
theorem f192_70 : fr 192 70 = some (.lstore 10, 2, [], []) := by decide +kernel
theorem f192_72 : fr 192 72 = some (.lload 6, 2, [6], []) := by decide +kernel
theorem f192_74 : fr 192 74 = some (.lload 10, 2, [], []) := by decide +kernel
theorem f192_76 : fr 192 76 = some (.ladd, 1, [], []) := by decide +kernel
theorem f192_77 : fr 192 77 = some (.lstore 6, 2, [], []) := by decide +kernel
theorem f192_79 : fr 192 79 = some (.lload 4, 2, [4], []) := by decide +kernel
theorem f192_81 : fr 192 81 = some (.iload 8, 2, [], []) := by decide +kernel
theorem f192_83 : fr 192 83 = some (.iload 3, 1, [], []) := by decide +kernel
theorem f192_84 : fr 192 84 = some (.if_icmp .ne 92, 3, [], [10]) := by decide +kernel
theorem f192_87 : fr 192 87 = some (.lload 10, 2, [10], []) := by decide +kernel
theorem f192_89 : fr 192 89 = some (.goto 93, 3, [], []) := by decide +kernel
theorem f192_92 : fr 192 92 = some (.jsr_w 0, 1, [], []) := by decide +kernel
theorem f192_93 : fr 192 93 = some (.ladd, 1, [], []) := by decide +kernel
theorem f192_94 : fr 192 94 = some (.lstore 4, 2, [], []) := by decide +kernel
theorem f192_96 : fr 192 96 = some (.iinc 9 1, 3, [], []) := by decide +kernel
theorem f192_99 : fr 192 99 = some (.goto 53, 3, [], []) := by decide +kernel
theorem f192_102 : fr 192 102 = some (.iinc 8 1, 3, [], []) := by decide +kernel
theorem f192_105 : fr 192 105 = some (.goto 41, 3, [], []) := by decide +kernel
theorem f192_108 : fr 192 108 = some (.lload 6, 2, [], []) := by decide +kernel
theorem f192_110 : fr 192 110 = some (.jsr_w 0, 1, [], []) := by decide +kernel
theorem f192_111 : fr 192 111 = some (.lcmp, 1, [], []) := by decide +kernel
theorem f192_112 : fr 192 112 = some (.ifCond .ne 120, 3, [4, 6], []) := by decide +kernel
theorem f192_115 : fr 192 115 = some (.iconst (-2), 2, [], []) := by decide +kernel
theorem f192_117 : fr 192 117 = some (.goto 130, 3, [], []) := by decide +kernel
theorem f192_120 : fr 192 120 = some (.jsr_w 1000, 3, [], []) := by decide +kernel
theorem f192_123 : fr 192 123 = some (.lload 4, 2, [4], []) := by decide +kernel
theorem f192_125 : fr 192 125 = some (.lmul, 1, [], []) := by decide +kernel
theorem f192_126 : fr 192 126 = some (.lload 6, 2, [6], []) := by decide +kernel
theorem f192_128 : fr 192 128 = some (.ldiv, 1, [], []) := by decide +kernel
theorem f192_129 : fr 192 129 = some (.l2i, 1, [], []) := by decide +kernel
theorem f192_130 : fr 192 130 = some (.ireturn, 1, [], []) := by decide +kernel
theorem t192_0 {X : XX} {d : Nat} {sz sl : Nat} {sh : Nat → Nat × Nat} {R : Nat → Nat → Option Nat} {I : Nat → Nat → Int32} {J : Nat → Nat → Int64} (hS : SF sh R) {l1 : Int32} {l2 : Int32} {l3 : Int32} : exe X d 192 0 [Value.ref 37, Value.int l1, Value.int l2, Value.int l3, dm, dm, dm, dm, dm, dm, dm, dm] [] (sz, sl, sh, R, I, J) =
    ((ev X d 179 [Value.ref 37, Value.int l1] (sz, sl, sh, R, I, J)).bind fun q => exe X d 192 5 [Value.ref 37, Value.int l1, Value.int l2, Value.int l3, dm, dm, dm, dm, dm, dm, dm, dm] (q.1.toList ++ []) q.2) :=
  tq ((E_aload (v := Value.ref 37) rfl rfl f192_0)) (tq ((E_iload (x := l1) rfl f192_1)) ((tq ((E_callV pn_179 pc_179 rfl rfl (Nat.le_of_ble_eq_true rfl) f192_2)) (if_pos (zS37 hS)))))
theorem t192_5 {X : XX} {d : Nat} {sz sl : Nat} {sh : Nat → Nat × Nat} {R : Nat → Nat → Option Nat} {I : Nat → Nat → Int32} {J : Nat → Nat → Int64} (hS : SF sh R) {l1 : Int32} {l2 : Int32} {l3 : Int32} {s0 : Int32} : exe X d 192 5 [Value.ref 37, Value.int l1, Value.int l2, Value.int l3, dm, dm, dm, dm, dm, dm, dm, dm] [Value.int s0] (sz, sl, sh, R, I, J) =
    (if s0 = 0 then some (some (Value.int (-1)), (sz, sl, sh, R, I, J)) else ((ev X d 150 [Value.ref 37, Value.int l2] (sz, sl, sh, R, I, J)).bind fun q => exe X d 192 13 [Value.ref 37, Value.int l1, Value.int l2, Value.int l3, dm, dm, dm, dm, dm, dm, dm, dm] (q.1.toList ++ []) q.2)) :=
  tq ((E_if_eq f192_5)) (ite_c (tq ((E_iconst (x := (-1)) (by decide) f192_30)) ((E_iret pr_192 f192_31))) (tq ((E_aload (v := Value.ref 37) rfl rfl f192_8)) (tq ((E_iload (x := l2) rfl f192_9)) ((tq ((E_callV pn_150 pc_150 rfl rfl (Nat.le_of_ble_eq_true rfl) f192_10)) (if_pos (zS37 hS)))))))
theorem t192_13 {X : XX} {d : Nat} {sz sl : Nat} {sh : Nat → Nat × Nat} {R : Nat → Nat → Option Nat} {I : Nat → Nat → Int32} {J : Nat → Nat → Int64} (hS : SF sh R) {l1 : Int32} {l2 : Int32} {l3 : Int32} {s0 : Int32} : exe X d 192 13 [Value.ref 37, Value.int l1, Value.int l2, Value.int l3, dm, dm, dm, dm, dm, dm, dm, dm] [Value.int s0] (sz, sl, sh, R, I, J) =
    (if s0 = 0 then some (some (Value.int (-1)), (sz, sl, sh, R, I, J)) else ((ev X d 148 [Value.int l3, Value.int (0), Value.int ((I 37 13) - (1))] (sz, sl, sh, R, I, J)).bind fun q => exe X d 192 27 [Value.ref 37, Value.int l1, Value.int l2, Value.int l3, dm, dm, dm, dm, dm, dm, dm, dm] (q.1.toList ++ []) q.2)) :=
  tq ((E_if_eq f192_13)) (ite_c (tq ((E_iconst (x := (-1)) (by decide) f192_30)) ((E_iret pr_192 f192_31))) (tq ((E_iload (x := l3) rfl f192_16)) (tq ((E_iconst (x := (0)) (by decide) f192_17)) (tq ((E_aload (v := Value.ref 37) rfl rfl f192_18)) (tq (tq ((G11013 f192_19)) (if_pos (zS37 hS))) (tq ((E_iconst (x := (1)) (by decide) f192_22)) (tq ((E_isub f192_23)) ((E_callS pn_148 rfl rfl (Nat.le_of_ble_eq_true rfl) (Nat.le_of_ble_eq_true rfl) f192_24)))))))))
theorem t192_27 {X : XX} {d : Nat} {sz sl : Nat} {sh : Nat → Nat × Nat} {R : Nat → Nat → Option Nat} {I : Nat → Nat → Int32} {J : Nat → Nat → Int64} {l1 : Int32} {l2 : Int32} {l3 : Int32} {s0 : Int32} : exe X d 192 27 [Value.ref 37, Value.int l1, Value.int l2, Value.int l3, dm, dm, dm, dm, dm, dm, dm, dm] [Value.int s0] (sz, sl, sh, R, I, J) =
    (if ¬ s0 = 0 then exe X d 192 41 [Value.ref 37, Value.int l1, Value.int l2, Value.int l3, Value.long (0), dm, Value.long (0), dm, Value.int (0), dm, dm, dm] [] (sz, sl, sh, R, I, J) else some (some (Value.int (-1)), (sz, sl, sh, R, I, J))) :=
  tq ((E_if_ne f192_27)) (ite_c (tq ((E_lconst (x := (0)) (by decide) f192_32)) (tq ((E_lstore rfl (Nat.le_of_ble_eq_true rfl) f192_33)) (tq ((E_lconst (x := (0)) (by decide) f192_35)) (tq ((E_lstore rfl (Nat.le_of_ble_eq_true rfl) f192_36)) (tq ((E_iconst (x := (0)) (by decide) f192_38)) ((E_istore rfl f192_39))))))) (tq ((E_iconst (x := (-1)) (by decide) f192_30)) ((E_iret pr_192 f192_31))))
theorem t192_41 {X : XX} {d : Nat} {sz sl : Nat} {sh : Nat → Nat × Nat} {R : Nat → Nat → Option Nat} {I : Nat → Nat → Int32} {J : Nat → Nat → Int64} (hS : SF sh R) {l1 : Int32} {l2 : Int32} {l3 : Int32} {l4 : Int64} {l6 : Int64} {l8 : Int32} : exe X d 192 41 [Value.ref 37, Value.int l1, Value.int l2, Value.int l3, Value.long l4, dm, Value.long l6, dm, Value.int l8, dm, dm, dm] [] (sz, sl, sh, R, I, J) =
    (if (I 37 13) ≤ l8 then (if ¬ (lg_cmp l6 (0)) = 0 then (if l6 = 0 then none else some (some (Value.int (Int64.toInt32 (((1000) * l4) / l6))), (sz, sl, sh, R, I, J))) else some (some (Value.int (-2)), (sz, sl, sh, R, I, J))) else exe X d 192 53 [Value.ref 37, Value.int l1, Value.int l2, Value.int l3, Value.long l4, dm, Value.long l6, dm, Value.int l8, Value.int (0), dm, dm] [] (sz, sl, sh, R, I, J)) :=
  tq ((E_iload (x := l8) rfl f192_41)) (tq ((E_aload (v := Value.ref 37) rfl rfl f192_43)) (tq (tq ((G11013 f192_44)) (if_pos (zS37 hS))) (tq ((E_ic_ge f192_47)) (ite_c (tq ((E_lload (x := l6) rfl f192_108)) (tq ((E_lconst (x := (0)) (by decide) f192_110)) (tq ((E_lcmp f192_111)) (tq ((E_if_ne f192_112)) (ite_c (tq ((E_lconst (x := (1000)) (by decide) f192_120)) (tq ((E_lload (x := l4) rfl f192_123)) (tq ((E_lmul f192_125)) (tq ((E_lload (x := l6) rfl f192_126)) (tq (E_ldiv' f192_128) (ite_c rfl (tq ((E_l2i f192_129)) ((E_iret pr_192 f192_130))))))))) (tq ((E_iconst (x := (-2)) (by decide) f192_115)) (tq ((E_goto f192_117)) ((E_iret pr_192 f192_130))))))))) (tq ((E_iconst (x := (0)) (by decide) f192_50)) ((E_istore rfl f192_51)))))))
theorem t192_53 {X : XX} {d : Nat} {sz sl : Nat} {sh : Nat → Nat × Nat} {R : Nat → Nat → Option Nat} {I : Nat → Nat → Int32} {J : Nat → Nat → Int64} (hS : SF sh R) {l1 : Int32} {l2 : Int32} {l3 : Int32} {l4 : Int64} {l6 : Int64} {l8 : Int32} {l9 : Int32} : exe X d 192 53 [Value.ref 37, Value.int l1, Value.int l2, Value.int l3, Value.long l4, dm, Value.long l6, dm, Value.int l8, Value.int l9, dm, dm] [] (sz, sl, sh, R, I, J) =
    (if (8) ≤ l9 then exe X d 192 41 [Value.ref 37, Value.int l1, Value.int l2, Value.int l3, Value.long l4, dm, Value.long l6, dm, Value.int (l8 + (1)), dm, dm, dm] [] (sz, sl, sh, R, I, J) else ((ev X d 189 [Value.ref 37, Value.int l1, Value.int l2, Value.int l9, Value.int l8] (sz, sl, sh, R, I, J)).bind fun q => exe X d 192 70 [Value.ref 37, Value.int l1, Value.int l2, Value.int l3, Value.long l4, dm, Value.long l6, dm, Value.int l8, Value.int l9, dm, dm] (q.1.toList ++ []) q.2)) :=
  tq ((E_iload (x := l9) rfl f192_53)) (tq ((E_iconst (x := (8)) (by decide) f192_55)) (tq ((E_ic_ge f192_57)) (ite_c (tq ((E_iinc (x := l8) (x' := (1)) rfl rfl (by decide) f192_102)) ((E_goto f192_105))) (tq ((E_aload (v := Value.ref 37) rfl rfl f192_60)) (tq ((E_iload (x := l1) rfl f192_61)) (tq ((E_iload (x := l2) rfl f192_62)) (tq ((E_iload (x := l9) rfl f192_63)) (tq ((E_iload (x := l8) rfl f192_65)) ((tq ((E_callV pn_189 pc_189 rfl rfl (Nat.le_of_ble_eq_true rfl) f192_67)) (if_pos (zS37 hS))))))))))))
theorem t192_70 {X : XX} {d : Nat} {sz sl : Nat} {sh : Nat → Nat × Nat} {R : Nat → Nat → Option Nat} {I : Nat → Nat → Int32} {J : Nat → Nat → Int64} {l1 : Int32} {l2 : Int32} {l3 : Int32} {l4 : Int64} {l6 : Int64} {l8 : Int32} {l9 : Int32} {s0 : Int64} : exe X d 192 70 [Value.ref 37, Value.int l1, Value.int l2, Value.int l3, Value.long l4, dm, Value.long l6, dm, Value.int l8, Value.int l9, dm, dm] [Value.long s0] (sz, sl, sh, R, I, J) =
    (if ¬ l8 = l3 then exe X d 192 53 [Value.ref 37, Value.int l1, Value.int l2, Value.int l3, Value.long (l4 + (0)), dm, Value.long (l6 + s0), dm, Value.int l8, Value.int (l9 + (1)), dm, dm] [] (sz, sl, sh, R, I, J) else exe X d 192 53 [Value.ref 37, Value.int l1, Value.int l2, Value.int l3, Value.long (l4 + s0), dm, Value.long (l6 + s0), dm, Value.int l8, Value.int (l9 + (1)), dm, dm] [] (sz, sl, sh, R, I, J)) :=
  tq ((E_lstore rfl (Nat.le_of_ble_eq_true rfl) f192_70)) (tq ((E_lload (x := l6) rfl f192_72)) (tq ((E_lload (x := s0) rfl f192_74)) (tq ((E_ladd f192_76)) (tq ((E_lstore rfl (Nat.le_of_ble_eq_true rfl) f192_77)) (tq ((E_lload (x := l4) rfl f192_79)) (tq ((E_iload (x := l8) rfl f192_81)) (tq ((E_iload (x := l3) rfl f192_83)) (tq ((E_ic_ne f192_84)) (ite_c (tq ((E_lconst (x := (0)) (by decide) f192_92)) (tq ((E_ladd f192_93)) (tq ((E_lstore rfl (Nat.le_of_ble_eq_true rfl) f192_94)) (tq ((E_iinc (x := l9) (x' := (1)) rfl rfl (by decide) f192_96)) ((E_goto f192_99)))))) (tq ((E_lload (x := s0) rfl f192_87)) (tq ((E_goto f192_89)) (tq ((E_ladd f192_93)) (tq ((E_lstore rfl (Nat.le_of_ble_eq_true rfl) f192_94)) (tq ((E_iinc (x := l9) (x' := (1)) rfl rfl (by decide) f192_96)) ((E_goto f192_99))))))))))))))))
theorem n192 {X : XX} {d : Nat} {h : HP} {a0 : Int32} {a1 : Int32} {a2 : Int32} : ev X (d + 1) 192 [Value.ref 37, Value.int a0, Value.int a1, Value.int a2] h = exe X d 192 0 [Value.ref 37, Value.int a0, Value.int a1, Value.int a2, dm, dm, dm, dm, dm, dm, dm, dm] [] h := ev_exe (Nat.le_of_ble_eq_true rfl)
theorem f193_0 : fr 193 0 = some (.aload 0, 1, [], []) := by decide +kernel
theorem f193_1 : fr 193 1 = some (.iload 1, 1, [], []) := by decide +kernel
theorem f193_2 : fr 193 2 = some (.invokevirtual 150, 3, [], []) := by decide +kernel
theorem f193_5 : fr 193 5 = some (.ifCond .eq 17, 3, [], [0, 1, 2]) := by decide +kernel
theorem f193_8 : fr 193 8 = some (.iload 2, 1, [], []) := by decide +kernel
theorem f193_9 : fr 193 9 = some (.iconst 0, 1, [], []) := by decide +kernel
theorem f193_10 : fr 193 10 = some (.iconst 2, 1, [], []) := by decide +kernel
theorem f193_11 : fr 193 11 = some (.invokestatic 148, 3, [], []) := by decide +kernel
theorem f193_14 : fr 193 14 = some (.ifCond .ne 21, 3, [0, 1, 2], []) := by decide +kernel
theorem f193_17 : fr 193 17 = some (.iconst (-2000000000), 3, [], []) := by decide +kernel
theorem f193_20 : fr 193 20 = some (.ireturn, 1, [], []) := by decide +kernel
theorem f193_21 : fr 193 21 = some (.iload 2, 1, [], []) := by decide +kernel
theorem f193_22 : fr 193 22 = some (.iconst 2, 1, [], []) := by decide +kernel
theorem f193_23 : fr 193 23 = some (.if_icmp .ge 44, 3, [], [2]) := by decide +kernel
theorem f193_26 : fr 193 26 = some (.iload 2, 1, [2], []) := by decide +kernel
theorem f193_27 : fr 193 27 = some (.ifCond .ne 38, 3, [], []) := by decide +kernel
theorem f193_30 : fr 193 30 = some (.aload 0, 1, [0], []) := by decide +kernel
theorem f193_31 : fr 193 31 = some (.iload 1, 1, [1], []) := by decide +kernel
theorem f193_32 : fr 193 32 = some (.invokevirtual 194, 3, [], []) := by decide +kernel
theorem f193_35 : fr 193 35 = some (.goto 43, 3, [], []) := by decide +kernel
theorem f193_38 : fr 193 38 = some (.aload 0, 1, [0], []) := by decide +kernel
theorem f193_39 : fr 193 39 = some (.iload 1, 1, [1], []) := by decide +kernel
theorem f193_40 : fr 193 40 = some (.invokevirtual 196, 3, [], []) := by decide +kernel
theorem f193_43 : fr 193 43 = some (.ireturn, 1, [], []) := by decide +kernel
theorem f193_44 : fr 193 44 = some (.iconst 0, 1, [], []) := by decide +kernel
theorem f193_45 : fr 193 45 = some (.istore 3, 1, [], []) := by decide +kernel
theorem f193_46 : fr 193 46 = some (.iconst 0, 1, [], []) := by decide +kernel
theorem f193_47 : fr 193 47 = some (.istore 4, 2, [], []) := by decide +kernel
theorem f193_49 : fr 193 49 = some (.iload 4, 2, [], []) := by decide +kernel
theorem f193_51 : fr 193 51 = some (.iconst 4, 1, [], []) := by decide +kernel
theorem f193_52 : fr 193 52 = some (.if_icmp .ge 81, 3, [], [0, 1, 4]) := by decide +kernel
theorem f193_55 : fr 193 55 = some (.iload 3, 1, [3], []) := by decide +kernel
theorem f193_56 : fr 193 56 = some (.aload 0, 1, [], []) := by decide +kernel
theorem f193_57 : fr 193 57 = some (.iload 1, 1, [], []) := by decide +kernel
theorem f193_58 : fr 193 58 = some (.iconst 4, 1, [], []) := by decide +kernel
theorem f193_59 : fr 193 59 = some (.iload 4, 2, [], []) := by decide +kernel
theorem f193_61 : fr 193 61 = some (.iadd, 1, [], []) := by decide +kernel
theorem f193_62 : fr 193 62 = some (.invokevirtual 195, 3, [], []) := by decide +kernel
theorem f193_65 : fr 193 65 = some (.aload 0, 1, [], []) := by decide +kernel
theorem f193_66 : fr 193 66 = some (.iload 1, 1, [], []) := by decide +kernel
theorem f193_67 : fr 193 67 = some (.iload 4, 2, [], []) := by decide +kernel
theorem f193_69 : fr 193 69 = some (.invokevirtual 195, 3, [], []) := by decide +kernel
theorem f193_72 : fr 193 72 = some (.isub, 1, [], []) := by decide +kernel
theorem f193_73 : fr 193 73 = some (.iadd, 1, [], []) := by decide +kernel
theorem f193_74 : fr 193 74 = some (.istore 3, 1, [], []) := by decide +kernel
theorem f193_75 : fr 193 75 = some (.iinc 4 1, 3, [], []) := by decide +kernel
theorem f193_78 : fr 193 78 = some (.goto 49, 3, [], []) := by decide +kernel
theorem f193_81 : fr 193 81 = some (.iload 3, 1, [3], []) := by decide +kernel
theorem f193_82 : fr 193 82 = some (.ireturn, 1, [], []) := by decide +kernel
theorem t193_0 {X : XX} {d : Nat} {sz sl : Nat} {sh : Nat → Nat × Nat} {R : Nat → Nat → Option Nat} {I : Nat → Nat → Int32} {J : Nat → Nat → Int64} (hS : SF sh R) {l1 : Int32} {l2 : Int32} : exe X d 193 0 [Value.ref 37, Value.int l1, Value.int l2, dm, dm] [] (sz, sl, sh, R, I, J) =
    ((ev X d 150 [Value.ref 37, Value.int l1] (sz, sl, sh, R, I, J)).bind fun q => exe X d 193 5 [Value.ref 37, Value.int l1, Value.int l2, dm, dm] (q.1.toList ++ []) q.2) :=
  tq ((E_aload (v := Value.ref 37) rfl rfl f193_0)) (tq ((E_iload (x := l1) rfl f193_1)) ((tq ((E_callV pn_150 pc_150 rfl rfl (Nat.le_of_ble_eq_true rfl) f193_2)) (if_pos (zS37 hS)))))
theorem t193_5 {X : XX} {d : Nat} {sz sl : Nat} {sh : Nat → Nat × Nat} {R : Nat → Nat → Option Nat} {I : Nat → Nat → Int32} {J : Nat → Nat → Int64} {l1 : Int32} {l2 : Int32} {s0 : Int32} : exe X d 193 5 [Value.ref 37, Value.int l1, Value.int l2, dm, dm] [Value.int s0] (sz, sl, sh, R, I, J) =
    (if s0 = 0 then some (some (Value.int (-2000000000)), (sz, sl, sh, R, I, J)) else ((ev X d 148 [Value.int l2, Value.int (0), Value.int (2)] (sz, sl, sh, R, I, J)).bind fun q => exe X d 193 14 [Value.ref 37, Value.int l1, Value.int l2, dm, dm] (q.1.toList ++ []) q.2)) :=
  tq ((E_if_eq f193_5)) (ite_c (tq ((E_iconst (x := (-2000000000)) (by decide) f193_17)) ((E_iret pr_193 f193_20))) (tq ((E_iload (x := l2) rfl f193_8)) (tq ((E_iconst (x := (0)) (by decide) f193_9)) (tq ((E_iconst (x := (2)) (by decide) f193_10)) ((E_callS pn_148 rfl rfl (Nat.le_of_ble_eq_true rfl) (Nat.le_of_ble_eq_true rfl) f193_11))))))
theorem t193_14 {X : XX} {d : Nat} {sz sl : Nat} {sh : Nat → Nat × Nat} {R : Nat → Nat → Option Nat} {I : Nat → Nat → Int32} {J : Nat → Nat → Int64} (hS : SF sh R) {l1 : Int32} {l2 : Int32} {s0 : Int32} : exe X d 193 14 [Value.ref 37, Value.int l1, Value.int l2, dm, dm] [Value.int s0] (sz, sl, sh, R, I, J) =
    (if ¬ s0 = 0 then (if (2) ≤ l2 then exe X d 193 49 [Value.ref 37, Value.int l1, dm, Value.int (0), Value.int (0)] [] (sz, sl, sh, R, I, J) else (if ¬ l2 = 0 then ((ev X d 196 [Value.ref 37, Value.int l1] (sz, sl, sh, R, I, J)).bind fun q => exe X d 193 43 [dm, dm, dm, dm, dm] (q.1.toList ++ []) q.2) else ((ev X d 194 [Value.ref 37, Value.int l1] (sz, sl, sh, R, I, J)).bind fun q => exe X d 193 35 [dm, dm, dm, dm, dm] (q.1.toList ++ []) q.2))) else some (some (Value.int (-2000000000)), (sz, sl, sh, R, I, J))) :=
  tq ((E_if_ne f193_14)) (ite_c (tq ((E_iload (x := l2) rfl f193_21)) (tq ((E_iconst (x := (2)) (by decide) f193_22)) (tq ((E_ic_ge f193_23)) (ite_c (tq ((E_iconst (x := (0)) (by decide) f193_44)) (tq ((E_istore rfl f193_45)) (tq ((E_iconst (x := (0)) (by decide) f193_46)) ((E_istore rfl f193_47))))) (tq ((E_iload (x := l2) rfl f193_26)) (tq ((E_if_ne f193_27)) (ite_c (tq ((E_aload (v := Value.ref 37) rfl rfl f193_38)) (tq ((E_iload (x := l1) rfl f193_39)) ((tq ((E_callV pn_196 pc_196 rfl rfl (Nat.le_of_ble_eq_true rfl) f193_40)) (if_pos (zS37 hS)))))) (tq ((E_aload (v := Value.ref 37) rfl rfl f193_30)) (tq ((E_iload (x := l1) rfl f193_31)) ((tq ((E_callV pn_194 pc_194 rfl rfl (Nat.le_of_ble_eq_true rfl) f193_32)) (if_pos (zS37 hS))))))))))))) (tq ((E_iconst (x := (-2000000000)) (by decide) f193_17)) ((E_iret pr_193 f193_20))))
theorem t193_35 {X : XX} {d : Nat} {sz sl : Nat} {sh : Nat → Nat × Nat} {R : Nat → Nat → Option Nat} {I : Nat → Nat → Int32} {J : Nat → Nat → Int64} {s0 : Int32} : exe X d 193 35 [dm, dm, dm, dm, dm] [Value.int s0] (sz, sl, sh, R, I, J) =
    exe X d 193 43 [dm, dm, dm, dm, dm] [Value.int s0] (sz, sl, sh, R, I, J) :=
  (E_goto f193_35)
theorem t193_43 {X : XX} {d : Nat} {sz sl : Nat} {sh : Nat → Nat × Nat} {R : Nat → Nat → Option Nat} {I : Nat → Nat → Int32} {J : Nat → Nat → Int64} {s0 : Int32} : exe X d 193 43 [dm, dm, dm, dm, dm] [Value.int s0] (sz, sl, sh, R, I, J) =
    some (some (Value.int s0), (sz, sl, sh, R, I, J)) :=
  (E_iret pr_193 f193_43)
theorem t193_49 {X : XX} {d : Nat} {sz sl : Nat} {sh : Nat → Nat × Nat} {R : Nat → Nat → Option Nat} {I : Nat → Nat → Int32} {J : Nat → Nat → Int64} (hS : SF sh R) {l1 : Int32} {l3 : Int32} {l4 : Int32} : exe X d 193 49 [Value.ref 37, Value.int l1, dm, Value.int l3, Value.int l4] [] (sz, sl, sh, R, I, J) =
    (if (4) ≤ l4 then some (some (Value.int l3), (sz, sl, sh, R, I, J)) else ((ev X d 195 [Value.ref 37, Value.int l1, Value.int ((4) + l4)] (sz, sl, sh, R, I, J)).bind fun q => exe X d 193 65 [Value.ref 37, Value.int l1, dm, dm, Value.int l4] (q.1.toList ++ [Value.int l3]) q.2)) :=
  tq ((E_iload (x := l4) rfl f193_49)) (tq ((E_iconst (x := (4)) (by decide) f193_51)) (tq ((E_ic_ge f193_52)) (ite_c (tq ((E_iload (x := l3) rfl f193_81)) ((E_iret pr_193 f193_82))) (tq ((E_iload (x := l3) rfl f193_55)) (tq ((E_aload (v := Value.ref 37) rfl rfl f193_56)) (tq ((E_iload (x := l1) rfl f193_57)) (tq ((E_iconst (x := (4)) (by decide) f193_58)) (tq ((E_iload (x := l4) rfl f193_59)) (tq ((E_iadd f193_61)) ((tq ((E_callV pn_195 pc_195 rfl rfl (Nat.le_of_ble_eq_true rfl) f193_62)) (if_pos (zS37 hS)))))))))))))
theorem t193_65 {X : XX} {d : Nat} {sz sl : Nat} {sh : Nat → Nat × Nat} {R : Nat → Nat → Option Nat} {I : Nat → Nat → Int32} {J : Nat → Nat → Int64} (hS : SF sh R) {l1 : Int32} {l4 : Int32} {s0 : Int32} {s1 : Int32} : exe X d 193 65 [Value.ref 37, Value.int l1, dm, dm, Value.int l4] [Value.int s0, Value.int s1] (sz, sl, sh, R, I, J) =
    ((ev X d 195 [Value.ref 37, Value.int l1, Value.int l4] (sz, sl, sh, R, I, J)).bind fun q => exe X d 193 72 [Value.ref 37, Value.int l1, dm, dm, Value.int l4] (q.1.toList ++ [Value.int s0, Value.int s1]) q.2) :=
  tq ((E_aload (v := Value.ref 37) rfl rfl f193_65)) (tq ((E_iload (x := l1) rfl f193_66)) (tq ((E_iload (x := l4) rfl f193_67)) ((tq ((E_callV pn_195 pc_195 rfl rfl (Nat.le_of_ble_eq_true rfl) f193_69)) (if_pos (zS37 hS))))))
theorem t193_72 {X : XX} {d : Nat} {sz sl : Nat} {sh : Nat → Nat × Nat} {R : Nat → Nat → Option Nat} {I : Nat → Nat → Int32} {J : Nat → Nat → Int64} {l1 : Int32} {l4 : Int32} {s0 : Int32} {s1 : Int32} {s2 : Int32} : exe X d 193 72 [Value.ref 37, Value.int l1, dm, dm, Value.int l4] [Value.int s0, Value.int s1, Value.int s2] (sz, sl, sh, R, I, J) =
    exe X d 193 49 [Value.ref 37, Value.int l1, dm, Value.int (s2 + (s1 - s0)), Value.int (l4 + (1))] [] (sz, sl, sh, R, I, J) :=
  tq ((E_isub f193_72)) (tq ((E_iadd f193_73)) (tq ((E_istore rfl f193_74)) (tq ((E_iinc (x := l4) (x' := (1)) rfl rfl (by decide) f193_75)) ((E_goto f193_78)))))
theorem n193 {X : XX} {d : Nat} {h : HP} {a0 : Int32} {a1 : Int32} : ev X (d + 1) 193 [Value.ref 37, Value.int a0, Value.int a1] h = exe X d 193 0 [Value.ref 37, Value.int a0, Value.int a1, dm, dm] [] h := ev_exe (Nat.le_of_ble_eq_true rfl)
theorem f194_0 : fr 194 0 = some (.iconst 0, 1, [], []) := by decide +kernel
theorem f194_1 : fr 194 1 = some (.istore 2, 1, [], []) := by decide +kernel
theorem f194_2 : fr 194 2 = some (.iconst 0, 1, [], []) := by decide +kernel
theorem f194_3 : fr 194 3 = some (.istore 3, 1, [], []) := by decide +kernel
theorem f194_4 : fr 194 4 = some (.iload 3, 1, [], []) := by decide +kernel
theorem f194_5 : fr 194 5 = some (.iconst 8, 2, [], []) := by decide +kernel
theorem f194_7 : fr 194 7 = some (.if_icmp .ge 95, 3, [], [0, 1, 3]) := by decide +kernel
theorem f194_10 : fr 194 10 = some (.iload 3, 1, [], []) := by decide +kernel
theorem f194_11 : fr 194 11 = some (.istore 4, 2, [], []) := by decide +kernel
theorem f194_13 : fr 194 13 = some (.iload 4, 2, [], []) := by decide +kernel
theorem f194_15 : fr 194 15 = some (.iconst 7, 2, [], []) := by decide +kernel
theorem f194_17 : fr 194 17 = some (.if_icmp .ge 44, 3, [], []) := by decide +kernel
theorem f194_20 : fr 194 20 = some (.aload 0, 1, [], []) := by decide +kernel
theorem f194_21 : fr 194 21 = some (.iload 1, 1, [], []) := by decide +kernel
theorem f194_22 : fr 194 22 = some (.iload 4, 2, [], []) := by decide +kernel
theorem f194_24 : fr 194 24 = some (.iconst 1, 1, [], []) := by decide +kernel
theorem f194_25 : fr 194 25 = some (.iadd, 1, [], []) := by decide +kernel
theorem f194_26 : fr 194 26 = some (.invokevirtual 195, 3, [], []) := by decide +kernel
theorem f194_29 : fr 194 29 = some (.aload 0, 1, [], []) := by decide +kernel
theorem f194_30 : fr 194 30 = some (.iload 1, 1, [], []) := by decide +kernel
theorem f194_31 : fr 194 31 = some (.iload 3, 1, [], []) := by decide +kernel
theorem f194_32 : fr 194 32 = some (.invokevirtual 195, 3, [], []) := by decide +kernel
theorem f194_35 : fr 194 35 = some (.if_icmp .ne 44, 3, [], []) := by decide +kernel
theorem f194_38 : fr 194 38 = some (.iinc 4 1, 3, [], []) := by decide +kernel
theorem f194_41 : fr 194 41 = some (.goto 13, 3, [], []) := by decide +kernel
theorem f194_44 : fr 194 44 = some (.iload 2, 1, [2], []) := by decide +kernel
theorem f194_45 : fr 194 45 = some (.aload 0, 1, [], []) := by decide +kernel
theorem f194_46 : fr 194 46 = some (.iload 1, 1, [], []) := by decide +kernel
theorem f194_47 : fr 194 47 = some (.iload 3, 1, [], []) := by decide +kernel
theorem f194_48 : fr 194 48 = some (.invokevirtual 195, 3, [], []) := by decide +kernel
theorem f194_51 : fr 194 51 = some (.aload 0, 1, [], []) := by decide +kernel
theorem f194_52 : fr 194 52 = some (.iload 1, 1, [], []) := by decide +kernel
theorem f194_53 : fr 194 53 = some (.iload 3, 1, [], []) := by decide +kernel
theorem f194_54 : fr 194 54 = some (.iconst 1, 1, [], []) := by decide +kernel
theorem f194_55 : fr 194 55 = some (.isub, 1, [], []) := by decide +kernel
theorem f194_56 : fr 194 56 = some (.invokevirtual 195, 3, [], []) := by decide +kernel
theorem f194_59 : fr 194 59 = some (.if_icmp .le 84, 3, [], [3]) := by decide +kernel
theorem f194_62 : fr 194 62 = some (.aload 0, 1, [], []) := by decide +kernel
theorem f194_63 : fr 194 63 = some (.iload 1, 1, [], []) := by decide +kernel
theorem f194_64 : fr 194 64 = some (.iload 3, 1, [3], []) := by decide +kernel
theorem f194_65 : fr 194 65 = some (.invokevirtual 195, 3, [], []) := by decide +kernel
theorem f194_68 : fr 194 68 = some (.aload 0, 1, [], []) := by decide +kernel
theorem f194_69 : fr 194 69 = some (.iload 1, 1, [], []) := by decide +kernel
theorem f194_70 : fr 194 70 = some (.iload 4, 2, [], []) := by decide +kernel
theorem f194_72 : fr 194 72 = some (.iconst 1, 1, [], []) := by decide +kernel
theorem f194_73 : fr 194 73 = some (.iadd, 1, [], []) := by decide +kernel
theorem f194_74 : fr 194 74 = some (.invokevirtual 195, 3, [], []) := by decide +kernel
theorem f194_77 : fr 194 77 = some (.if_icmp .le 84, 3, [], []) := by decide +kernel
theorem f194_80 : fr 194 80 = some (.iconst 1, 1, [], []) := by decide +kernel
theorem f194_81 : fr 194 81 = some (.goto 85, 3, [], []) := by decide +kernel
theorem f194_84 : fr 194 84 = some (.iconst 0, 1, [], []) := by decide +kernel
theorem f194_85 : fr 194 85 = some (.iadd, 1, [], []) := by decide +kernel
theorem f194_86 : fr 194 86 = some (.istore 2, 1, [], []) := by decide +kernel
theorem f194_87 : fr 194 87 = some (.iload 4, 2, [4], []) := by decide +kernel
theorem f194_89 : fr 194 89 = some (.iconst 1, 1, [], []) := by decide +kernel
theorem f194_90 : fr 194 90 = some (.iadd, 1, [], []) := by decide +kernel
theorem f194_91 : fr 194 91 = some (.istore 3, 1, [], []) := by decide +kernel
theorem f194_92 : fr 194 92 = some (.goto 4, 3, [], []) := by decide +kernel
theorem f194_95 : fr 194 95 = some (.iload 2, 1, [2], []) := by decide +kernel
theorem f194_96 : fr 194 96 = some (.ireturn, 1, [], []) := by decide +kernel
theorem t194_0 {X : XX} {d : Nat} {sz sl : Nat} {sh : Nat → Nat × Nat} {R : Nat → Nat → Option Nat} {I : Nat → Nat → Int32} {J : Nat → Nat → Int64} {l1 : Int32} : exe X d 194 0 [Value.ref 37, Value.int l1, dm, dm, dm] [] (sz, sl, sh, R, I, J) =
    exe X d 194 4 [Value.ref 37, Value.int l1, Value.int (0), Value.int (0), dm] [] (sz, sl, sh, R, I, J) :=
  tq ((E_iconst (x := (0)) (by decide) f194_0)) (tq ((E_istore rfl f194_1)) (tq ((E_iconst (x := (0)) (by decide) f194_2)) ((E_istore rfl f194_3))))
theorem t194_4 {X : XX} {d : Nat} {sz sl : Nat} {sh : Nat → Nat × Nat} {R : Nat → Nat → Option Nat} {I : Nat → Nat → Int32} {J : Nat → Nat → Int64} {l1 : Int32} {l2 : Int32} {l3 : Int32} : exe X d 194 4 [Value.ref 37, Value.int l1, Value.int l2, Value.int l3, dm] [] (sz, sl, sh, R, I, J) =
    (if (8) ≤ l3 then some (some (Value.int l2), (sz, sl, sh, R, I, J)) else exe X d 194 13 [Value.ref 37, Value.int l1, Value.int l2, Value.int l3, Value.int l3] [] (sz, sl, sh, R, I, J)) :=
  tq ((E_iload (x := l3) rfl f194_4)) (tq ((E_iconst (x := (8)) (by decide) f194_5)) (tq ((E_ic_ge f194_7)) (ite_c (tq ((E_iload (x := l2) rfl f194_95)) ((E_iret pr_194 f194_96))) (tq ((E_iload (x := l3) rfl f194_10)) ((E_istore rfl f194_11))))))
theorem t194_13 {X : XX} {d : Nat} {sz sl : Nat} {sh : Nat → Nat × Nat} {R : Nat → Nat → Option Nat} {I : Nat → Nat → Int32} {J : Nat → Nat → Int64} (hS : SF sh R) {l1 : Int32} {l2 : Int32} {l3 : Int32} {l4 : Int32} : exe X d 194 13 [Value.ref 37, Value.int l1, Value.int l2, Value.int l3, Value.int l4] [] (sz, sl, sh, R, I, J) =
    (if (7) ≤ l4 then ((ev X d 195 [Value.ref 37, Value.int l1, Value.int l3] (sz, sl, sh, R, I, J)).bind fun q => exe X d 194 51 [Value.ref 37, Value.int l1, dm, Value.int l3, Value.int l4] (q.1.toList ++ [Value.int l2]) q.2) else ((ev X d 195 [Value.ref 37, Value.int l1, Value.int (l4 + (1))] (sz, sl, sh, R, I, J)).bind fun q => exe X d 194 29 [Value.ref 37, Value.int l1, Value.int l2, Value.int l3, Value.int l4] (q.1.toList ++ []) q.2)) :=
  tq ((E_iload (x := l4) rfl f194_13)) (tq ((E_iconst (x := (7)) (by decide) f194_15)) (tq ((E_ic_ge f194_17)) (ite_c (tq ((E_iload (x := l2) rfl f194_44)) (tq ((E_aload (v := Value.ref 37) rfl rfl f194_45)) (tq ((E_iload (x := l1) rfl f194_46)) (tq ((E_iload (x := l3) rfl f194_47)) ((tq ((E_callV pn_195 pc_195 rfl rfl (Nat.le_of_ble_eq_true rfl) f194_48)) (if_pos (zS37 hS)))))))) (tq ((E_aload (v := Value.ref 37) rfl rfl f194_20)) (tq ((E_iload (x := l1) rfl f194_21)) (tq ((E_iload (x := l4) rfl f194_22)) (tq ((E_iconst (x := (1)) (by decide) f194_24)) (tq ((E_iadd f194_25)) ((tq ((E_callV pn_195 pc_195 rfl rfl (Nat.le_of_ble_eq_true rfl) f194_26)) (if_pos (zS37 hS))))))))))))
theorem t194_29 {X : XX} {d : Nat} {sz sl : Nat} {sh : Nat → Nat × Nat} {R : Nat → Nat → Option Nat} {I : Nat → Nat → Int32} {J : Nat → Nat → Int64} (hS : SF sh R) {l1 : Int32} {l2 : Int32} {l3 : Int32} {l4 : Int32} {s0 : Int32} : exe X d 194 29 [Value.ref 37, Value.int l1, Value.int l2, Value.int l3, Value.int l4] [Value.int s0] (sz, sl, sh, R, I, J) =
    ((ev X d 195 [Value.ref 37, Value.int l1, Value.int l3] (sz, sl, sh, R, I, J)).bind fun q => exe X d 194 35 [Value.ref 37, Value.int l1, Value.int l2, Value.int l3, Value.int l4] (q.1.toList ++ [Value.int s0]) q.2) :=
  tq ((E_aload (v := Value.ref 37) rfl rfl f194_29)) (tq ((E_iload (x := l1) rfl f194_30)) (tq ((E_iload (x := l3) rfl f194_31)) ((tq ((E_callV pn_195 pc_195 rfl rfl (Nat.le_of_ble_eq_true rfl) f194_32)) (if_pos (zS37 hS))))))
theorem t194_35 {X : XX} {d : Nat} {sz sl : Nat} {sh : Nat → Nat × Nat} {R : Nat → Nat → Option Nat} {I : Nat → Nat → Int32} {J : Nat → Nat → Int64} (hS : SF sh R) {l1 : Int32} {l2 : Int32} {l3 : Int32} {l4 : Int32} {s0 : Int32} {s1 : Int32} : exe X d 194 35 [Value.ref 37, Value.int l1, Value.int l2, Value.int l3, Value.int l4] [Value.int s0, Value.int s1] (sz, sl, sh, R, I, J) =
    (if ¬ s1 = s0 then ((ev X d 195 [Value.ref 37, Value.int l1, Value.int l3] (sz, sl, sh, R, I, J)).bind fun q => exe X d 194 51 [Value.ref 37, Value.int l1, dm, Value.int l3, Value.int l4] (q.1.toList ++ [Value.int l2]) q.2) else exe X d 194 13 [Value.ref 37, Value.int l1, Value.int l2, Value.int l3, Value.int (l4 + (1))] [] (sz, sl, sh, R, I, J)) :=
  tq ((E_ic_ne f194_35)) (ite_c (tq ((E_iload (x := l2) rfl f194_44)) (tq ((E_aload (v := Value.ref 37) rfl rfl f194_45)) (tq ((E_iload (x := l1) rfl f194_46)) (tq ((E_iload (x := l3) rfl f194_47)) ((tq ((E_callV pn_195 pc_195 rfl rfl (Nat.le_of_ble_eq_true rfl) f194_48)) (if_pos (zS37 hS)))))))) (tq ((E_iinc (x := l4) (x' := (1)) rfl rfl (by decide) f194_38)) ((E_goto f194_41))))
theorem t194_51 {X : XX} {d : Nat} {sz sl : Nat} {sh : Nat → Nat × Nat} {R : Nat → Nat → Option Nat} {I : Nat → Nat → Int32} {J : Nat → Nat → Int64} (hS : SF sh R) {l1 : Int32} {l3 : Int32} {l4 : Int32} {s0 : Int32} {s1 : Int32} : exe X d 194 51 [Value.ref 37, Value.int l1, dm, Value.int l3, Value.int l4] [Value.int s0, Value.int s1] (sz, sl, sh, R, I, J) =
    ((ev X d 195 [Value.ref 37, Value.int l1, Value.int (l3 - (1))] (sz, sl, sh, R, I, J)).bind fun q => exe X d 194 59 [Value.ref 37, Value.int l1, dm, Value.int l3, Value.int l4] (q.1.toList ++ [Value.int s0, Value.int s1]) q.2) :=
  tq ((E_aload (v := Value.ref 37) rfl rfl f194_51)) (tq ((E_iload (x := l1) rfl f194_52)) (tq ((E_iload (x := l3) rfl f194_53)) (tq ((E_iconst (x := (1)) (by decide) f194_54)) (tq ((E_isub f194_55)) ((tq ((E_callV pn_195 pc_195 rfl rfl (Nat.le_of_ble_eq_true rfl) f194_56)) (if_pos (zS37 hS))))))))
theorem t194_59 {X : XX} {d : Nat} {sz sl : Nat} {sh : Nat → Nat × Nat} {R : Nat → Nat → Option Nat} {I : Nat → Nat → Int32} {J : Nat → Nat → Int64} (hS : SF sh R) {l1 : Int32} {l3 : Int32} {l4 : Int32} {s0 : Int32} {s1 : Int32} {s2 : Int32} : exe X d 194 59 [Value.ref 37, Value.int l1, dm, Value.int l3, Value.int l4] [Value.int s0, Value.int s1, Value.int s2] (sz, sl, sh, R, I, J) =
    (if s1 ≤ s0 then exe X d 194 4 [Value.ref 37, Value.int l1, Value.int (s2 + (0)), Value.int (l4 + (1)), dm] [] (sz, sl, sh, R, I, J) else ((ev X d 195 [Value.ref 37, Value.int l1, Value.int l3] (sz, sl, sh, R, I, J)).bind fun q => exe X d 194 68 [Value.ref 37, Value.int l1, dm, dm, Value.int l4] (q.1.toList ++ [Value.int s2]) q.2)) :=
  tq ((E_ic_le f194_59)) (ite_c (tq ((E_iconst (x := (0)) (by decide) f194_84)) (tq ((E_iadd f194_85)) (tq ((E_istore rfl f194_86)) (tq ((E_iload (x := l4) rfl f194_87)) (tq ((E_iconst (x := (1)) (by decide) f194_89)) (tq ((E_iadd f194_90)) (tq ((E_istore rfl f194_91)) ((E_goto f194_92))))))))) (tq ((E_aload (v := Value.ref 37) rfl rfl f194_62)) (tq ((E_iload (x := l1) rfl f194_63)) (tq ((E_iload (x := l3) rfl f194_64)) ((tq ((E_callV pn_195 pc_195 rfl rfl (Nat.le_of_ble_eq_true rfl) f194_65)) (if_pos (zS37 hS))))))))
theorem t194_68 {X : XX} {d : Nat} {sz sl : Nat} {sh : Nat → Nat × Nat} {R : Nat → Nat → Option Nat} {I : Nat → Nat → Int32} {J : Nat → Nat → Int64} (hS : SF sh R) {l1 : Int32} {l4 : Int32} {s0 : Int32} {s1 : Int32} : exe X d 194 68 [Value.ref 37, Value.int l1, dm, dm, Value.int l4] [Value.int s0, Value.int s1] (sz, sl, sh, R, I, J) =
    ((ev X d 195 [Value.ref 37, Value.int l1, Value.int (l4 + (1))] (sz, sl, sh, R, I, J)).bind fun q => exe X d 194 77 [Value.ref 37, Value.int l1, dm, dm, Value.int l4] (q.1.toList ++ [Value.int s0, Value.int s1]) q.2) :=
  tq ((E_aload (v := Value.ref 37) rfl rfl f194_68)) (tq ((E_iload (x := l1) rfl f194_69)) (tq ((E_iload (x := l4) rfl f194_70)) (tq ((E_iconst (x := (1)) (by decide) f194_72)) (tq ((E_iadd f194_73)) ((tq ((E_callV pn_195 pc_195 rfl rfl (Nat.le_of_ble_eq_true rfl) f194_74)) (if_pos (zS37 hS))))))))
theorem t194_77 {X : XX} {d : Nat} {sz sl : Nat} {sh : Nat → Nat × Nat} {R : Nat → Nat → Option Nat} {I : Nat → Nat → Int32} {J : Nat → Nat → Int64} {l1 : Int32} {l4 : Int32} {s0 : Int32} {s1 : Int32} {s2 : Int32} : exe X d 194 77 [Value.ref 37, Value.int l1, dm, dm, Value.int l4] [Value.int s0, Value.int s1, Value.int s2] (sz, sl, sh, R, I, J) =
    (if s1 ≤ s0 then exe X d 194 4 [Value.ref 37, Value.int l1, Value.int (s2 + (0)), Value.int (l4 + (1)), dm] [] (sz, sl, sh, R, I, J) else exe X d 194 4 [Value.ref 37, Value.int l1, Value.int (s2 + (1)), Value.int (l4 + (1)), dm] [] (sz, sl, sh, R, I, J)) :=
  tq ((E_ic_le f194_77)) (ite_c (tq ((E_iconst (x := (0)) (by decide) f194_84)) (tq ((E_iadd f194_85)) (tq ((E_istore rfl f194_86)) (tq ((E_iload (x := l4) rfl f194_87)) (tq ((E_iconst (x := (1)) (by decide) f194_89)) (tq ((E_iadd f194_90)) (tq ((E_istore rfl f194_91)) ((E_goto f194_92))))))))) (tq ((E_iconst (x := (1)) (by decide) f194_80)) (tq ((E_goto f194_81)) (tq ((E_iadd f194_85)) (tq ((E_istore rfl f194_86)) (tq ((E_iload (x := l4) rfl f194_87)) (tq ((E_iconst (x := (1)) (by decide) f194_89)) (tq ((E_iadd f194_90)) (tq ((E_istore rfl f194_91)) ((E_goto f194_92)))))))))))
theorem n194 {X : XX} {d : Nat} {h : HP} {a0 : Int32} : ev X (d + 1) 194 [Value.ref 37, Value.int a0] h = exe X d 194 0 [Value.ref 37, Value.int a0, dm, dm, dm] [] h := ev_exe (Nat.le_of_ble_eq_true rfl)
theorem f195_0 : fr 195 0 = some (.iload 2, 1, [], []) := by decide +kernel
theorem f195_1 : fr 195 1 = some (.iconst 0, 1, [], []) := by decide +kernel
theorem f195_2 : fr 195 2 = some (.iconst 7, 2, [], []) := by decide +kernel
theorem f195_4 : fr 195 4 = some (.invokestatic 148, 3, [], []) := by decide +kernel
theorem f195_7 : fr 195 7 = some (.ifCond .eq 24, 3, [], [0, 1, 2]) := by decide +kernel
theorem f195_10 : fr 195 10 = some (.aload 0, 1, [0], []) := by decide +kernel
theorem f195_11 : fr 195 11 = some (.getfield 11005, 3, [], []) := by decide +kernel
theorem f195_14 : fr 195 14 = some (.iconst 8, 2, [], []) := by decide +kernel
theorem f195_16 : fr 195 16 = some (.iload 1, 1, [1], []) := by decide +kernel
theorem f195_17 : fr 195 17 = some (.imul, 1, [], []) := by decide +kernel
theorem f195_18 : fr 195 18 = some (.iload 2, 1, [2], []) := by decide +kernel
theorem f195_19 : fr 195 19 = some (.iadd, 1, [], []) := by decide +kernel
theorem f195_20 : fr 195 20 = some (.iaload, 1, [], []) := by decide +kernel
theorem f195_21 : fr 195 21 = some (.goto 25, 3, [], []) := by decide +kernel
theorem f195_24 : fr 195 24 = some (.iconst (-1), 1, [], []) := by decide +kernel
theorem f195_25 : fr 195 25 = some (.ireturn, 1, [], []) := by decide +kernel
theorem t195_0 {X : XX} {d : Nat} {sz sl : Nat} {sh : Nat → Nat × Nat} {R : Nat → Nat → Option Nat} {I : Nat → Nat → Int32} {J : Nat → Nat → Int64} {l1 : Int32} {l2 : Int32} : exe X d 195 0 [Value.ref 37, Value.int l1, Value.int l2] [] (sz, sl, sh, R, I, J) =
    ((ev X d 148 [Value.int l2, Value.int (0), Value.int (7)] (sz, sl, sh, R, I, J)).bind fun q => exe X d 195 7 [Value.ref 37, Value.int l1, Value.int l2] (q.1.toList ++ []) q.2) :=
  tq ((E_iload (x := l2) rfl f195_0)) (tq ((E_iconst (x := (0)) (by decide) f195_1)) (tq ((E_iconst (x := (7)) (by decide) f195_2)) ((E_callS pn_148 rfl rfl (Nat.le_of_ble_eq_true rfl) (Nat.le_of_ble_eq_true rfl) f195_4))))
theorem t195_7 {X : XX} {d : Nat} {sz sl : Nat} {sh : Nat → Nat × Nat} {R : Nat → Nat → Option Nat} {I : Nat → Nat → Int32} {J : Nat → Nat → Int64} (hS : SF sh R) {l1 : Int32} {l2 : Int32} {s0 : Int32} : exe X d 195 7 [Value.ref 37, Value.int l1, Value.int l2] [Value.int s0] (sz, sl, sh, R, I, J) =
    (if s0 = 0 then some (some (Value.int (-1)), (sz, sl, sh, R, I, J)) else (if inb (((8) * l1) + l2) 320 then some (some (Value.int (I 42 (((8) * l1) + l2).toNatClampNeg)), (sz, sl, sh, R, I, J)) else none)) :=
  tq ((E_if_eq f195_7)) (ite_c (tq ((E_iconst (x := (-1)) (by decide) f195_24)) ((E_iret pr_195 f195_25))) (tq ((E_aload (v := Value.ref 37) rfl rfl f195_10)) (tq (tq ((G11005 f195_11)) (if_pos (zS37 hS))) (tq (exe_R (zR37_5 hS)) (tq ((E_iconst (x := (8)) (by decide) f195_14)) (tq ((E_iload (x := l1) rfl f195_16)) (tq ((E_imul f195_17)) (tq ((E_iload (x := l2) rfl f195_18)) (tq ((E_iadd f195_19)) (tq (tq ((E_iald f195_20)) (ite_ar (zS42 hS))) (ite_c (tq ((E_goto f195_21)) ((E_iret pr_195 f195_25))) rfl)))))))))))
theorem n195 {X : XX} {d : Nat} {h : HP} {a0 : Int32} {a1 : Int32} : ev X (d + 1) 195 [Value.ref 37, Value.int a0, Value.int a1] h = exe X d 195 0 [Value.ref 37, Value.int a0, Value.int a1] [] h := ev_exe (Nat.le_of_ble_eq_true rfl)
theorem f196_0 : fr 196 0 = some (.iconst 0, 1, [], []) := by decide +kernel
theorem f196_1 : fr 196 1 = some (.istore 2, 1, [], []) := by decide +kernel
theorem f196_2 : fr 196 2 = some (.iconst 1, 1, [], []) := by decide +kernel
theorem f196_3 : fr 196 3 = some (.istore 3, 1, [], []) := by decide +kernel
theorem f196_4 : fr 196 4 = some (.iload 3, 1, [], []) := by decide +kernel
theorem f196_5 : fr 196 5 = some (.iconst 8, 2, [], []) := by decide +kernel
theorem f196_7 : fr 196 7 = some (.if_icmp .ge 37, 3, [], [0, 1, 3]) := by decide +kernel
theorem f196_10 : fr 196 10 = some (.aload 0, 1, [], []) := by decide +kernel
theorem f196_11 : fr 196 11 = some (.iload 1, 1, [], []) := by decide +kernel
theorem f196_12 : fr 196 12 = some (.iload 3, 1, [], []) := by decide +kernel
theorem f196_13 : fr 196 13 = some (.invokevirtual 195, 3, [], []) := by decide +kernel
theorem f196_16 : fr 196 16 = some (.aload 0, 1, [], []) := by decide +kernel
theorem f196_17 : fr 196 17 = some (.iload 1, 1, [], []) := by decide +kernel
theorem f196_18 : fr 196 18 = some (.iload 2, 1, [], []) := by decide +kernel
theorem f196_19 : fr 196 19 = some (.invokevirtual 195, 3, [], []) := by decide +kernel
theorem f196_22 : fr 196 22 = some (.if_icmp .le 29, 3, [2], []) := by decide +kernel
theorem f196_25 : fr 196 25 = some (.iload 3, 1, [], []) := by decide +kernel
theorem f196_26 : fr 196 26 = some (.goto 30, 3, [], []) := by decide +kernel
theorem f196_29 : fr 196 29 = some (.iload 2, 1, [2], []) := by decide +kernel
theorem f196_30 : fr 196 30 = some (.istore 2, 1, [], []) := by decide +kernel
theorem f196_31 : fr 196 31 = some (.iinc 3 1, 3, [], []) := by decide +kernel
theorem f196_34 : fr 196 34 = some (.goto 4, 3, [], []) := by decide +kernel
theorem f196_37 : fr 196 37 = some (.iload 2, 1, [2], []) := by decide +kernel
theorem f196_38 : fr 196 38 = some (.ireturn, 1, [], []) := by decide +kernel
theorem t196_0 {X : XX} {d : Nat} {sz sl : Nat} {sh : Nat → Nat × Nat} {R : Nat → Nat → Option Nat} {I : Nat → Nat → Int32} {J : Nat → Nat → Int64} {l1 : Int32} : exe X d 196 0 [Value.ref 37, Value.int l1, dm, dm] [] (sz, sl, sh, R, I, J) =
    exe X d 196 4 [Value.ref 37, Value.int l1, Value.int (0), Value.int (1)] [] (sz, sl, sh, R, I, J) :=
  tq ((E_iconst (x := (0)) (by decide) f196_0)) (tq ((E_istore rfl f196_1)) (tq ((E_iconst (x := (1)) (by decide) f196_2)) ((E_istore rfl f196_3))))
theorem t196_4 {X : XX} {d : Nat} {sz sl : Nat} {sh : Nat → Nat × Nat} {R : Nat → Nat → Option Nat} {I : Nat → Nat → Int32} {J : Nat → Nat → Int64} (hS : SF sh R) {l1 : Int32} {l2 : Int32} {l3 : Int32} : exe X d 196 4 [Value.ref 37, Value.int l1, Value.int l2, Value.int l3] [] (sz, sl, sh, R, I, J) =
    (if (8) ≤ l3 then some (some (Value.int l2), (sz, sl, sh, R, I, J)) else ((ev X d 195 [Value.ref 37, Value.int l1, Value.int l3] (sz, sl, sh, R, I, J)).bind fun q => exe X d 196 16 [Value.ref 37, Value.int l1, Value.int l2, Value.int l3] (q.1.toList ++ []) q.2)) :=
  tq ((E_iload (x := l3) rfl f196_4)) (tq ((E_iconst (x := (8)) (by decide) f196_5)) (tq ((E_ic_ge f196_7)) (ite_c (tq ((E_iload (x := l2) rfl f196_37)) ((E_iret pr_196 f196_38))) (tq ((E_aload (v := Value.ref 37) rfl rfl f196_10)) (tq ((E_iload (x := l1) rfl f196_11)) (tq ((E_iload (x := l3) rfl f196_12)) ((tq ((E_callV pn_195 pc_195 rfl rfl (Nat.le_of_ble_eq_true rfl) f196_13)) (if_pos (zS37 hS))))))))))
theorem t196_16 {X : XX} {d : Nat} {sz sl : Nat} {sh : Nat → Nat × Nat} {R : Nat → Nat → Option Nat} {I : Nat → Nat → Int32} {J : Nat → Nat → Int64} (hS : SF sh R) {l1 : Int32} {l2 : Int32} {l3 : Int32} {s0 : Int32} : exe X d 196 16 [Value.ref 37, Value.int l1, Value.int l2, Value.int l3] [Value.int s0] (sz, sl, sh, R, I, J) =
    ((ev X d 195 [Value.ref 37, Value.int l1, Value.int l2] (sz, sl, sh, R, I, J)).bind fun q => exe X d 196 22 [Value.ref 37, Value.int l1, Value.int l2, Value.int l3] (q.1.toList ++ [Value.int s0]) q.2) :=
  tq ((E_aload (v := Value.ref 37) rfl rfl f196_16)) (tq ((E_iload (x := l1) rfl f196_17)) (tq ((E_iload (x := l2) rfl f196_18)) ((tq ((E_callV pn_195 pc_195 rfl rfl (Nat.le_of_ble_eq_true rfl) f196_19)) (if_pos (zS37 hS))))))
theorem t196_22 {X : XX} {d : Nat} {sz sl : Nat} {sh : Nat → Nat × Nat} {R : Nat → Nat → Option Nat} {I : Nat → Nat → Int32} {J : Nat → Nat → Int64} {l1 : Int32} {l2 : Int32} {l3 : Int32} {s0 : Int32} {s1 : Int32} : exe X d 196 22 [Value.ref 37, Value.int l1, Value.int l2, Value.int l3] [Value.int s0, Value.int s1] (sz, sl, sh, R, I, J) =
    (if s1 ≤ s0 then exe X d 196 4 [Value.ref 37, Value.int l1, Value.int l2, Value.int (l3 + (1))] [] (sz, sl, sh, R, I, J) else exe X d 196 4 [Value.ref 37, Value.int l1, Value.int l3, Value.int (l3 + (1))] [] (sz, sl, sh, R, I, J)) :=
  tq ((E_ic_le f196_22)) (ite_c (tq ((E_iload (x := l2) rfl f196_29)) (tq ((E_istore rfl f196_30)) (tq ((E_iinc (x := l3) (x' := (1)) rfl rfl (by decide) f196_31)) ((E_goto f196_34))))) (tq ((E_iload (x := l3) rfl f196_25)) (tq ((E_goto f196_26)) (tq ((E_istore rfl f196_30)) (tq ((E_iinc (x := l3) (x' := (1)) rfl rfl (by decide) f196_31)) ((E_goto f196_34)))))))
theorem n196 {X : XX} {d : Nat} {h : HP} {a0 : Int32} : ev X (d + 1) 196 [Value.ref 37, Value.int a0] h = exe X d 196 0 [Value.ref 37, Value.int a0, dm, dm] [] h := ev_exe (Nat.le_of_ble_eq_true rfl)
theorem f197_0 : fr 197 0 = some (.aload 0, 1, [], []) := by decide +kernel
theorem f197_1 : fr 197 1 = some (.iload 1, 1, [], []) := by decide +kernel
theorem f197_2 : fr 197 2 = some (.invokevirtual 150, 3, [], []) := by decide +kernel
theorem f197_5 : fr 197 5 = some (.ifCond .eq 27, 3, [], [0, 1, 2, 3]) := by decide +kernel
theorem f197_8 : fr 197 8 = some (.iload 2, 1, [], []) := by decide +kernel
theorem f197_9 : fr 197 9 = some (.iconst 0, 1, [], []) := by decide +kernel
theorem f197_10 : fr 197 10 = some (.iconst 99999, 2, [], []) := by decide +kernel
theorem f197_12 : fr 197 12 = some (.invokestatic 148, 3, [], []) := by decide +kernel
theorem f197_15 : fr 197 15 = some (.ifCond .eq 27, 3, [], [0, 1, 2, 3]) := by decide +kernel
theorem f197_18 : fr 197 18 = some (.iload 3, 1, [], []) := by decide +kernel
theorem f197_19 : fr 197 19 = some (.iconst 0, 1, [], []) := by decide +kernel
theorem f197_20 : fr 197 20 = some (.iconst 1, 1, [], []) := by decide +kernel
theorem f197_21 : fr 197 21 = some (.invokestatic 148, 3, [], []) := by decide +kernel
theorem f197_24 : fr 197 24 = some (.ifCond .ne 29, 3, [0, 1, 2, 3], []) := by decide +kernel
theorem f197_27 : fr 197 27 = some (.iconst (-1), 1, [], []) := by decide +kernel
theorem f197_28 : fr 197 28 = some (.ireturn, 1, [], []) := by decide +kernel
theorem f197_29 : fr 197 29 = some (.iconst 0, 1, [], []) := by decide +kernel
theorem f197_30 : fr 197 30 = some (.istore 4, 2, [], []) := by decide +kernel
theorem f197_32 : fr 197 32 = some (.iload 4, 2, [], []) := by decide +kernel
theorem f197_34 : fr 197 34 = some (.iconst 8, 2, [], []) := by decide +kernel
theorem f197_36 : fr 197 36 = some (.if_icmp .ge 56, 3, [], []) := by decide +kernel
theorem f197_39 : fr 197 39 = some (.aload 0, 1, [], []) := by decide +kernel
theorem f197_40 : fr 197 40 = some (.iload 1, 1, [], []) := by decide +kernel
theorem f197_41 : fr 197 41 = some (.iload 4, 2, [], []) := by decide +kernel
theorem f197_43 : fr 197 43 = some (.invokevirtual 195, 3, [], []) := by decide +kernel
theorem f197_46 : fr 197 46 = some (.iload 2, 1, [], []) := by decide +kernel
theorem f197_47 : fr 197 47 = some (.if_icmp .ge 56, 3, [], []) := by decide +kernel
theorem f197_50 : fr 197 50 = some (.iinc 4 1, 3, [], []) := by decide +kernel
theorem f197_53 : fr 197 53 = some (.goto 32, 3, [], []) := by decide +kernel
theorem f197_56 : fr 197 56 = some (.iconst 0, 1, [], []) := by decide +kernel
theorem f197_57 : fr 197 57 = some (.istore 5, 2, [], []) := by decide +kernel
theorem f197_59 : fr 197 59 = some (.iload 5, 2, [], []) := by decide +kernel
theorem f197_61 : fr 197 61 = some (.iconst 8, 2, [], []) := by decide +kernel
theorem f197_63 : fr 197 63 = some (.if_icmp .ge 86, 3, [], [0, 1, 2]) := by decide +kernel
theorem f197_66 : fr 197 66 = some (.aload 0, 1, [], []) := by decide +kernel
theorem f197_67 : fr 197 67 = some (.iload 1, 1, [], []) := by decide +kernel
theorem f197_68 : fr 197 68 = some (.iconst 7, 2, [], []) := by decide +kernel
theorem f197_70 : fr 197 70 = some (.iload 5, 2, [], []) := by decide +kernel
theorem f197_72 : fr 197 72 = some (.isub, 1, [], []) := by decide +kernel
theorem f197_73 : fr 197 73 = some (.invokevirtual 195, 3, [], []) := by decide +kernel
theorem f197_76 : fr 197 76 = some (.iload 2, 1, [], []) := by decide +kernel
theorem f197_77 : fr 197 77 = some (.if_icmp .ge 86, 3, [], [0, 1, 2]) := by decide +kernel
theorem f197_80 : fr 197 80 = some (.iinc 5 1, 3, [], []) := by decide +kernel
theorem f197_83 : fr 197 83 = some (.goto 59, 3, [], []) := by decide +kernel
theorem f197_86 : fr 197 86 = some (.iload 4, 2, [], []) := by decide +kernel
theorem f197_88 : fr 197 88 = some (.iload 5, 2, [], []) := by decide +kernel
theorem f197_90 : fr 197 90 = some (.iadd, 1, [], []) := by decide +kernel
theorem f197_91 : fr 197 91 = some (.ifCond .ne 97, 3, [3, 4, 5], []) := by decide +kernel
theorem f197_94 : fr 197 94 = some (.iconst (-2), 2, [], []) := by decide +kernel
theorem f197_96 : fr 197 96 = some (.ireturn, 1, [], []) := by decide +kernel
theorem f197_97 : fr 197 97 = some (.iload 3, 1, [3], []) := by decide +kernel
theorem f197_98 : fr 197 98 = some (.ifCond .ne 118, 3, [], []) := by decide +kernel
theorem f197_101 : fr 197 101 = some (.iload 4, 2, [], []) := by decide +kernel
theorem f197_103 : fr 197 103 = some (.iload 5, 2, [], []) := by decide +kernel
theorem f197_105 : fr 197 105 = some (.if_icmp .lt 113, 3, [5], [4]) := by decide +kernel
theorem f197_108 : fr 197 108 = some (.iload 4, 2, [4], []) := by decide +kernel
theorem f197_110 : fr 197 110 = some (.goto 130, 3, [], []) := by decide +kernel
theorem f197_113 : fr 197 113 = some (.iload 5, 2, [5], []) := by decide +kernel
theorem f197_115 : fr 197 115 = some (.goto 130, 3, [], []) := by decide +kernel
theorem f197_118 : fr 197 118 = some (.iload 4, 2, [4], []) := by decide +kernel
theorem f197_120 : fr 197 120 = some (.iload 5, 2, [5], []) := by decide +kernel
theorem f197_122 : fr 197 122 = some (.if_icmp .lt 129, 3, [], []) := by decide +kernel
theorem f197_125 : fr 197 125 = some (.iconst 0, 1, [], []) := by decide +kernel
theorem f197_126 : fr 197 126 = some (.goto 130, 3, [], []) := by decide +kernel
theorem f197_129 : fr 197 129 = some (.iconst 1, 1, [], []) := by decide +kernel
theorem f197_130 : fr 197 130 = some (.ireturn, 1, [], []) := by decide +kernel
theorem t197_0 {X : XX} {d : Nat} {sz sl : Nat} {sh : Nat → Nat × Nat} {R : Nat → Nat → Option Nat} {I : Nat → Nat → Int32} {J : Nat → Nat → Int64} (hS : SF sh R) {l1 : Int32} {l2 : Int32} {l3 : Int32} : exe X d 197 0 [Value.ref 37, Value.int l1, Value.int l2, Value.int l3, dm, dm] [] (sz, sl, sh, R, I, J) =
    ((ev X d 150 [Value.ref 37, Value.int l1] (sz, sl, sh, R, I, J)).bind fun q => exe X d 197 5 [Value.ref 37, Value.int l1, Value.int l2, Value.int l3, dm, dm] (q.1.toList ++ []) q.2) :=
  tq ((E_aload (v := Value.ref 37) rfl rfl f197_0)) (tq ((E_iload (x := l1) rfl f197_1)) ((tq ((E_callV pn_150 pc_150 rfl rfl (Nat.le_of_ble_eq_true rfl) f197_2)) (if_pos (zS37 hS)))))
theorem t197_5 {X : XX} {d : Nat} {sz sl : Nat} {sh : Nat → Nat × Nat} {R : Nat → Nat → Option Nat} {I : Nat → Nat → Int32} {J : Nat → Nat → Int64} {l1 : Int32} {l2 : Int32} {l3 : Int32} {s0 : Int32} : exe X d 197 5 [Value.ref 37, Value.int l1, Value.int l2, Value.int l3, dm, dm] [Value.int s0] (sz, sl, sh, R, I, J) =
    (if s0 = 0 then some (some (Value.int (-1)), (sz, sl, sh, R, I, J)) else ((ev X d 148 [Value.int l2, Value.int (0), Value.int (99999)] (sz, sl, sh, R, I, J)).bind fun q => exe X d 197 15 [Value.ref 37, Value.int l1, Value.int l2, Value.int l3, dm, dm] (q.1.toList ++ []) q.2)) :=
  tq ((E_if_eq f197_5)) (ite_c (tq ((E_iconst (x := (-1)) (by decide) f197_27)) ((E_iret pr_197 f197_28))) (tq ((E_iload (x := l2) rfl f197_8)) (tq ((E_iconst (x := (0)) (by decide) f197_9)) (tq ((E_iconst (x := (99999)) (by decide) f197_10)) ((E_callS pn_148 rfl rfl (Nat.le_of_ble_eq_true rfl) (Nat.le_of_ble_eq_true rfl) f197_12))))))
theorem t197_15 {X : XX} {d : Nat} {sz sl : Nat} {sh : Nat → Nat × Nat} {R : Nat → Nat → Option Nat} {I : Nat → Nat → Int32} {J : Nat → Nat → Int64} {l1 : Int32} {l2 : Int32} {l3 : Int32} {s0 : Int32} : exe X d 197 15 [Value.ref 37, Value.int l1, Value.int l2, Value.int l3, dm, dm] [Value.int s0] (sz, sl, sh, R, I, J) =
    (if s0 = 0 then some (some (Value.int (-1)), (sz, sl, sh, R, I, J)) else ((ev X d 148 [Value.int l3, Value.int (0), Value.int (1)] (sz, sl, sh, R, I, J)).bind fun q => exe X d 197 24 [Value.ref 37, Value.int l1, Value.int l2, Value.int l3, dm, dm] (q.1.toList ++ []) q.2)) :=
  tq ((E_if_eq f197_15)) (ite_c (tq ((E_iconst (x := (-1)) (by decide) f197_27)) ((E_iret pr_197 f197_28))) (tq ((E_iload (x := l3) rfl f197_18)) (tq ((E_iconst (x := (0)) (by decide) f197_19)) (tq ((E_iconst (x := (1)) (by decide) f197_20)) ((E_callS pn_148 rfl rfl (Nat.le_of_ble_eq_true rfl) (Nat.le_of_ble_eq_true rfl) f197_21))))))
theorem t197_24 {X : XX} {d : Nat} {sz sl : Nat} {sh : Nat → Nat × Nat} {R : Nat → Nat → Option Nat} {I : Nat → Nat → Int32} {J : Nat → Nat → Int64} {l1 : Int32} {l2 : Int32} {l3 : Int32} {s0 : Int32} : exe X d 197 24 [Value.ref 37, Value.int l1, Value.int l2, Value.int l3, dm, dm] [Value.int s0] (sz, sl, sh, R, I, J) =
    (if ¬ s0 = 0 then exe X d 197 32 [Value.ref 37, Value.int l1, Value.int l2, Value.int l3, Value.int (0), dm] [] (sz, sl, sh, R, I, J) else some (some (Value.int (-1)), (sz, sl, sh, R, I, J))) :=
  tq ((E_if_ne f197_24)) (ite_c (tq ((E_iconst (x := (0)) (by decide) f197_29)) ((E_istore rfl f197_30))) (tq ((E_iconst (x := (-1)) (by decide) f197_27)) ((E_iret pr_197 f197_28))))
theorem t197_32 {X : XX} {d : Nat} {sz sl : Nat} {sh : Nat → Nat × Nat} {R : Nat → Nat → Option Nat} {I : Nat → Nat → Int32} {J : Nat → Nat → Int64} (hS : SF sh R) {l1 : Int32} {l2 : Int32} {l3 : Int32} {l4 : Int32} : exe X d 197 32 [Value.ref 37, Value.int l1, Value.int l2, Value.int l3, Value.int l4, dm] [] (sz, sl, sh, R, I, J) =
    (if (8) ≤ l4 then exe X d 197 59 [Value.ref 37, Value.int l1, Value.int l2, Value.int l3, Value.int l4, Value.int (0)] [] (sz, sl, sh, R, I, J) else ((ev X d 195 [Value.ref 37, Value.int l1, Value.int l4] (sz, sl, sh, R, I, J)).bind fun q => exe X d 197 46 [Value.ref 37, Value.int l1, Value.int l2, Value.int l3, Value.int l4, dm] (q.1.toList ++ []) q.2)) :=
  tq ((E_iload (x := l4) rfl f197_32)) (tq ((E_iconst (x := (8)) (by decide) f197_34)) (tq ((E_ic_ge f197_36)) (ite_c (tq ((E_iconst (x := (0)) (by decide) f197_56)) ((E_istore rfl f197_57))) (tq ((E_aload (v := Value.ref 37) rfl rfl f197_39)) (tq ((E_iload (x := l1) rfl f197_40)) (tq ((E_iload (x := l4) rfl f197_41)) ((tq ((E_callV pn_195 pc_195 rfl rfl (Nat.le_of_ble_eq_true rfl) f197_43)) (if_pos (zS37 hS))))))))))
theorem t197_46 {X : XX} {d : Nat} {sz sl : Nat} {sh : Nat → Nat × Nat} {R : Nat → Nat → Option Nat} {I : Nat → Nat → Int32} {J : Nat → Nat → Int64} {l1 : Int32} {l2 : Int32} {l3 : Int32} {l4 : Int32} {s0 : Int32} : exe X d 197 46 [Value.ref 37, Value.int l1, Value.int l2, Value.int l3, Value.int l4, dm] [Value.int s0] (sz, sl, sh, R, I, J) =
    (if l2 ≤ s0 then exe X d 197 59 [Value.ref 37, Value.int l1, Value.int l2, Value.int l3, Value.int l4, Value.int (0)] [] (sz, sl, sh, R, I, J) else exe X d 197 32 [Value.ref 37, Value.int l1, Value.int l2, Value.int l3, Value.int (l4 + (1)), dm] [] (sz, sl, sh, R, I, J)) :=
  tq ((E_iload (x := l2) rfl f197_46)) (tq ((E_ic_ge f197_47)) (ite_c (tq ((E_iconst (x := (0)) (by decide) f197_56)) ((E_istore rfl f197_57))) (tq ((E_iinc (x := l4) (x' := (1)) rfl rfl (by decide) f197_50)) ((E_goto f197_53)))))
theorem t197_59 {X : XX} {d : Nat} {sz sl : Nat} {sh : Nat → Nat × Nat} {R : Nat → Nat → Option Nat} {I : Nat → Nat → Int32} {J : Nat → Nat → Int64} (hS : SF sh R) {l1 : Int32} {l2 : Int32} {l3 : Int32} {l4 : Int32} {l5 : Int32} : exe X d 197 59 [Value.ref 37, Value.int l1, Value.int l2, Value.int l3, Value.int l4, Value.int l5] [] (sz, sl, sh, R, I, J) =
    (if (8) ≤ l5 then exe X d 197 86 [dm, dm, dm, Value.int l3, Value.int l4, Value.int l5] [] (sz, sl, sh, R, I, J) else ((ev X d 195 [Value.ref 37, Value.int l1, Value.int ((7) - l5)] (sz, sl, sh, R, I, J)).bind fun q => exe X d 197 76 [Value.ref 37, Value.int l1, Value.int l2, Value.int l3, Value.int l4, Value.int l5] (q.1.toList ++ []) q.2)) :=
  tq ((E_iload (x := l5) rfl f197_59)) (tq ((E_iconst (x := (8)) (by decide) f197_61)) (tq ((E_ic_ge f197_63)) (ite_c (rfl) (tq ((E_aload (v := Value.ref 37) rfl rfl f197_66)) (tq ((E_iload (x := l1) rfl f197_67)) (tq ((E_iconst (x := (7)) (by decide) f197_68)) (tq ((E_iload (x := l5) rfl f197_70)) (tq ((E_isub f197_72)) ((tq ((E_callV pn_195 pc_195 rfl rfl (Nat.le_of_ble_eq_true rfl) f197_73)) (if_pos (zS37 hS))))))))))))
theorem t197_76 {X : XX} {d : Nat} {sz sl : Nat} {sh : Nat → Nat × Nat} {R : Nat → Nat → Option Nat} {I : Nat → Nat → Int32} {J : Nat → Nat → Int64} {l1 : Int32} {l2 : Int32} {l3 : Int32} {l4 : Int32} {l5 : Int32} {s0 : Int32} : exe X d 197 76 [Value.ref 37, Value.int l1, Value.int l2, Value.int l3, Value.int l4, Value.int l5] [Value.int s0] (sz, sl, sh, R, I, J) =
    (if l2 ≤ s0 then exe X d 197 86 [dm, dm, dm, Value.int l3, Value.int l4, Value.int l5] [] (sz, sl, sh, R, I, J) else exe X d 197 59 [Value.ref 37, Value.int l1, Value.int l2, Value.int l3, Value.int l4, Value.int (l5 + (1))] [] (sz, sl, sh, R, I, J)) :=
  tq ((E_iload (x := l2) rfl f197_76)) (tq ((E_ic_ge f197_77)) (ite_c (rfl) (tq ((E_iinc (x := l5) (x' := (1)) rfl rfl (by decide) f197_80)) ((E_goto f197_83)))))
theorem t197_86 {X : XX} {d : Nat} {sz sl : Nat} {sh : Nat → Nat × Nat} {R : Nat → Nat → Option Nat} {I : Nat → Nat → Int32} {J : Nat → Nat → Int64} {l3 : Int32} {l4 : Int32} {l5 : Int32} : exe X d 197 86 [dm, dm, dm, Value.int l3, Value.int l4, Value.int l5] [] (sz, sl, sh, R, I, J) =
    (if ¬ (l4 + l5) = 0 then (if ¬ l3 = 0 then (if l4 < l5 then some (some (Value.int (1)), (sz, sl, sh, R, I, J)) else some (some (Value.int (0)), (sz, sl, sh, R, I, J))) else (if l4 < l5 then some (some (Value.int l5), (sz, sl, sh, R, I, J)) else some (some (Value.int l4), (sz, sl, sh, R, I, J)))) else some (some (Value.int (-2)), (sz, sl, sh, R, I, J))) :=
  tq ((E_iload (x := l4) rfl f197_86)) (tq ((E_iload (x := l5) rfl f197_88)) (tq ((E_iadd f197_90)) (tq ((E_if_ne f197_91)) (ite_c (tq ((E_iload (x := l3) rfl f197_97)) (tq ((E_if_ne f197_98)) (ite_c (tq ((E_iload (x := l4) rfl f197_118)) (tq ((E_iload (x := l5) rfl f197_120)) (tq ((E_ic_lt f197_122)) (ite_c (tq ((E_iconst (x := (1)) (by decide) f197_129)) ((E_iret pr_197 f197_130))) (tq ((E_iconst (x := (0)) (by decide) f197_125)) (tq ((E_goto f197_126)) ((E_iret pr_197 f197_130)))))))) (tq ((E_iload (x := l4) rfl f197_101)) (tq ((E_iload (x := l5) rfl f197_103)) (tq ((E_ic_lt f197_105)) (ite_c (tq ((E_iload (x := l5) rfl f197_113)) (tq ((E_goto f197_115)) ((E_iret pr_197 f197_130)))) (tq ((E_iload (x := l4) rfl f197_108)) (tq ((E_goto f197_110)) ((E_iret pr_197 f197_130))))))))))) (tq ((E_iconst (x := (-2)) (by decide) f197_94)) ((E_iret pr_197 f197_96)))))))
theorem n197 {X : XX} {d : Nat} {h : HP} {a0 : Int32} {a1 : Int32} {a2 : Int32} : ev X (d + 1) 197 [Value.ref 37, Value.int a0, Value.int a1, Value.int a2] h = exe X d 197 0 [Value.ref 37, Value.int a0, Value.int a1, Value.int a2, dm, dm] [] h := ev_exe (Nat.le_of_ble_eq_true rfl)
theorem f198_0 : fr 198 0 = some (.aload 0, 1, [], []) := by decide +kernel
theorem f198_1 : fr 198 1 = some (.iload 1, 1, [], []) := by decide +kernel
theorem f198_2 : fr 198 2 = some (.invokevirtual 179, 3, [], []) := by decide +kernel
theorem f198_5 : fr 198 5 = some (.ifCond .eq 51, 3, [], [0, 1, 2, 3, 4]) := by decide +kernel
theorem f198_8 : fr 198 8 = some (.aload 0, 1, [], []) := by decide +kernel
theorem f198_9 : fr 198 9 = some (.iload 2, 1, [], []) := by decide +kernel
theorem f198_10 : fr 198 10 = some (.invokevirtual 154, 3, [], []) := by decide +kernel
theorem f198_13 : fr 198 13 = some (.ifCond .eq 51, 3, [], [0, 1, 2, 3, 4]) := by decide +kernel
theorem f198_16 : fr 198 16 = some (.iload 3, 1, [], []) := by decide +kernel
theorem f198_17 : fr 198 17 = some (.iconst 0, 1, [], []) := by decide +kernel
theorem f198_18 : fr 198 18 = some (.iconst 799, 3, [], []) := by decide +kernel
theorem f198_21 : fr 198 21 = some (.invokestatic 148, 3, [], []) := by decide +kernel
theorem f198_24 : fr 198 24 = some (.ifCond .eq 51, 3, [], [0, 1, 2, 3, 4]) := by decide +kernel
theorem f198_27 : fr 198 27 = some (.iload 3, 1, [], []) := by decide +kernel
theorem f198_28 : fr 198 28 = some (.iconst 10, 2, [], []) := by decide +kernel
theorem f198_30 : fr 198 30 = some (.idiv, 1, [], []) := by decide +kernel
theorem f198_31 : fr 198 31 = some (.iconst 10, 2, [], []) := by decide +kernel
theorem f198_33 : fr 198 33 = some (.irem, 1, [], []) := by decide +kernel
theorem f198_34 : fr 198 34 = some (.iload 3, 1, [], []) := by decide +kernel
theorem f198_35 : fr 198 35 = some (.iconst 10, 2, [], []) := by decide +kernel
theorem f198_37 : fr 198 37 = some (.irem, 1, [], []) := by decide +kernel
theorem f198_38 : fr 198 38 = some (.if_icmp .gt 51, 3, [], [0, 1, 2, 3, 4]) := by decide +kernel
theorem f198_41 : fr 198 41 = some (.iload 4, 2, [], []) := by decide +kernel
theorem f198_43 : fr 198 43 = some (.iconst 0, 1, [], []) := by decide +kernel
theorem f198_44 : fr 198 44 = some (.iconst 1, 1, [], []) := by decide +kernel
theorem f198_45 : fr 198 45 = some (.invokestatic 148, 3, [], []) := by decide +kernel
theorem f198_48 : fr 198 48 = some (.ifCond .ne 53, 3, [0, 1, 2, 3, 4], []) := by decide +kernel
theorem f198_51 : fr 198 51 = some (.iconst (-1), 1, [], []) := by decide +kernel
theorem f198_52 : fr 198 52 = some (.ireturn, 1, [], []) := by decide +kernel
theorem f198_53 : fr 198 53 = some (.jsr_w (-1), 3, [], []) := by decide +kernel
theorem f198_56 : fr 198 56 = some (.lstore 5, 2, [], []) := by decide +kernel
theorem f198_58 : fr 198 58 = some (.aload 0, 1, [], []) := by decide +kernel
theorem f198_59 : fr 198 59 = some (.getfield 11005, 3, [], []) := by decide +kernel
theorem f198_62 : fr 198 62 = some (.iconst 8, 2, [], []) := by decide +kernel
theorem f198_64 : fr 198 64 = some (.iload 2, 1, [], []) := by decide +kernel
theorem f198_65 : fr 198 65 = some (.iconst 10, 2, [], []) := by decide +kernel
theorem f198_67 : fr 198 67 = some (.idiv, 1, [], []) := by decide +kernel
theorem f198_68 : fr 198 68 = some (.imul, 1, [], []) := by decide +kernel
theorem f198_69 : fr 198 69 = some (.iload 2, 1, [], []) := by decide +kernel
theorem f198_70 : fr 198 70 = some (.iconst 10, 2, [], []) := by decide +kernel
theorem f198_72 : fr 198 72 = some (.irem, 1, [], []) := by decide +kernel
theorem f198_73 : fr 198 73 = some (.iadd, 1, [], []) := by decide +kernel
theorem f198_74 : fr 198 74 = some (.iaload, 1, [], []) := by decide +kernel
theorem f198_75 : fr 198 75 = some (.i2l, 1, [], []) := by decide +kernel
theorem f198_76 : fr 198 76 = some (.jsr_w 1000, 3, [], []) := by decide +kernel
theorem f198_79 : fr 198 79 = some (.lmul, 1, [], []) := by decide +kernel
theorem f198_80 : fr 198 80 = some (.lstore 7, 2, [], []) := by decide +kernel
theorem f198_82 : fr 198 82 = some (.iload 3, 1, [], []) := by decide +kernel
theorem f198_83 : fr 198 83 = some (.iconst 10, 2, [], []) := by decide +kernel
theorem f198_85 : fr 198 85 = some (.idiv, 1, [], []) := by decide +kernel
theorem f198_86 : fr 198 86 = some (.iconst 10, 2, [], []) := by decide +kernel
theorem f198_88 : fr 198 88 = some (.irem, 1, [], []) := by decide +kernel
theorem f198_89 : fr 198 89 = some (.istore 9, 2, [], []) := by decide +kernel
theorem f198_91 : fr 198 91 = some (.iload 9, 2, [], []) := by decide +kernel
theorem f198_93 : fr 198 93 = some (.iload 3, 1, [], []) := by decide +kernel
theorem f198_94 : fr 198 94 = some (.iconst 10, 2, [], []) := by decide +kernel
theorem f198_96 : fr 198 96 = some (.irem, 1, [], []) := by decide +kernel
theorem f198_97 : fr 198 97 = some (.if_icmp .gt 236, 3, [], [0, 1, 2, 3, 4, 7, 9]) := by decide +kernel
theorem f198_100 : fr 198 100 = some (.aload 0, 1, [], []) := by decide +kernel
theorem f198_101 : fr 198 101 = some (.iload 1, 1, [], []) := by decide +kernel
theorem f198_102 : fr 198 102 = some (.iload 2, 1, [], []) := by decide +kernel
theorem f198_103 : fr 198 103 = some (.iconst 10, 2, [], []) := by decide +kernel
theorem f198_105 : fr 198 105 = some (.idiv, 1, [], []) := by decide +kernel
theorem f198_106 : fr 198 106 = some (.iload 2, 1, [], []) := by decide +kernel
theorem f198_107 : fr 198 107 = some (.iconst 10, 2, [], []) := by decide +kernel
theorem f198_109 : fr 198 109 = some (.irem, 1, [], []) := by decide +kernel
theorem f198_110 : fr 198 110 = some (.iload 3, 1, [], []) := by decide +kernel
theorem f198_111 : fr 198 111 = some (.iconst 100, 2, [], []) := by decide +kernel
theorem f198_113 : fr 198 113 = some (.idiv, 1, [], []) := by decide +kernel
theorem f198_114 : fr 198 114 = some (.iconst 0, 1, [], []) := by decide +kernel
theorem f198_115 : fr 198 115 = some (.iload 9, 2, [], []) := by decide +kernel
theorem f198_117 : fr 198 117 = some (.iconst 0, 1, [], []) := by decide +kernel
theorem f198_118 : fr 198 118 = some (.invokevirtual 180, 3, [], []) := by decide +kernel
theorem f198_121 : fr 198 121 = some (.i2l, 1, [], []) := by decide +kernel
theorem f198_122 : fr 198 122 = some (.lstore 10, 2, [], []) := by decide +kernel
theorem f198_124 : fr 198 124 = some (.lload 10, 2, [10], []) := by decide +kernel
theorem f198_126 : fr 198 126 = some (.aload 0, 1, [], []) := by decide +kernel
theorem f198_127 : fr 198 127 = some (.iload 1, 1, [], []) := by decide +kernel
theorem f198_128 : fr 198 128 = some (.iload 2, 1, [], []) := by decide +kernel
theorem f198_129 : fr 198 129 = some (.iconst 10, 2, [], []) := by decide +kernel
theorem f198_131 : fr 198 131 = some (.idiv, 1, [], []) := by decide +kernel
theorem f198_132 : fr 198 132 = some (.iload 2, 1, [], []) := by decide +kernel
theorem f198_133 : fr 198 133 = some (.iconst 10, 2, [], []) := by decide +kernel
theorem f198_135 : fr 198 135 = some (.irem, 1, [], []) := by decide +kernel
theorem f198_136 : fr 198 136 = some (.iload 3, 1, [], []) := by decide +kernel
theorem f198_137 : fr 198 137 = some (.iconst 100, 2, [], []) := by decide +kernel
theorem f198_139 : fr 198 139 = some (.idiv, 1, [], []) := by decide +kernel
theorem f198_140 : fr 198 140 = some (.iconst 1, 1, [], []) := by decide +kernel
theorem f198_141 : fr 198 141 = some (.iload 9, 2, [], []) := by decide +kernel
theorem f198_143 : fr 198 143 = some (.iconst 0, 1, [], []) := by decide +kernel
theorem f198_144 : fr 198 144 = some (.invokevirtual 180, 3, [], []) := by decide +kernel
theorem f198_147 : fr 198 147 = some (.i2l, 1, [], []) := by decide +kernel
theorem f198_148 : fr 198 148 = some (.ladd, 1, [], []) := by decide +kernel
theorem f198_149 : fr 198 149 = some (.jsr_w 2, 3, [], []) := by decide +kernel
theorem f198_152 : fr 198 152 = some (.ldiv, 1, [], []) := by decide +kernel
theorem f198_153 : fr 198 153 = some (.lstore 12, 2, [], []) := by decide +kernel
theorem f198_155 : fr 198 155 = some (.lload 12, 2, [], []) := by decide +kernel
theorem f198_157 : fr 198 157 = some (.jsr_w 0, 1, [], []) := by decide +kernel
theorem f198_158 : fr 198 158 = some (.lcmp, 1, [], []) := by decide +kernel
theorem f198_159 : fr 198 159 = some (.ifCond .ne 165, 3, [0, 1, 2, 3, 4, 5, 7, 9, 12], []) := by decide +kernel
theorem f198_162 : fr 198 162 = some (.iconst (-2), 2, [], []) := by decide +kernel
theorem f198_164 : fr 198 164 = some (.ireturn, 1, [], []) := by decide +kernel
theorem f198_165 : fr 198 165 = some (.iload 4, 2, [], []) := by decide +kernel
theorem f198_167 : fr 198 167 = some (.ifCond .ne 178, 3, [], []) := by decide +kernel
theorem f198_170 : fr 198 170 = some (.lload 7, 2, [], []) := by decide +kernel
theorem f198_172 : fr 198 172 = some (.lload 12, 2, [12], []) := by decide +kernel
theorem f198_174 : fr 198 174 = some (.ldiv, 1, [], []) := by decide +kernel
theorem f198_175 : fr 198 175 = some (.goto 188, 3, [], []) := by decide +kernel
theorem f198_178 : fr 198 178 = some (.lload 7, 2, [], []) := by decide +kernel
theorem f198_180 : fr 198 180 = some (.lload 12, 2, [], []) := by decide +kernel
theorem f198_182 : fr 198 182 = some (.ladd, 1, [], []) := by decide +kernel
theorem f198_183 : fr 198 183 = some (.jsr_w 1, 1, [], []) := by decide +kernel
theorem f198_184 : fr 198 184 = some (.lsub, 1, [], []) := by decide +kernel
theorem f198_185 : fr 198 185 = some (.lload 12, 2, [12], []) := by decide +kernel
theorem f198_187 : fr 198 187 = some (.ldiv, 1, [], []) := by decide +kernel
theorem f198_188 : fr 198 188 = some (.lstore 14, 2, [], []) := by decide +kernel
theorem f198_190 : fr 198 190 = some (.lload 5, 2, [], []) := by decide +kernel
theorem f198_192 : fr 198 192 = some (.jsr_w 0, 1, [], []) := by decide +kernel
theorem f198_193 : fr 198 193 = some (.lcmp, 1, [], []) := by decide +kernel
theorem f198_194 : fr 198 194 = some (.ifCond .lt 221, 3, [], [5]) := by decide +kernel
theorem f198_197 : fr 198 197 = some (.iload 4, 2, [], []) := by decide +kernel
theorem f198_199 : fr 198 199 = some (.ifCond .ne 213, 3, [], []) := by decide +kernel
theorem f198_202 : fr 198 202 = some (.lload 14, 2, [], []) := by decide +kernel
theorem f198_204 : fr 198 204 = some (.lload 5, 2, [], []) := by decide +kernel
theorem f198_206 : fr 198 206 = some (.lcmp, 1, [], []) := by decide +kernel
theorem f198_207 : fr 198 207 = some (.ifCond .ge 226, 3, [5], [14]) := by decide +kernel
theorem f198_210 : fr 198 210 = some (.goto 221, 3, [], []) := by decide +kernel
theorem f198_213 : fr 198 213 = some (.lload 14, 2, [], []) := by decide +kernel
theorem f198_215 : fr 198 215 = some (.lload 5, 2, [], []) := by decide +kernel
theorem f198_217 : fr 198 217 = some (.lcmp, 1, [], []) := by decide +kernel
theorem f198_218 : fr 198 218 = some (.ifCond .le 226, 3, [5], [14]) := by decide +kernel
theorem f198_221 : fr 198 221 = some (.lload 14, 2, [14], []) := by decide +kernel
theorem f198_223 : fr 198 223 = some (.goto 228, 3, [], []) := by decide +kernel
theorem f198_226 : fr 198 226 = some (.lload 5, 2, [5], []) := by decide +kernel
theorem f198_228 : fr 198 228 = some (.lstore 5, 2, [], []) := by decide +kernel
theorem f198_230 : fr 198 230 = some (.iinc 9 1, 3, [], []) := by decide +kernel
theorem f198_233 : fr 198 233 = some (.goto 91, 3, [], []) := by decide +kernel
theorem f198_236 : fr 198 236 = some (.lload 5, 2, [5], []) := by decide +kernel
theorem f198_238 : fr 198 238 = some (.invokestatic 190, 3, [], []) := by decide +kernel
theorem f198_241 : fr 198 241 = some (.ireturn, 1, [], []) := by decide +kernel
theorem t198_0 {X : XX} {d : Nat} {sz sl : Nat} {sh : Nat → Nat × Nat} {R : Nat → Nat → Option Nat} {I : Nat → Nat → Int32} {J : Nat → Nat → Int64} (hS : SF sh R) {l1 : Int32} {l2 : Int32} {l3 : Int32} {l4 : Int32} : exe X d 198 0 [Value.ref 37, Value.int l1, Value.int l2, Value.int l3, Value.int l4, dm, dm, dm, dm, dm, dm, dm, dm, dm, dm, dm] [] (sz, sl, sh, R, I, J) =
    ((ev X d 179 [Value.ref 37, Value.int l1] (sz, sl, sh, R, I, J)).bind fun q => exe X d 198 5 [Value.ref 37, Value.int l1, Value.int l2, Value.int l3, Value.int l4, dm, dm, dm, dm, dm, dm, dm, dm, dm, dm, dm] (q.1.toList ++ []) q.2) :=
  tq ((E_aload (v := Value.ref 37) rfl rfl f198_0)) (tq ((E_iload (x := l1) rfl f198_1)) ((tq ((E_callV pn_179 pc_179 rfl rfl (Nat.le_of_ble_eq_true rfl) f198_2)) (if_pos (zS37 hS)))))
theorem t198_5 {X : XX} {d : Nat} {sz sl : Nat} {sh : Nat → Nat × Nat} {R : Nat → Nat → Option Nat} {I : Nat → Nat → Int32} {J : Nat → Nat → Int64} (hS : SF sh R) {l1 : Int32} {l2 : Int32} {l3 : Int32} {l4 : Int32} {s0 : Int32} : exe X d 198 5 [Value.ref 37, Value.int l1, Value.int l2, Value.int l3, Value.int l4, dm, dm, dm, dm, dm, dm, dm, dm, dm, dm, dm] [Value.int s0] (sz, sl, sh, R, I, J) =
    (if s0 = 0 then some (some (Value.int (-1)), (sz, sl, sh, R, I, J)) else ((ev X d 154 [Value.ref 37, Value.int l2] (sz, sl, sh, R, I, J)).bind fun q => exe X d 198 13 [Value.ref 37, Value.int l1, Value.int l2, Value.int l3, Value.int l4, dm, dm, dm, dm, dm, dm, dm, dm, dm, dm, dm] (q.1.toList ++ []) q.2)) :=
  tq ((E_if_eq f198_5)) (ite_c (tq ((E_iconst (x := (-1)) (by decide) f198_51)) ((E_iret pr_198 f198_52))) (tq ((E_aload (v := Value.ref 37) rfl rfl f198_8)) (tq ((E_iload (x := l2) rfl f198_9)) ((tq ((E_callV pn_154 pc_154 rfl rfl (Nat.le_of_ble_eq_true rfl) f198_10)) (if_pos (zS37 hS)))))))
theorem t198_13 {X : XX} {d : Nat} {sz sl : Nat} {sh : Nat → Nat × Nat} {R : Nat → Nat → Option Nat} {I : Nat → Nat → Int32} {J : Nat → Nat → Int64} {l1 : Int32} {l2 : Int32} {l3 : Int32} {l4 : Int32} {s0 : Int32} : exe X d 198 13 [Value.ref 37, Value.int l1, Value.int l2, Value.int l3, Value.int l4, dm, dm, dm, dm, dm, dm, dm, dm, dm, dm, dm] [Value.int s0] (sz, sl, sh, R, I, J) =
    (if s0 = 0 then some (some (Value.int (-1)), (sz, sl, sh, R, I, J)) else ((ev X d 148 [Value.int l3, Value.int (0), Value.int (799)] (sz, sl, sh, R, I, J)).bind fun q => exe X d 198 24 [Value.ref 37, Value.int l1, Value.int l2, Value.int l3, Value.int l4, dm, dm, dm, dm, dm, dm, dm, dm, dm, dm, dm] (q.1.toList ++ []) q.2)) :=
  tq ((E_if_eq f198_13)) (ite_c (tq ((E_iconst (x := (-1)) (by decide) f198_51)) ((E_iret pr_198 f198_52))) (tq ((E_iload (x := l3) rfl f198_16)) (tq ((E_iconst (x := (0)) (by decide) f198_17)) (tq ((E_iconst (x := (799)) (by decide) f198_18)) ((E_callS pn_148 rfl rfl (Nat.le_of_ble_eq_true rfl) (Nat.le_of_ble_eq_true rfl) f198_21))))))
theorem t198_24 {X : XX} {d : Nat} {sz sl : Nat} {sh : Nat → Nat × Nat} {R : Nat → Nat → Option Nat} {I : Nat → Nat → Int32} {J : Nat → Nat → Int64} {l1 : Int32} {l2 : Int32} {l3 : Int32} {l4 : Int32} {s0 : Int32} : exe X d 198 24 [Value.ref 37, Value.int l1, Value.int l2, Value.int l3, Value.int l4, dm, dm, dm, dm, dm, dm, dm, dm, dm, dm, dm] [Value.int s0] (sz, sl, sh, R, I, J) =
    (if s0 = 0 then some (some (Value.int (-1)), (sz, sl, sh, R, I, J)) else (if (l3 - l3 / (10) * (10)) < ((l3 / (10)) - (l3 / (10)) / (10) * (10)) then some (some (Value.int (-1)), (sz, sl, sh, R, I, J)) else ((ev X d 148 [Value.int l4, Value.int (0), Value.int (1)] (sz, sl, sh, R, I, J)).bind fun q => exe X d 198 48 [Value.ref 37, Value.int l1, Value.int l2, Value.int l3, Value.int l4, dm, dm, dm, dm, dm, dm, dm, dm, dm, dm, dm] (q.1.toList ++ []) q.2))) :=
  tq ((E_if_eq f198_24)) (ite_c (tq ((E_iconst (x := (-1)) (by decide) f198_51)) ((E_iret pr_198 f198_52))) (tq ((E_iload (x := l3) rfl f198_27)) (tq ((E_iconst (x := (10)) (by decide) f198_28)) (tq ((E_idiv (by decide) f198_30)) (tq ((E_iconst (x := (10)) (by decide) f198_31)) (tq ((E_irem (by decide) f198_33)) (tq ((E_iload (x := l3) rfl f198_34)) (tq ((E_iconst (x := (10)) (by decide) f198_35)) (tq ((E_irem (by decide) f198_37)) (tq ((E_ic_gt f198_38)) (ite_c (tq ((E_iconst (x := (-1)) (by decide) f198_51)) ((E_iret pr_198 f198_52))) (tq ((E_iload (x := l4) rfl f198_41)) (tq ((E_iconst (x := (0)) (by decide) f198_43)) (tq ((E_iconst (x := (1)) (by decide) f198_44)) ((E_callS pn_148 rfl rfl (Nat.le_of_ble_eq_true rfl) (Nat.le_of_ble_eq_true rfl) f198_45))))))))))))))))
theorem t198_48 {X : XX} {d : Nat} {sz sl : Nat} {sh : Nat → Nat × Nat} {R : Nat → Nat → Option Nat} {I : Nat → Nat → Int32} {J : Nat → Nat → Int64} (hS : SF sh R) {l1 : Int32} {l2 : Int32} {l3 : Int32} {l4 : Int32} {s0 : Int32} : exe X d 198 48 [Value.ref 37, Value.int l1, Value.int l2, Value.int l3, Value.int l4, dm, dm, dm, dm, dm, dm, dm, dm, dm, dm, dm] [Value.int s0] (sz, sl, sh, R, I, J) =
    (if ¬ s0 = 0 then (if inb (((8) * (l2 / (10))) + (l2 - l2 / (10) * (10))) 320 then exe X d 198 91 [Value.ref 37, Value.int l1, Value.int l2, Value.int l3, Value.int l4, Value.long (-1), dm, Value.long ((Int32.toInt64 (I 42 (((8) * (l2 / (10))) + (l2 - l2 / (10) * (10))).toNatClampNeg)) * (1000)), dm, Value.int ((l3 / (10)) - (l3 / (10)) / (10) * (10)), dm, dm, dm, dm, dm, dm] [] (sz, sl, sh, R, I, J) else none) else some (some (Value.int (-1)), (sz, sl, sh, R, I, J))) :=
  tq ((E_if_ne f198_48)) (ite_c (tq ((E_lconst (x := (-1)) (by decide) f198_53)) (tq ((E_lstore rfl (Nat.le_of_ble_eq_true rfl) f198_56)) (tq ((E_aload (v := Value.ref 37) rfl rfl f198_58)) (tq (tq ((G11005 f198_59)) (if_pos (zS37 hS))) (tq (exe_R (zR37_5 hS)) (tq ((E_iconst (x := (8)) (by decide) f198_62)) (tq ((E_iload (x := l2) rfl f198_64)) (tq ((E_iconst (x := (10)) (by decide) f198_65)) (tq ((E_idiv (by decide) f198_67)) (tq ((E_imul f198_68)) (tq ((E_iload (x := l2) rfl f198_69)) (tq ((E_iconst (x := (10)) (by decide) f198_70)) (tq ((E_irem (by decide) f198_72)) (tq ((E_iadd f198_73)) (tq (tq ((E_iald f198_74)) (ite_ar (zS42 hS))) (ite_c (tq ((E_i2l f198_75)) (tq ((E_lconst (x := (1000)) (by decide) f198_76)) (tq ((E_lmul f198_79)) (tq ((E_lstore rfl (Nat.le_of_ble_eq_true rfl) f198_80)) (tq ((E_iload (x := l3) rfl f198_82)) (tq ((E_iconst (x := (10)) (by decide) f198_83)) (tq ((E_idiv (by decide) f198_85)) (tq ((E_iconst (x := (10)) (by decide) f198_86)) (tq ((E_irem (by decide) f198_88)) ((E_istore rfl f198_89))))))))))) rfl)))))))))))))))) (tq ((E_iconst (x := (-1)) (by decide) f198_51)) ((E_iret pr_198 f198_52))))
theorem t198_91 {X : XX} {d : Nat} {sz sl : Nat} {sh : Nat → Nat × Nat} {R : Nat → Nat → Option Nat} {I : Nat → Nat → Int32} {J : Nat → Nat → Int64} (hS : SF sh R) {l1 : Int32} {l2 : Int32} {l3 : Int32} {l4 : Int32} {l5 : Int64} {l7 : Int64} {l9 : Int32} : exe X d 198 91 [Value.ref 37, Value.int l1, Value.int l2, Value.int l3, Value.int l4, Value.long l5, dm, Value.long l7, dm, Value.int l9, dm, dm, dm, dm, dm, dm] [] (sz, sl, sh, R, I, J) =
    (if (l3 - l3 / (10) * (10)) < l9 then ((ev X d 190 [Value.long l5] (sz, sl, sh, R, I, J)).bind fun q => exe X d 198 241 [dm, dm, dm, dm, dm, dm, dm, dm, dm, dm, dm, dm, dm, dm, dm, dm] (q.1.toList ++ []) q.2) else ((ev X d 180 [Value.ref 37, Value.int l1, Value.int (l2 / (10)), Value.int (l2 - l2 / (10) * (10)), Value.int (l3 / (100)), Value.int (0), Value.int l9, Value.int (0)] (sz, sl, sh, R, I, J)).bind fun q => exe X d 198 121 [Value.ref 37, Value.int l1, Value.int l2, Value.int l3, Value.int l4, Value.long l5, dm, Value.long l7, dm, Value.int l9, dm, dm, dm, dm, dm, dm] (q.1.toList ++ []) q.2)) :=
  tq ((E_iload (x := l9) rfl f198_91)) (tq ((E_iload (x := l3) rfl f198_93)) (tq ((E_iconst (x := (10)) (by decide) f198_94)) (tq ((E_irem (by decide) f198_96)) (tq ((E_ic_gt f198_97)) (ite_c (tq ((E_lload (x := l5) rfl f198_236)) ((E_callS pn_190 rfl rfl (Nat.le_of_ble_eq_true rfl) (Nat.le_of_ble_eq_true rfl) f198_238))) (tq ((E_aload (v := Value.ref 37) rfl rfl f198_100)) (tq ((E_iload (x := l1) rfl f198_101)) (tq ((E_iload (x := l2) rfl f198_102)) (tq ((E_iconst (x := (10)) (by decide) f198_103)) (tq ((E_idiv (by decide) f198_105)) (tq ((E_iload (x := l2) rfl f198_106)) (tq ((E_iconst (x := (10)) (by decide) f198_107)) (tq ((E_irem (by decide) f198_109)) (tq ((E_iload (x := l3) rfl f198_110)) (tq ((E_iconst (x := (100)) (by decide) f198_111)) (tq ((E_idiv (by decide) f198_113)) (tq ((E_iconst (x := (0)) (by decide) f198_114)) (tq ((E_iload (x := l9) rfl f198_115)) (tq ((E_iconst (x := (0)) (by decide) f198_117)) ((tq ((E_callV pn_180 pc_180 rfl rfl (Nat.le_of_ble_eq_true rfl) f198_118)) (if_pos (zS37 hS)))))))))))))))))))))))
theorem t198_121 {X : XX} {d : Nat} {sz sl : Nat} {sh : Nat → Nat × Nat} {R : Nat → Nat → Option Nat} {I : Nat → Nat → Int32} {J : Nat → Nat → Int64} (hS : SF sh R) {l1 : Int32} {l2 : Int32} {l3 : Int32} {l4 : Int32} {l5 : Int64} {l7 : Int64} {l9 : Int32} {s0 : Int32} : exe X d 198 121 [Value.ref 37, Value.int l1, Value.int l2, Value.int l3, Value.int l4, Value.long l5, dm, Value.long l7, dm, Value.int l9, dm, dm, dm, dm, dm, dm] [Value.int s0] (sz, sl, sh, R, I, J) =
    ((ev X d 180 [Value.ref 37, Value.int l1, Value.int (l2 / (10)), Value.int (l2 - l2 / (10) * (10)), Value.int (l3 / (100)), Value.int (1), Value.int l9, Value.int (0)] (sz, sl, sh, R, I, J)).bind fun q => exe X d 198 147 [Value.ref 37, Value.int l1, Value.int l2, Value.int l3, Value.int l4, Value.long l5, dm, Value.long l7, dm, Value.int l9, dm, dm, dm, dm, dm, dm] (q.1.toList ++ [Value.long (Int32.toInt64 s0)]) q.2) :=
  tq ((E_i2l f198_121)) (tq ((E_lstore rfl (Nat.le_of_ble_eq_true rfl) f198_122)) (tq ((E_lload (x := (Int32.toInt64 s0)) rfl f198_124)) (tq ((E_aload (v := Value.ref 37) rfl rfl f198_126)) (tq ((E_iload (x := l1) rfl f198_127)) (tq ((E_iload (x := l2) rfl f198_128)) (tq ((E_iconst (x := (10)) (by decide) f198_129)) (tq ((E_idiv (by decide) f198_131)) (tq ((E_iload (x := l2) rfl f198_132)) (tq ((E_iconst (x := (10)) (by decide) f198_133)) (tq ((E_irem (by decide) f198_135)) (tq ((E_iload (x := l3) rfl f198_136)) (tq ((E_iconst (x := (100)) (by decide) f198_137)) (tq ((E_idiv (by decide) f198_139)) (tq ((E_iconst (x := (1)) (by decide) f198_140)) (tq ((E_iload (x := l9) rfl f198_141)) (tq ((E_iconst (x := (0)) (by decide) f198_143)) ((tq ((E_callV pn_180 pc_180 rfl rfl (Nat.le_of_ble_eq_true rfl) f198_144)) (if_pos (zS37 hS))))))))))))))))))))
theorem t198_147 {X : XX} {d : Nat} {sz sl : Nat} {sh : Nat → Nat × Nat} {R : Nat → Nat → Option Nat} {I : Nat → Nat → Int32} {J : Nat → Nat → Int64} {l1 : Int32} {l2 : Int32} {l3 : Int32} {l4 : Int32} {l5 : Int64} {l7 : Int64} {l9 : Int32} {s0 : Int32} {s1 : Int64} : exe X d 198 147 [Value.ref 37, Value.int l1, Value.int l2, Value.int l3, Value.int l4, Value.long l5, dm, Value.long l7, dm, Value.int l9, dm, dm, dm, dm, dm, dm] [Value.int s0, Value.long s1] (sz, sl, sh, R, I, J) =
    (if ¬ (lg_cmp ((s1 + (Int32.toInt64 s0)) / (2)) (0)) = 0 then (if ¬ l4 = 0 then (if ((s1 + (Int32.toInt64 s0)) / (2)) = 0 then none else exe X d 198 188 [Value.ref 37, Value.int l1, Value.int l2, Value.int l3, Value.int l4, Value.long l5, dm, Value.long l7, dm, Value.int l9, dm, dm, dm, dm, dm, dm] [Value.long (((l7 + ((s1 + (Int32.toInt64 s0)) / (2))) - (1)) / ((s1 + (Int32.toInt64 s0)) / (2)))] (sz, sl, sh, R, I, J)) else (if ((s1 + (Int32.toInt64 s0)) / (2)) = 0 then none else exe X d 198 188 [Value.ref 37, Value.int l1, Value.int l2, Value.int l3, Value.int l4, Value.long l5, dm, Value.long l7, dm, Value.int l9, dm, dm, dm, dm, dm, dm] [Value.long (l7 / ((s1 + (Int32.toInt64 s0)) / (2)))] (sz, sl, sh, R, I, J))) else some (some (Value.int (-2)), (sz, sl, sh, R, I, J))) :=
  tq ((E_i2l f198_147)) (tq ((E_ladd f198_148)) (tq ((E_lconst (x := (2)) (by decide) f198_149)) (tq ((E_ldiv (by decide) f198_152)) (tq ((E_lstore rfl (Nat.le_of_ble_eq_true rfl) f198_153)) (tq ((E_lload (x := ((s1 + (Int32.toInt64 s0)) / (2))) rfl f198_155)) (tq ((E_lconst (x := (0)) (by decide) f198_157)) (tq ((E_lcmp f198_158)) (tq ((E_if_ne f198_159)) (ite_c (tq ((E_iload (x := l4) rfl f198_165)) (tq ((E_if_ne f198_167)) (ite_c (tq ((E_lload (x := l7) rfl f198_178)) (tq ((E_lload (x := ((s1 + (Int32.toInt64 s0)) / (2))) rfl f198_180)) (tq ((E_ladd f198_182)) (tq ((E_lconst (x := (1)) (by decide) f198_183)) (tq ((E_lsub f198_184)) (tq ((E_lload (x := ((s1 + (Int32.toInt64 s0)) / (2))) rfl f198_185)) (tq (E_ldiv' f198_187) (ite_c rfl (rfl))))))))) (tq ((E_lload (x := l7) rfl f198_170)) (tq ((E_lload (x := ((s1 + (Int32.toInt64 s0)) / (2))) rfl f198_172)) (tq (E_ldiv' f198_174) (ite_c rfl ((E_goto f198_175))))))))) (tq ((E_iconst (x := (-2)) (by decide) f198_162)) ((E_iret pr_198 f198_164))))))))))))
theorem t198_188 {X : XX} {d : Nat} {sz sl : Nat} {sh : Nat → Nat × Nat} {R : Nat → Nat → Option Nat} {I : Nat → Nat → Int32} {J : Nat → Nat → Int64} {l1 : Int32} {l2 : Int32} {l3 : Int32} {l4 : Int32} {l5 : Int64} {l7 : Int64} {l9 : Int32} {s0 : Int64} : exe X d 198 188 [Value.ref 37, Value.int l1, Value.int l2, Value.int l3, Value.int l4, Value.long l5, dm, Value.long l7, dm, Value.int l9, dm, dm, dm, dm, dm, dm] [Value.long s0] (sz, sl, sh, R, I, J) =
    (if (lg_cmp l5 (0)) < 0 then exe X d 198 91 [Value.ref 37, Value.int l1, Value.int l2, Value.int l3, Value.int l4, Value.long s0, dm, Value.long l7, dm, Value.int (l9 + (1)), dm, dm, dm, dm, dm, dm] [] (sz, sl, sh, R, I, J) else (if ¬ l4 = 0 then (if (lg_cmp s0 l5) ≤ 0 then exe X d 198 91 [Value.ref 37, Value.int l1, Value.int l2, Value.int l3, Value.int l4, Value.long l5, dm, Value.long l7, dm, Value.int (l9 + (1)), dm, dm, dm, dm, dm, dm] [] (sz, sl, sh, R, I, J) else exe X d 198 91 [Value.ref 37, Value.int l1, Value.int l2, Value.int l3, Value.int l4, Value.long s0, dm, Value.long l7, dm, Value.int (l9 + (1)), dm, dm, dm, dm, dm, dm] [] (sz, sl, sh, R, I, J)) else (if 0 ≤ (lg_cmp s0 l5) then exe X d 198 91 [Value.ref 37, Value.int l1, Value.int l2, Value.int l3, Value.int l4, Value.long l5, dm, Value.long l7, dm, Value.int (l9 + (1)), dm, dm, dm, dm, dm, dm] [] (sz, sl, sh, R, I, J) else exe X d 198 91 [Value.ref 37, Value.int l1, Value.int l2, Value.int l3, Value.int l4, Value.long s0, dm, Value.long l7, dm, Value.int (l9 + (1)), dm, dm, dm, dm, dm, dm] [] (sz, sl, sh, R, I, J)))) :=
  tq ((E_lstore rfl (Nat.le_of_ble_eq_true rfl) f198_188)) (tq ((E_lload (x := l5) rfl f198_190)) (tq ((E_lconst (x := (0)) (by decide) f198_192)) (tq ((E_lcmp f198_193)) (tq ((E_if_lt f198_194)) (ite_c (tq ((E_lload (x := s0) rfl f198_221)) (tq ((E_goto f198_223)) (tq ((E_lstore rfl (Nat.le_of_ble_eq_true rfl) f198_228)) (tq ((E_iinc (x := l9) (x' := (1)) rfl rfl (by decide) f198_230)) ((E_goto f198_233)))))) (tq ((E_iload (x := l4) rfl f198_197)) (tq ((E_if_ne f198_199)) (ite_c (tq ((E_lload (x := s0) rfl f198_213)) (tq ((E_lload (x := l5) rfl f198_215)) (tq ((E_lcmp f198_217)) (tq ((E_if_le f198_218)) (ite_c (tq ((E_lload (x := l5) rfl f198_226)) (tq ((E_lstore rfl (Nat.le_of_ble_eq_true rfl) f198_228)) (tq ((E_iinc (x := l9) (x' := (1)) rfl rfl (by decide) f198_230)) ((E_goto f198_233))))) (tq ((E_lload (x := s0) rfl f198_221)) (tq ((E_goto f198_223)) (tq ((E_lstore rfl (Nat.le_of_ble_eq_true rfl) f198_228)) (tq ((E_iinc (x := l9) (x' := (1)) rfl rfl (by decide) f198_230)) ((E_goto f198_233))))))))))) (tq ((E_lload (x := s0) rfl f198_202)) (tq ((E_lload (x := l5) rfl f198_204)) (tq ((E_lcmp f198_206)) (tq ((E_if_ge f198_207)) (ite_c (tq ((E_lload (x := l5) rfl f198_226)) (tq ((E_lstore rfl (Nat.le_of_ble_eq_true rfl) f198_228)) (tq ((E_iinc (x := l9) (x' := (1)) rfl rfl (by decide) f198_230)) ((E_goto f198_233))))) (tq ((E_goto f198_210)) (tq ((E_lload (x := s0) rfl f198_221)) (tq ((E_goto f198_223)) (tq ((E_lstore rfl (Nat.le_of_ble_eq_true rfl) f198_228)) (tq ((E_iinc (x := l9) (x' := (1)) rfl rfl (by decide) f198_230)) ((E_goto f198_233))))))))))))))))))))
theorem t198_241 {X : XX} {d : Nat} {sz sl : Nat} {sh : Nat → Nat × Nat} {R : Nat → Nat → Option Nat} {I : Nat → Nat → Int32} {J : Nat → Nat → Int64} {s0 : Int32} : exe X d 198 241 [dm, dm, dm, dm, dm, dm, dm, dm, dm, dm, dm, dm, dm, dm, dm, dm] [Value.int s0] (sz, sl, sh, R, I, J) =
    some (some (Value.int s0), (sz, sl, sh, R, I, J)) :=
  (E_iret pr_198 f198_241)
theorem n198 {X : XX} {d : Nat} {h : HP} {a0 : Int32} {a1 : Int32} {a2 : Int32} {a3 : Int32} : ev X (d + 1) 198 [Value.ref 37, Value.int a0, Value.int a1, Value.int a2, Value.int a3] h = exe X d 198 0 [Value.ref 37, Value.int a0, Value.int a1, Value.int a2, Value.int a3, dm, dm, dm, dm, dm, dm, dm, dm, dm, dm, dm] [] h := ev_exe (Nat.le_of_ble_eq_true rfl)
theorem f199_0 : fr 199 0 = some (.aload 0, 1, [], []) := by decide +kernel
theorem f199_1 : fr 199 1 = some (.iload 1, 1, [], []) := by decide +kernel
theorem f199_2 : fr 199 2 = some (.invokevirtual 179, 3, [], []) := by decide +kernel
theorem f199_5 : fr 199 5 = some (.ifCond .eq 36, 3, [], [0, 1, 2, 3, 4]) := by decide +kernel
theorem f199_8 : fr 199 8 = some (.aload 0, 1, [], []) := by decide +kernel
theorem f199_9 : fr 199 9 = some (.iload 2, 1, [], []) := by decide +kernel
theorem f199_10 : fr 199 10 = some (.invokevirtual 150, 3, [], []) := by decide +kernel
theorem f199_13 : fr 199 13 = some (.ifCond .eq 36, 3, [], [0, 1, 2, 3, 4]) := by decide +kernel
theorem f199_16 : fr 199 16 = some (.iload 3, 1, [], []) := by decide +kernel
theorem f199_17 : fr 199 17 = some (.iconst 0, 1, [], []) := by decide +kernel
theorem f199_18 : fr 199 18 = some (.iconst 79, 2, [], []) := by decide +kernel
theorem f199_20 : fr 199 20 = some (.invokestatic 148, 3, [], []) := by decide +kernel
theorem f199_23 : fr 199 23 = some (.ifCond .eq 36, 3, [], [0, 1, 2, 3, 4]) := by decide +kernel
theorem f199_26 : fr 199 26 = some (.iload 4, 2, [], []) := by decide +kernel
theorem f199_28 : fr 199 28 = some (.iconst 0, 1, [], []) := by decide +kernel
theorem f199_29 : fr 199 29 = some (.iconst 2, 1, [], []) := by decide +kernel
theorem f199_30 : fr 199 30 = some (.invokestatic 148, 3, [], []) := by decide +kernel
theorem f199_33 : fr 199 33 = some (.ifCond .ne 38, 3, [0, 1, 2, 3, 4], []) := by decide +kernel
theorem f199_36 : fr 199 36 = some (.iconst (-1), 1, [], []) := by decide +kernel
theorem f199_37 : fr 199 37 = some (.ireturn, 1, [], []) := by decide +kernel
theorem f199_38 : fr 199 38 = some (.aload 0, 1, [], []) := by decide +kernel
theorem f199_39 : fr 199 39 = some (.iload 1, 1, [1], []) := by decide +kernel
theorem f199_40 : fr 199 40 = some (.iload 2, 1, [2], []) := by decide +kernel
theorem f199_41 : fr 199 41 = some (.iload 3, 1, [3], []) := by decide +kernel
theorem f199_42 : fr 199 42 = some (.invokevirtual 200, 3, [], []) := by decide +kernel
theorem f199_45 : fr 199 45 = some (.iload 4, 2, [], []) := by decide +kernel
theorem f199_47 : fr 199 47 = some (.ifCond .ne 57, 3, [4], []) := by decide +kernel
theorem f199_50 : fr 199 50 = some (.aload 0, 1, [0], []) := by decide +kernel
theorem f199_51 : fr 199 51 = some (.getfield 11042, 3, [], []) := by decide +kernel
theorem f199_54 : fr 199 54 = some (.goto 77, 3, [], []) := by decide +kernel
theorem f199_57 : fr 199 57 = some (.iload 4, 2, [4], []) := by decide +kernel
theorem f199_59 : fr 199 59 = some (.iconst 1, 1, [], []) := by decide +kernel
theorem f199_60 : fr 199 60 = some (.if_icmp .ne 70, 3, [], []) := by decide +kernel
theorem f199_63 : fr 199 63 = some (.aload 0, 1, [0], []) := by decide +kernel
theorem f199_64 : fr 199 64 = some (.getfield 11043, 3, [], []) := by decide +kernel
theorem f199_67 : fr 199 67 = some (.goto 77, 3, [], []) := by decide +kernel
theorem f199_70 : fr 199 70 = some (.aload 0, 1, [0], []) := by decide +kernel
theorem f199_71 : fr 199 71 = some (.getfield 11044, 3, [], []) := by decide +kernel
theorem f199_74 : fr 199 74 = some (.invokestatic 190, 3, [], []) := by decide +kernel
theorem f199_77 : fr 199 77 = some (.ireturn, 1, [], []) := by decide +kernel
theorem t199_0 {X : XX} {d : Nat} {sz sl : Nat} {sh : Nat → Nat × Nat} {R : Nat → Nat → Option Nat} {I : Nat → Nat → Int32} {J : Nat → Nat → Int64} (hS : SF sh R) {l1 : Int32} {l2 : Int32} {l3 : Int32} {l4 : Int32} : exe X d 199 0 [Value.ref 37, Value.int l1, Value.int l2, Value.int l3, Value.int l4] [] (sz, sl, sh, R, I, J) =
    ((ev X d 179 [Value.ref 37, Value.int l1] (sz, sl, sh, R, I, J)).bind fun q => exe X d 199 5 [Value.ref 37, Value.int l1, Value.int l2, Value.int l3, Value.int l4] (q.1.toList ++ []) q.2) :=
  tq ((E_aload (v := Value.ref 37) rfl rfl f199_0)) (tq ((E_iload (x := l1) rfl f199_1)) ((tq ((E_callV pn_179 pc_179 rfl rfl (Nat.le_of_ble_eq_true rfl) f199_2)) (if_pos (zS37 hS)))))
theorem t199_5 {X : XX} {d : Nat} {sz sl : Nat} {sh : Nat → Nat × Nat} {R : Nat → Nat → Option Nat} {I : Nat → Nat → Int32} {J : Nat → Nat → Int64} (hS : SF sh R) {l1 : Int32} {l2 : Int32} {l3 : Int32} {l4 : Int32} {s0 : Int32} : exe X d 199 5 [Value.ref 37, Value.int l1, Value.int l2, Value.int l3, Value.int l4] [Value.int s0] (sz, sl, sh, R, I, J) =
    (if s0 = 0 then some (some (Value.int (-1)), (sz, sl, sh, R, I, J)) else ((ev X d 150 [Value.ref 37, Value.int l2] (sz, sl, sh, R, I, J)).bind fun q => exe X d 199 13 [Value.ref 37, Value.int l1, Value.int l2, Value.int l3, Value.int l4] (q.1.toList ++ []) q.2)) :=
  tq ((E_if_eq f199_5)) (ite_c (tq ((E_iconst (x := (-1)) (by decide) f199_36)) ((E_iret pr_199 f199_37))) (tq ((E_aload (v := Value.ref 37) rfl rfl f199_8)) (tq ((E_iload (x := l2) rfl f199_9)) ((tq ((E_callV pn_150 pc_150 rfl rfl (Nat.le_of_ble_eq_true rfl) f199_10)) (if_pos (zS37 hS)))))))
theorem t199_13 {X : XX} {d : Nat} {sz sl : Nat} {sh : Nat → Nat × Nat} {R : Nat → Nat → Option Nat} {I : Nat → Nat → Int32} {J : Nat → Nat → Int64} {l1 : Int32} {l2 : Int32} {l3 : Int32} {l4 : Int32} {s0 : Int32} : exe X d 199 13 [Value.ref 37, Value.int l1, Value.int l2, Value.int l3, Value.int l4] [Value.int s0] (sz, sl, sh, R, I, J) =
    (if s0 = 0 then some (some (Value.int (-1)), (sz, sl, sh, R, I, J)) else ((ev X d 148 [Value.int l3, Value.int (0), Value.int (79)] (sz, sl, sh, R, I, J)).bind fun q => exe X d 199 23 [Value.ref 37, Value.int l1, Value.int l2, Value.int l3, Value.int l4] (q.1.toList ++ []) q.2)) :=
  tq ((E_if_eq f199_13)) (ite_c (tq ((E_iconst (x := (-1)) (by decide) f199_36)) ((E_iret pr_199 f199_37))) (tq ((E_iload (x := l3) rfl f199_16)) (tq ((E_iconst (x := (0)) (by decide) f199_17)) (tq ((E_iconst (x := (79)) (by decide) f199_18)) ((E_callS pn_148 rfl rfl (Nat.le_of_ble_eq_true rfl) (Nat.le_of_ble_eq_true rfl) f199_20))))))
theorem t199_23 {X : XX} {d : Nat} {sz sl : Nat} {sh : Nat → Nat × Nat} {R : Nat → Nat → Option Nat} {I : Nat → Nat → Int32} {J : Nat → Nat → Int64} {l1 : Int32} {l2 : Int32} {l3 : Int32} {l4 : Int32} {s0 : Int32} : exe X d 199 23 [Value.ref 37, Value.int l1, Value.int l2, Value.int l3, Value.int l4] [Value.int s0] (sz, sl, sh, R, I, J) =
    (if s0 = 0 then some (some (Value.int (-1)), (sz, sl, sh, R, I, J)) else ((ev X d 148 [Value.int l4, Value.int (0), Value.int (2)] (sz, sl, sh, R, I, J)).bind fun q => exe X d 199 33 [Value.ref 37, Value.int l1, Value.int l2, Value.int l3, Value.int l4] (q.1.toList ++ []) q.2)) :=
  tq ((E_if_eq f199_23)) (ite_c (tq ((E_iconst (x := (-1)) (by decide) f199_36)) ((E_iret pr_199 f199_37))) (tq ((E_iload (x := l4) rfl f199_26)) (tq ((E_iconst (x := (0)) (by decide) f199_28)) (tq ((E_iconst (x := (2)) (by decide) f199_29)) ((E_callS pn_148 rfl rfl (Nat.le_of_ble_eq_true rfl) (Nat.le_of_ble_eq_true rfl) f199_30))))))
theorem t199_33 {X : XX} {d : Nat} {sz sl : Nat} {sh : Nat → Nat × Nat} {R : Nat → Nat → Option Nat} {I : Nat → Nat → Int32} {J : Nat → Nat → Int64} (hS : SF sh R) {l1 : Int32} {l2 : Int32} {l3 : Int32} {l4 : Int32} {s0 : Int32} : exe X d 199 33 [Value.ref 37, Value.int l1, Value.int l2, Value.int l3, Value.int l4] [Value.int s0] (sz, sl, sh, R, I, J) =
    (if ¬ s0 = 0 then ((ev X d 200 [Value.ref 37, Value.int l1, Value.int l2, Value.int l3] (sz, sl, sh, R, I, J)).bind fun q => exe X d 199 45 [Value.ref 37, dm, dm, dm, Value.int l4] (q.1.toList ++ []) q.2) else some (some (Value.int (-1)), (sz, sl, sh, R, I, J))) :=
  tq ((E_if_ne f199_33)) (ite_c (tq ((E_aload (v := Value.ref 37) rfl rfl f199_38)) (tq ((E_iload (x := l1) rfl f199_39)) (tq ((E_iload (x := l2) rfl f199_40)) (tq ((E_iload (x := l3) rfl f199_41)) ((tq ((E_callV pn_200 pc_200 rfl rfl (Nat.le_of_ble_eq_true rfl) f199_42)) (if_pos (zS37 hS)))))))) (tq ((E_iconst (x := (-1)) (by decide) f199_36)) ((E_iret pr_199 f199_37))))
theorem t199_45 {X : XX} {d : Nat} {sz sl : Nat} {sh : Nat → Nat × Nat} {R : Nat → Nat → Option Nat} {I : Nat → Nat → Int32} {J : Nat → Nat → Int64} (hS : SF sh R) {l4 : Int32} : exe X d 199 45 [Value.ref 37, dm, dm, dm, Value.int l4] [] (sz, sl, sh, R, I, J) =
    (if ¬ l4 = 0 then (if ¬ l4 = (1) then ((ev X d 190 [Value.long (J 37 44)] (sz, sl, sh, R, I, J)).bind fun q => exe X d 199 77 [dm, dm, dm, dm, dm] (q.1.toList ++ []) q.2) else exe X d 199 77 [dm, dm, dm, dm, dm] [Value.int (I 37 43)] (sz, sl, sh, R, I, J)) else exe X d 199 77 [dm, dm, dm, dm, dm] [Value.int (I 37 42)] (sz, sl, sh, R, I, J)) :=
  tq ((E_iload (x := l4) rfl f199_45)) (tq ((E_if_ne f199_47)) (ite_c (tq ((E_iload (x := l4) rfl f199_57)) (tq ((E_iconst (x := (1)) (by decide) f199_59)) (tq ((E_ic_ne f199_60)) (ite_c (tq ((E_aload (v := Value.ref 37) rfl rfl f199_70)) (tq (tq ((G11044 f199_71)) (if_pos (zS37 hS))) ((E_callS pn_190 rfl rfl (Nat.le_of_ble_eq_true rfl) (Nat.le_of_ble_eq_true rfl) f199_74)))) (tq ((E_aload (v := Value.ref 37) rfl rfl f199_63)) (tq (tq ((G11043 f199_64)) (if_pos (zS37 hS))) ((E_goto f199_67)))))))) (tq ((E_aload (v := Value.ref 37) rfl rfl f199_50)) (tq (tq ((G11042 f199_51)) (if_pos (zS37 hS))) ((E_goto f199_54))))))
theorem t199_77 {X : XX} {d : Nat} {sz sl : Nat} {sh : Nat → Nat × Nat} {R : Nat → Nat → Option Nat} {I : Nat → Nat → Int32} {J : Nat → Nat → Int64} {s0 : Int32} : exe X d 199 77 [dm, dm, dm, dm, dm] [Value.int s0] (sz, sl, sh, R, I, J) =
    some (some (Value.int s0), (sz, sl, sh, R, I, J)) :=
  (E_iret pr_199 f199_77)
theorem n199 {X : XX} {d : Nat} {h : HP} {a0 : Int32} {a1 : Int32} {a2 : Int32} {a3 : Int32} : ev X (d + 1) 199 [Value.ref 37, Value.int a0, Value.int a1, Value.int a2, Value.int a3] h = exe X d 199 0 [Value.ref 37, Value.int a0, Value.int a1, Value.int a2, Value.int a3] [] h := ev_exe (Nat.le_of_ble_eq_true rfl)
theorem f200_0 : fr 200 0 = some (.iconst 0, 1, [], []) := by decide +kernel
theorem f200_1 : fr 200 1 = some (.istore 4, 2, [], []) := by decide +kernel
theorem f200_3 : fr 200 3 = some (.iload 4, 2, [], []) := by decide +kernel
theorem f200_5 : fr 200 5 = some (.iconst 8, 2, [], []) := by decide +kernel
theorem f200_7 : fr 200 7 = some (.if_icmp .ge 66, 3, [], [1, 3, 4]) := by decide +kernel
theorem f200_10 : fr 200 10 = some (.aload 0, 1, [], []) := by decide +kernel
theorem f200_11 : fr 200 11 = some (.getfield 11045, 3, [], []) := by decide +kernel
theorem f200_14 : fr 200 14 = some (.iload 4, 2, [], []) := by decide +kernel
theorem f200_16 : fr 200 16 = some (.aload 0, 1, [], []) := by decide +kernel
theorem f200_17 : fr 200 17 = some (.iload 1, 1, [], []) := by decide +kernel
theorem f200_18 : fr 200 18 = some (.iload 2, 1, [], []) := by decide +kernel
theorem f200_19 : fr 200 19 = some (.iload 4, 2, [], []) := by decide +kernel
theorem f200_21 : fr 200 21 = some (.iload 3, 1, [], []) := by decide +kernel
theorem f200_22 : fr 200 22 = some (.iconst 10, 2, [], []) := by decide +kernel
theorem f200_24 : fr 200 24 = some (.idiv, 1, [], []) := by decide +kernel
theorem f200_25 : fr 200 25 = some (.iconst 0, 1, [], []) := by decide +kernel
theorem f200_26 : fr 200 26 = some (.iload 3, 1, [], []) := by decide +kernel
theorem f200_27 : fr 200 27 = some (.iconst 10, 2, [], []) := by decide +kernel
theorem f200_29 : fr 200 29 = some (.irem, 1, [], []) := by decide +kernel
theorem f200_30 : fr 200 30 = some (.iconst 0, 1, [], []) := by decide +kernel
theorem f200_31 : fr 200 31 = some (.invokevirtual 180, 3, [], []) := by decide +kernel
theorem f200_34 : fr 200 34 = some (.iastore, 1, [], []) := by decide +kernel
theorem f200_35 : fr 200 35 = some (.aload 0, 1, [], []) := by decide +kernel
theorem f200_36 : fr 200 36 = some (.getfield 11046, 3, [], []) := by decide +kernel
theorem f200_39 : fr 200 39 = some (.iload 4, 2, [], []) := by decide +kernel
theorem f200_41 : fr 200 41 = some (.aload 0, 1, [], []) := by decide +kernel
theorem f200_42 : fr 200 42 = some (.iload 1, 1, [], []) := by decide +kernel
theorem f200_43 : fr 200 43 = some (.iload 2, 1, [], []) := by decide +kernel
theorem f200_44 : fr 200 44 = some (.iload 4, 2, [], []) := by decide +kernel
theorem f200_46 : fr 200 46 = some (.iload 3, 1, [], []) := by decide +kernel
theorem f200_47 : fr 200 47 = some (.iconst 10, 2, [], []) := by decide +kernel
theorem f200_49 : fr 200 49 = some (.idiv, 1, [], []) := by decide +kernel
theorem f200_50 : fr 200 50 = some (.iconst 1, 1, [], []) := by decide +kernel
theorem f200_51 : fr 200 51 = some (.iload 3, 1, [], []) := by decide +kernel
theorem f200_52 : fr 200 52 = some (.iconst 10, 2, [], []) := by decide +kernel
theorem f200_54 : fr 200 54 = some (.irem, 1, [], []) := by decide +kernel
theorem f200_55 : fr 200 55 = some (.iconst 0, 1, [], []) := by decide +kernel
theorem f200_56 : fr 200 56 = some (.invokevirtual 180, 3, [], []) := by decide +kernel
theorem f200_59 : fr 200 59 = some (.iastore, 1, [], []) := by decide +kernel
theorem f200_60 : fr 200 60 = some (.iinc 4 1, 3, [], []) := by decide +kernel
theorem f200_63 : fr 200 63 = some (.goto 3, 3, [], []) := by decide +kernel
theorem f200_66 : fr 200 66 = some (.aload 0, 1, [], []) := by decide +kernel
theorem f200_67 : fr 200 67 = some (.jsr_w (-1), 3, [], []) := by decide +kernel
theorem f200_70 : fr 200 70 = some (.putfield 11044, 3, [], []) := by decide +kernel
theorem f200_73 : fr 200 73 = some (.iconst 0, 1, [], []) := by decide +kernel
theorem f200_74 : fr 200 74 = some (.istore 4, 2, [], []) := by decide +kernel
theorem f200_76 : fr 200 76 = some (.iload 4, 2, [], []) := by decide +kernel
theorem f200_78 : fr 200 78 = some (.iconst 60, 2, [], []) := by decide +kernel
theorem f200_80 : fr 200 80 = some (.if_icmp .gt 208, 3, [], [0, 2, 4]) := by decide +kernel
theorem f200_83 : fr 200 83 = some (.iconst 0, 1, [], []) := by decide +kernel
theorem f200_84 : fr 200 84 = some (.istore 5, 2, [], []) := by decide +kernel
theorem f200_86 : fr 200 86 = some (.iload 5, 2, [], []) := by decide +kernel
theorem f200_88 : fr 200 88 = some (.iconst 60, 2, [], []) := by decide +kernel
theorem f200_90 : fr 200 90 = some (.if_icmp .gt 202, 3, [], [5]) := by decide +kernel
theorem f200_93 : fr 200 93 = some (.jsr_w 0, 1, [], []) := by decide +kernel
theorem f200_94 : fr 200 94 = some (.lstore 6, 2, [], []) := by decide +kernel
theorem f200_96 : fr 200 96 = some (.iconst 0, 1, [], []) := by decide +kernel
theorem f200_97 : fr 200 97 = some (.istore 8, 2, [], []) := by decide +kernel
theorem f200_99 : fr 200 99 = some (.iload 8, 2, [], []) := by decide +kernel
theorem f200_101 : fr 200 101 = some (.iconst 8, 2, [], []) := by decide +kernel
theorem f200_103 : fr 200 103 = some (.if_icmp .ge 159, 3, [], [8]) := by decide +kernel
theorem f200_106 : fr 200 106 = some (.lload 6, 2, [6], []) := by decide +kernel
theorem f200_108 : fr 200 108 = some (.aload 0, 1, [], []) := by decide +kernel
theorem f200_109 : fr 200 109 = some (.getfield 11005, 3, [], []) := by decide +kernel
theorem f200_112 : fr 200 112 = some (.iconst 8, 2, [], []) := by decide +kernel
theorem f200_114 : fr 200 114 = some (.iload 2, 1, [], []) := by decide +kernel
theorem f200_115 : fr 200 115 = some (.imul, 1, [], []) := by decide +kernel
theorem f200_116 : fr 200 116 = some (.iload 8, 2, [], []) := by decide +kernel
theorem f200_118 : fr 200 118 = some (.iadd, 1, [], []) := by decide +kernel
theorem f200_119 : fr 200 119 = some (.iaload, 1, [], []) := by decide +kernel
theorem f200_120 : fr 200 120 = some (.i2l, 1, [], []) := by decide +kernel
theorem f200_121 : fr 200 121 = some (.iload 4, 2, [], []) := by decide +kernel
theorem f200_123 : fr 200 123 = some (.i2l, 1, [], []) := by decide +kernel
theorem f200_124 : fr 200 124 = some (.aload 0, 1, [], []) := by decide +kernel
theorem f200_125 : fr 200 125 = some (.getfield 11045, 3, [], []) := by decide +kernel
theorem f200_128 : fr 200 128 = some (.iload 8, 2, [], []) := by decide +kernel
theorem f200_130 : fr 200 130 = some (.iaload, 1, [], []) := by decide +kernel
theorem f200_131 : fr 200 131 = some (.i2l, 1, [], []) := by decide +kernel
theorem f200_132 : fr 200 132 = some (.lmul, 1, [], []) := by decide +kernel
theorem f200_133 : fr 200 133 = some (.lsub, 1, [], []) := by decide +kernel
theorem f200_134 : fr 200 134 = some (.iload 5, 2, [], []) := by decide +kernel
theorem f200_136 : fr 200 136 = some (.i2l, 1, [], []) := by decide +kernel
theorem f200_137 : fr 200 137 = some (.aload 0, 1, [], []) := by decide +kernel
theorem f200_138 : fr 200 138 = some (.getfield 11046, 3, [], []) := by decide +kernel
theorem f200_141 : fr 200 141 = some (.iload 8, 2, [], []) := by decide +kernel
theorem f200_143 : fr 200 143 = some (.iaload, 1, [], []) := by decide +kernel
theorem f200_144 : fr 200 144 = some (.i2l, 1, [], []) := by decide +kernel
theorem f200_145 : fr 200 145 = some (.lmul, 1, [], []) := by decide +kernel
theorem f200_146 : fr 200 146 = some (.lsub, 1, [], []) := by decide +kernel
theorem f200_147 : fr 200 147 = some (.invokestatic 152, 3, [], []) := by decide +kernel
theorem f200_150 : fr 200 150 = some (.ladd, 1, [], []) := by decide +kernel
theorem f200_151 : fr 200 151 = some (.lstore 6, 2, [], []) := by decide +kernel
theorem f200_153 : fr 200 153 = some (.iinc 8 1, 3, [], []) := by decide +kernel
theorem f200_156 : fr 200 156 = some (.goto 99, 3, [], []) := by decide +kernel
theorem f200_159 : fr 200 159 = some (.aload 0, 1, [], []) := by decide +kernel
theorem f200_160 : fr 200 160 = some (.getfield 11044, 3, [], []) := by decide +kernel
theorem f200_163 : fr 200 163 = some (.jsr_w 0, 1, [], []) := by decide +kernel
theorem f200_164 : fr 200 164 = some (.lcmp, 1, [], []) := by decide +kernel
theorem f200_165 : fr 200 165 = some (.ifCond .lt 178, 3, [], []) := by decide +kernel
theorem f200_168 : fr 200 168 = some (.lload 6, 2, [], []) := by decide +kernel
theorem f200_170 : fr 200 170 = some (.aload 0, 1, [], []) := by decide +kernel
theorem f200_171 : fr 200 171 = some (.getfield 11044, 3, [], []) := by decide +kernel
theorem f200_174 : fr 200 174 = some (.lcmp, 1, [], []) := by decide +kernel
theorem f200_175 : fr 200 175 = some (.ifCond .ge 196, 3, [], [6]) := by decide +kernel
theorem f200_178 : fr 200 178 = some (.aload 0, 1, [], []) := by decide +kernel
theorem f200_179 : fr 200 179 = some (.lload 6, 2, [6], []) := by decide +kernel
theorem f200_181 : fr 200 181 = some (.putfield 11044, 3, [], []) := by decide +kernel
theorem f200_184 : fr 200 184 = some (.aload 0, 1, [], []) := by decide +kernel
theorem f200_185 : fr 200 185 = some (.iload 4, 2, [], []) := by decide +kernel
theorem f200_187 : fr 200 187 = some (.putfield 11042, 3, [], []) := by decide +kernel
theorem f200_190 : fr 200 190 = some (.aload 0, 1, [], []) := by decide +kernel
theorem f200_191 : fr 200 191 = some (.iload 5, 2, [], []) := by decide +kernel
theorem f200_193 : fr 200 193 = some (.putfield 11043, 3, [], []) := by decide +kernel
theorem f200_196 : fr 200 196 = some (.iinc 5 1, 3, [], []) := by decide +kernel
theorem f200_199 : fr 200 199 = some (.goto 86, 3, [], []) := by decide +kernel
theorem f200_202 : fr 200 202 = some (.iinc 4 1, 3, [], []) := by decide +kernel
theorem f200_205 : fr 200 205 = some (.goto 76, 3, [], []) := by decide +kernel
theorem f200_208 : fr 200 208 = some (.return_, 1, [], []) := by decide +kernel
theorem t200_0 {X : XX} {d : Nat} {sz sl : Nat} {sh : Nat → Nat × Nat} {R : Nat → Nat → Option Nat} {I : Nat → Nat → Int32} {J : Nat → Nat → Int64} {l1 : Int32} {l2 : Int32} {l3 : Int32} : exe X d 200 0 [Value.ref 37, Value.int l1, Value.int l2, Value.int l3, dm, dm, dm, dm, dm] [] (sz, sl, sh, R, I, J) =
    exe X d 200 3 [Value.ref 37, Value.int l1, Value.int l2, Value.int l3, Value.int (0), dm, dm, dm, dm] [] (sz, sl, sh, R, I, J) :=
  tq ((E_iconst (x := (0)) (by decide) f200_0)) ((E_istore rfl f200_1))
theorem t200_3 {X : XX} {d : Nat} {sz sl : Nat} {sh : Nat → Nat × Nat} {R : Nat → Nat → Option Nat} {I : Nat → Nat → Int32} {J : Nat → Nat → Int64} (hS : SF sh R) {l1 : Int32} {l2 : Int32} {l3 : Int32} {l4 : Int32} : exe X d 200 3 [Value.ref 37, Value.int l1, Value.int l2, Value.int l3, Value.int l4, dm, dm, dm, dm] [] (sz, sl, sh, R, I, J) =
    (if (8) ≤ l4 then exe X d 200 76 [Value.ref 37, dm, Value.int l2, dm, Value.int (0), dm, dm, dm, dm] [] (sz, sl, sh, R, I, (u2 J 37 44 (-1))) else ((ev X d 180 [Value.ref 37, Value.int l1, Value.int l2, Value.int l4, Value.int (l3 / (10)), Value.int (0), Value.int (l3 - l3 / (10) * (10)), Value.int (0)] (sz, sl, sh, R, I, J)).bind fun q => exe X d 200 34 [Value.ref 37, Value.int l1, Value.int l2, Value.int l3, Value.int l4, dm, dm, dm, dm] (q.1.toList ++ [Value.int l4, Value.ref 67]) q.2)) :=
  tq ((E_iload (x := l4) rfl f200_3)) (tq ((E_iconst (x := (8)) (by decide) f200_5)) (tq ((E_ic_ge f200_7)) (ite_c (tq ((E_aload (v := Value.ref 37) rfl rfl f200_66)) (tq ((E_lconst (x := (-1)) (by decide) f200_67)) (tq (tq ((P11044 f200_70)) (if_pos (zS37 hS))) (tq ((E_iconst (x := (0)) (by decide) f200_73)) ((E_istore rfl f200_74)))))) (tq ((E_aload (v := Value.ref 37) rfl rfl f200_10)) (tq (tq ((G11045 f200_11)) (if_pos (zS37 hS))) (tq (exe_R (zR37_45 hS)) (tq ((E_iload (x := l4) rfl f200_14)) (tq ((E_aload (v := Value.ref 37) rfl rfl f200_16)) (tq ((E_iload (x := l1) rfl f200_17)) (tq ((E_iload (x := l2) rfl f200_18)) (tq ((E_iload (x := l4) rfl f200_19)) (tq ((E_iload (x := l3) rfl f200_21)) (tq ((E_iconst (x := (10)) (by decide) f200_22)) (tq ((E_idiv (by decide) f200_24)) (tq ((E_iconst (x := (0)) (by decide) f200_25)) (tq ((E_iload (x := l3) rfl f200_26)) (tq ((E_iconst (x := (10)) (by decide) f200_27)) (tq ((E_irem (by decide) f200_29)) (tq ((E_iconst (x := (0)) (by decide) f200_30)) ((tq ((E_callV pn_180 pc_180 rfl rfl (Nat.le_of_ble_eq_true rfl) f200_31)) (if_pos (zS37 hS)))))))))))))))))))))))
theorem t200_34 {X : XX} {d : Nat} {sz sl : Nat} {sh : Nat → Nat × Nat} {R : Nat → Nat → Option Nat} {I : Nat → Nat → Int32} {J : Nat → Nat → Int64} (hS : SF sh R) {l1 : Int32} {l2 : Int32} {l3 : Int32} {l4 : Int32} {s0 : Int32} {s1 : Int32} {s2 : Value} (k2 : isB s2 = true) : exe X d 200 34 [Value.ref 37, Value.int l1, Value.int l2, Value.int l3, Value.int l4, dm, dm, dm, dm] [Value.int s0, Value.int s1, s2] (sz, sl, sh, R, I, J) =
    (rf (s2) fun p1 => (if (sh p1).1 = 0 ∧ inb s1 (sh p1).2 then ((ev X d 180 [Value.ref 37, Value.int l1, Value.int l2, Value.int l4, Value.int (l3 / (10)), Value.int (1), Value.int (l3 - l3 / (10) * (10)), Value.int (0)] (sz, sl, sh, R, (u2 I p1 s1.toNatClampNeg s0), J)).bind fun q => exe X d 200 59 [Value.ref 37, Value.int l1, Value.int l2, Value.int l3, Value.int l4, dm, dm, dm, dm] (q.1.toList ++ [Value.int l4, Value.ref 68]) q.2) else none)) :=
  tq ((E_iast f200_34)) (rf_c fun p1 => ite_c (tq ((E_aload (v := Value.ref 37) rfl rfl f200_35)) (tq (tq ((G11046 f200_36)) (if_pos (zS37 hS))) (tq (exe_R (zR37_46 hS)) (tq ((E_iload (x := l4) rfl f200_39)) (tq ((E_aload (v := Value.ref 37) rfl rfl f200_41)) (tq ((E_iload (x := l1) rfl f200_42)) (tq ((E_iload (x := l2) rfl f200_43)) (tq ((E_iload (x := l4) rfl f200_44)) (tq ((E_iload (x := l3) rfl f200_46)) (tq ((E_iconst (x := (10)) (by decide) f200_47)) (tq ((E_idiv (by decide) f200_49)) (tq ((E_iconst (x := (1)) (by decide) f200_50)) (tq ((E_iload (x := l3) rfl f200_51)) (tq ((E_iconst (x := (10)) (by decide) f200_52)) (tq ((E_irem (by decide) f200_54)) (tq ((E_iconst (x := (0)) (by decide) f200_55)) ((tq ((E_callV pn_180 pc_180 rfl rfl (Nat.le_of_ble_eq_true rfl) f200_56)) (if_pos (zS37 hS)))))))))))))))))))) rfl)
theorem t200_59 {X : XX} {d : Nat} {sz sl : Nat} {sh : Nat → Nat × Nat} {R : Nat → Nat → Option Nat} {I : Nat → Nat → Int32} {J : Nat → Nat → Int64} {l1 : Int32} {l2 : Int32} {l3 : Int32} {l4 : Int32} {s0 : Int32} {s1 : Int32} {s2 : Value} (k2 : isB s2 = true) : exe X d 200 59 [Value.ref 37, Value.int l1, Value.int l2, Value.int l3, Value.int l4, dm, dm, dm, dm] [Value.int s0, Value.int s1, s2] (sz, sl, sh, R, I, J) =
    (rf (s2) fun p1 => (if (sh p1).1 = 0 ∧ inb s1 (sh p1).2 then exe X d 200 3 [Value.ref 37, Value.int l1, Value.int l2, Value.int l3, Value.int (l4 + (1)), dm, dm, dm, dm] [] (sz, sl, sh, R, (u2 I p1 s1.toNatClampNeg s0), J) else none)) :=
  tq ((E_iast f200_59)) (rf_c fun p1 => ite_c (tq ((E_iinc (x := l4) (x' := (1)) rfl rfl (by decide) f200_60)) ((E_goto f200_63))) rfl)
theorem t200_76 {X : XX} {d : Nat} {sz sl : Nat} {sh : Nat → Nat × Nat} {R : Nat → Nat → Option Nat} {I : Nat → Nat → Int32} {J : Nat → Nat → Int64} {l2 : Int32} {l4 : Int32} : exe X d 200 76 [Value.ref 37, dm, Value.int l2, dm, Value.int l4, dm, dm, dm, dm] [] (sz, sl, sh, R, I, J) =
    (if (60) < l4 then some (none, (sz, sl, sh, R, I, J)) else exe X d 200 86 [Value.ref 37, dm, Value.int l2, dm, Value.int l4, Value.int (0), dm, dm, dm] [] (sz, sl, sh, R, I, J)) :=
  tq ((E_iload (x := l4) rfl f200_76)) (tq ((E_iconst (x := (60)) (by decide) f200_78)) (tq ((E_ic_gt f200_80)) (ite_c ((E_vret pr_200 f200_208)) (tq ((E_iconst (x := (0)) (by decide) f200_83)) ((E_istore rfl f200_84))))))
theorem t200_86 {X : XX} {d : Nat} {sz sl : Nat} {sh : Nat → Nat × Nat} {R : Nat → Nat → Option Nat} {I : Nat → Nat → Int32} {J : Nat → Nat → Int64} {l2 : Int32} {l4 : Int32} {l5 : Int32} : exe X d 200 86 [Value.ref 37, dm, Value.int l2, dm, Value.int l4, Value.int l5, dm, dm, dm] [] (sz, sl, sh, R, I, J) =
    (if (60) < l5 then exe X d 200 76 [Value.ref 37, dm, Value.int l2, dm, Value.int (l4 + (1)), dm, dm, dm, dm] [] (sz, sl, sh, R, I, J) else exe X d 200 99 [Value.ref 37, dm, Value.int l2, dm, Value.int l4, Value.int l5, Value.long (0), dm, Value.int (0)] [] (sz, sl, sh, R, I, J)) :=
  tq ((E_iload (x := l5) rfl f200_86)) (tq ((E_iconst (x := (60)) (by decide) f200_88)) (tq ((E_ic_gt f200_90)) (ite_c (tq ((E_iinc (x := l4) (x' := (1)) rfl rfl (by decide) f200_202)) ((E_goto f200_205))) (tq ((E_lconst (x := (0)) (by decide) f200_93)) (tq ((E_lstore rfl (Nat.le_of_ble_eq_true rfl) f200_94)) (tq ((E_iconst (x := (0)) (by decide) f200_96)) ((E_istore rfl f200_97))))))))
theorem t200_99 {X : XX} {d : Nat} {sz sl : Nat} {sh : Nat → Nat × Nat} {R : Nat → Nat → Option Nat} {I : Nat → Nat → Int32} {J : Nat → Nat → Int64} (hS : SF sh R) {l2 : Int32} {l4 : Int32} {l5 : Int32} {l6 : Int64} {l8 : Int32} : exe X d 200 99 [Value.ref 37, dm, Value.int l2, dm, Value.int l4, Value.int l5, Value.long l6, dm, Value.int l8] [] (sz, sl, sh, R, I, J) =
    (if (8) ≤ l8 then (if (lg_cmp (J 37 44) (0)) < 0 then exe X d 200 178 [Value.ref 37, dm, Value.int l2, dm, Value.int l4, Value.int l5, Value.long l6, dm, dm] [] (sz, sl, sh, R, I, J) else (if 0 ≤ (lg_cmp l6 (J 37 44)) then exe X d 200 86 [Value.ref 37, dm, Value.int l2, dm, Value.int l4, Value.int (l5 + (1)), dm, dm, dm] [] (sz, sl, sh, R, I, J) else exe X d 200 178 [Value.ref 37, dm, Value.int l2, dm, Value.int l4, Value.int l5, Value.long l6, dm, dm] [] (sz, sl, sh, R, I, J))) else (if inb (((8) * l2) + l8) 320 then (if inb l8 8 then (if inb l8 8 then ((ev X d 152 [Value.long (((Int32.toInt64 (I 42 (((8) * l2) + l8).toNatClampNeg)) - ((Int32.toInt64 l4) * (Int32.toInt64 (I 67 l8.toNatClampNeg)))) - ((Int32.toInt64 l5) * (Int32.toInt64 (I 68 l8.toNatClampNeg))))] (sz, sl, sh, R, I, J)).bind fun q => exe X d 200 150 [Value.ref 37, dm, Value.int l2, dm, Value.int l4, Value.int l5, dm, dm, Value.int l8] (q.1.toList ++ [Value.long l6]) q.2) else none) else none) else none)) :=
  tq ((E_iload (x := l8) rfl f200_99)) (tq ((E_iconst (x := (8)) (by decide) f200_101)) (tq ((E_ic_ge f200_103)) (ite_c (tq ((E_aload (v := Value.ref 37) rfl rfl f200_159)) (tq (tq ((G11044 f200_160)) (if_pos (zS37 hS))) (tq ((E_lconst (x := (0)) (by decide) f200_163)) (tq ((E_lcmp f200_164)) (tq ((E_if_lt f200_165)) (ite_c (rfl) (tq ((E_lload (x := l6) rfl f200_168)) (tq ((E_aload (v := Value.ref 37) rfl rfl f200_170)) (tq (tq ((G11044 f200_171)) (if_pos (zS37 hS))) (tq ((E_lcmp f200_174)) (tq ((E_if_ge f200_175)) (ite_c (tq ((E_iinc (x := l5) (x' := (1)) rfl rfl (by decide) f200_196)) ((E_goto f200_199))) (rfl))))))))))))) (tq ((E_lload (x := l6) rfl f200_106)) (tq ((E_aload (v := Value.ref 37) rfl rfl f200_108)) (tq (tq ((G11005 f200_109)) (if_pos (zS37 hS))) (tq (exe_R (zR37_5 hS)) (tq ((E_iconst (x := (8)) (by decide) f200_112)) (tq ((E_iload (x := l2) rfl f200_114)) (tq ((E_imul f200_115)) (tq ((E_iload (x := l8) rfl f200_116)) (tq ((E_iadd f200_118)) (tq (tq ((E_iald f200_119)) (ite_ar (zS42 hS))) (ite_c (tq ((E_i2l f200_120)) (tq ((E_iload (x := l4) rfl f200_121)) (tq ((E_i2l f200_123)) (tq ((E_aload (v := Value.ref 37) rfl rfl f200_124)) (tq (tq ((G11045 f200_125)) (if_pos (zS37 hS))) (tq (exe_R (zR37_45 hS)) (tq ((E_iload (x := l8) rfl f200_128)) (tq (tq ((E_iald f200_130)) (ite_ar (zS67 hS))) (ite_c (tq ((E_i2l f200_131)) (tq ((E_lmul f200_132)) (tq ((E_lsub f200_133)) (tq ((E_iload (x := l5) rfl f200_134)) (tq ((E_i2l f200_136)) (tq ((E_aload (v := Value.ref 37) rfl rfl f200_137)) (tq (tq ((G11046 f200_138)) (if_pos (zS37 hS))) (tq (exe_R (zR37_46 hS)) (tq ((E_iload (x := l8) rfl f200_141)) (tq (tq ((E_iald f200_143)) (ite_ar (zS68 hS))) (ite_c (tq ((E_i2l f200_144)) (tq ((E_lmul f200_145)) (tq ((E_lsub f200_146)) ((E_callS pn_152 rfl rfl (Nat.le_of_ble_eq_true rfl) (Nat.le_of_ble_eq_true rfl) f200_147))))) rfl))))))))))) rfl))))))))) rfl))))))))))))))
theorem t200_150 {X : XX} {d : Nat} {sz sl : Nat} {sh : Nat → Nat × Nat} {R : Nat → Nat → Option Nat} {I : Nat → Nat → Int32} {J : Nat → Nat → Int64} {l2 : Int32} {l4 : Int32} {l5 : Int32} {l8 : Int32} {s0 : Int64} {s1 : Int64} : exe X d 200 150 [Value.ref 37, dm, Value.int l2, dm, Value.int l4, Value.int l5, dm, dm, Value.int l8] [Value.long s0, Value.long s1] (sz, sl, sh, R, I, J) =
    exe X d 200 99 [Value.ref 37, dm, Value.int l2, dm, Value.int l4, Value.int l5, Value.long (s1 + s0), dm, Value.int (l8 + (1))] [] (sz, sl, sh, R, I, J) :=
  tq ((E_ladd f200_150)) (tq ((E_lstore rfl (Nat.le_of_ble_eq_true rfl) f200_151)) (tq ((E_iinc (x := l8) (x' := (1)) rfl rfl (by decide) f200_153)) ((E_goto f200_156))))
theorem t200_178 {X : XX} {d : Nat} {sz sl : Nat} {sh : Nat → Nat × Nat} {R : Nat → Nat → Option Nat} {I : Nat → Nat → Int32} {J : Nat → Nat → Int64} (hS : SF sh R) {l2 : Int32} {l4 : Int32} {l5 : Int32} {l6 : Int64} : exe X d 200 178 [Value.ref 37, dm, Value.int l2, dm, Value.int l4, Value.int l5, Value.long l6, dm, dm] [] (sz, sl, sh, R, I, J) =
    exe X d 200 86 [Value.ref 37, dm, Value.int l2, dm, Value.int l4, Value.int (l5 + (1)), dm, dm, dm] [] (sz, sl, sh, R, (u2 (u2 I 37 42 l4) 37 43 l5), (u2 J 37 44 l6)) :=
  tq ((E_aload (v := Value.ref 37) rfl rfl f200_178)) (tq ((E_lload (x := l6) rfl f200_179)) (tq (tq ((P11044 f200_181)) (if_pos (zS37 hS))) (tq ((E_aload (v := Value.ref 37) rfl rfl f200_184)) (tq ((E_iload (x := l4) rfl f200_185)) (tq (tq ((P11042 f200_187)) (if_pos (zS37 hS))) (tq ((E_aload (v := Value.ref 37) rfl rfl f200_190)) (tq ((E_iload (x := l5) rfl f200_191)) (tq (tq ((P11043 f200_193)) (if_pos (zS37 hS))) (tq ((E_iinc (x := l5) (x' := (1)) rfl rfl (by decide) f200_196)) ((E_goto f200_199)))))))))))
theorem n200 {X : XX} {d : Nat} {h : HP} {a0 : Int32} {a1 : Int32} {a2 : Int32} : ev X (d + 1) 200 [Value.ref 37, Value.int a0, Value.int a1, Value.int a2] h = exe X d 200 0 [Value.ref 37, Value.int a0, Value.int a1, Value.int a2, dm, dm, dm, dm, dm] [] h := ev_exe (Nat.le_of_ble_eq_true rfl)
theorem f201_0 : fr 201 0 = some (.aload 0, 1, [], []) := by decide +kernel
theorem f201_1 : fr 201 1 = some (.iload 1, 1, [], []) := by decide +kernel
theorem f201_2 : fr 201 2 = some (.invokevirtual 179, 3, [], []) := by decide +kernel
theorem f201_5 : fr 201 5 = some (.ifCond .eq 18, 3, [], [0, 1, 2]) := by decide +kernel
theorem f201_8 : fr 201 8 = some (.iload 2, 1, [], []) := by decide +kernel
theorem f201_9 : fr 201 9 = some (.iconst 0, 1, [], []) := by decide +kernel
theorem f201_10 : fr 201 10 = some (.iconst 79, 2, [], []) := by decide +kernel
theorem f201_12 : fr 201 12 = some (.invokestatic 148, 3, [], []) := by decide +kernel
theorem f201_15 : fr 201 15 = some (.ifCond .ne 20, 3, [0, 1, 2], []) := by decide +kernel
theorem f201_18 : fr 201 18 = some (.iconst (-1), 1, [], []) := by decide +kernel
theorem f201_19 : fr 201 19 = some (.ireturn, 1, [], []) := by decide +kernel
theorem f201_20 : fr 201 20 = some (.iconst 0, 1, [], []) := by decide +kernel
theorem f201_21 : fr 201 21 = some (.istore 3, 1, [], []) := by decide +kernel
theorem f201_22 : fr 201 22 = some (.iconst 0, 1, [], []) := by decide +kernel
theorem f201_23 : fr 201 23 = some (.istore 4, 2, [], []) := by decide +kernel
theorem f201_25 : fr 201 25 = some (.iconst 0, 1, [], []) := by decide +kernel
theorem f201_26 : fr 201 26 = some (.istore 5, 2, [], []) := by decide +kernel
theorem f201_28 : fr 201 28 = some (.iload 5, 2, [], []) := by decide +kernel
theorem f201_30 : fr 201 30 = some (.aload 0, 1, [], []) := by decide +kernel
theorem f201_31 : fr 201 31 = some (.getfield 11000, 3, [], []) := by decide +kernel
theorem f201_34 : fr 201 34 = some (.if_icmp .ge 75, 3, [], [0, 1, 2, 5]) := by decide +kernel
theorem f201_37 : fr 201 37 = some (.aload 0, 1, [], []) := by decide +kernel
theorem f201_38 : fr 201 38 = some (.iload 5, 2, [], []) := by decide +kernel
theorem f201_40 : fr 201 40 = some (.invokevirtual 162, 3, [], []) := by decide +kernel
theorem f201_43 : fr 201 43 = some (.ifCond .le 69, 3, [4], []) := by decide +kernel
theorem f201_46 : fr 201 46 = some (.iconst 1, 1, [], []) := by decide +kernel
theorem f201_47 : fr 201 47 = some (.istore 4, 2, [], []) := by decide +kernel
theorem f201_49 : fr 201 49 = some (.aload 0, 1, [], []) := by decide +kernel
theorem f201_50 : fr 201 50 = some (.iload 1, 1, [], []) := by decide +kernel
theorem f201_51 : fr 201 51 = some (.iload 5, 2, [], []) := by decide +kernel
theorem f201_53 : fr 201 53 = some (.iload 2, 1, [], []) := by decide +kernel
theorem f201_54 : fr 201 54 = some (.invokevirtual 200, 3, [], []) := by decide +kernel
theorem f201_57 : fr 201 57 = some (.iload 3, 1, [3], []) := by decide +kernel
theorem f201_58 : fr 201 58 = some (.aload 0, 1, [], []) := by decide +kernel
theorem f201_59 : fr 201 59 = some (.getfield 11042, 3, [], []) := by decide +kernel
theorem f201_62 : fr 201 62 = some (.aload 0, 1, [], []) := by decide +kernel
theorem f201_63 : fr 201 63 = some (.getfield 11043, 3, [], []) := by decide +kernel
theorem f201_66 : fr 201 66 = some (.isub, 1, [], []) := by decide +kernel
theorem f201_67 : fr 201 67 = some (.iadd, 1, [], []) := by decide +kernel
theorem f201_68 : fr 201 68 = some (.istore 3, 1, [], []) := by decide +kernel
theorem f201_69 : fr 201 69 = some (.iinc 5 1, 3, [], []) := by decide +kernel
theorem f201_72 : fr 201 72 = some (.goto 28, 3, [], []) := by decide +kernel
theorem f201_75 : fr 201 75 = some (.iload 4, 2, [4], []) := by decide +kernel
theorem f201_77 : fr 201 77 = some (.ifCond .eq 84, 3, [], [3]) := by decide +kernel
theorem f201_80 : fr 201 80 = some (.iload 3, 1, [3], []) := by decide +kernel
theorem f201_81 : fr 201 81 = some (.goto 86, 3, [], []) := by decide +kernel
theorem f201_84 : fr 201 84 = some (.iconst (-2), 2, [], []) := by decide +kernel
theorem f201_86 : fr 201 86 = some (.ireturn, 1, [], []) := by decide +kernel
theorem t201_0 {X : XX} {d : Nat} {sz sl : Nat} {sh : Nat → Nat × Nat} {R : Nat → Nat → Option Nat} {I : Nat → Nat → Int32} {J : Nat → Nat → Int64} (hS : SF sh R) {l1 : Int32} {l2 : Int32} : exe X d 201 0 [Value.ref 37, Value.int l1, Value.int l2, dm, dm, dm] [] (sz, sl, sh, R, I, J) =
    ((ev X d 179 [Value.ref 37, Value.int l1] (sz, sl, sh, R, I, J)).bind fun q => exe X d 201 5 [Value.ref 37, Value.int l1, Value.int l2, dm, dm, dm] (q.1.toList ++ []) q.2) :=
  tq ((E_aload (v := Value.ref 37) rfl rfl f201_0)) (tq ((E_iload (x := l1) rfl f201_1)) ((tq ((E_callV pn_179 pc_179 rfl rfl (Nat.le_of_ble_eq_true rfl) f201_2)) (if_pos (zS37 hS)))))
theorem t201_5 {X : XX} {d : Nat} {sz sl : Nat} {sh : Nat → Nat × Nat} {R : Nat → Nat → Option Nat} {I : Nat → Nat → Int32} {J : Nat → Nat → Int64} {l1 : Int32} {l2 : Int32} {s0 : Int32} : exe X d 201 5 [Value.ref 37, Value.int l1, Value.int l2, dm, dm, dm] [Value.int s0] (sz, sl, sh, R, I, J) =
    (if s0 = 0 then some (some (Value.int (-1)), (sz, sl, sh, R, I, J)) else ((ev X d 148 [Value.int l2, Value.int (0), Value.int (79)] (sz, sl, sh, R, I, J)).bind fun q => exe X d 201 15 [Value.ref 37, Value.int l1, Value.int l2, dm, dm, dm] (q.1.toList ++ []) q.2)) :=
  tq ((E_if_eq f201_5)) (ite_c (tq ((E_iconst (x := (-1)) (by decide) f201_18)) ((E_iret pr_201 f201_19))) (tq ((E_iload (x := l2) rfl f201_8)) (tq ((E_iconst (x := (0)) (by decide) f201_9)) (tq ((E_iconst (x := (79)) (by decide) f201_10)) ((E_callS pn_148 rfl rfl (Nat.le_of_ble_eq_true rfl) (Nat.le_of_ble_eq_true rfl) f201_12))))))
theorem t201_15 {X : XX} {d : Nat} {sz sl : Nat} {sh : Nat → Nat × Nat} {R : Nat → Nat → Option Nat} {I : Nat → Nat → Int32} {J : Nat → Nat → Int64} {l1 : Int32} {l2 : Int32} {s0 : Int32} : exe X d 201 15 [Value.ref 37, Value.int l1, Value.int l2, dm, dm, dm] [Value.int s0] (sz, sl, sh, R, I, J) =
    (if ¬ s0 = 0 then exe X d 201 28 [Value.ref 37, Value.int l1, Value.int l2, Value.int (0), Value.int (0), Value.int (0)] [] (sz, sl, sh, R, I, J) else some (some (Value.int (-1)), (sz, sl, sh, R, I, J))) :=
  tq ((E_if_ne f201_15)) (ite_c (tq ((E_iconst (x := (0)) (by decide) f201_20)) (tq ((E_istore rfl f201_21)) (tq ((E_iconst (x := (0)) (by decide) f201_22)) (tq ((E_istore rfl f201_23)) (tq ((E_iconst (x := (0)) (by decide) f201_25)) ((E_istore rfl f201_26))))))) (tq ((E_iconst (x := (-1)) (by decide) f201_18)) ((E_iret pr_201 f201_19))))
theorem t201_28 {X : XX} {d : Nat} {sz sl : Nat} {sh : Nat → Nat × Nat} {R : Nat → Nat → Option Nat} {I : Nat → Nat → Int32} {J : Nat → Nat → Int64} (hS : SF sh R) {l1 : Int32} {l2 : Int32} {l3 : Int32} {l4 : Int32} {l5 : Int32} : exe X d 201 28 [Value.ref 37, Value.int l1, Value.int l2, Value.int l3, Value.int l4, Value.int l5] [] (sz, sl, sh, R, I, J) =
    (if (I 37 0) ≤ l5 then (if l4 = 0 then some (some (Value.int (-2)), (sz, sl, sh, R, I, J)) else some (some (Value.int l3), (sz, sl, sh, R, I, J))) else ((ev X d 162 [Value.ref 37, Value.int l5] (sz, sl, sh, R, I, J)).bind fun q => exe X d 201 43 [Value.ref 37, Value.int l1, Value.int l2, Value.int l3, Value.int l4, Value.int l5] (q.1.toList ++ []) q.2)) :=
  tq ((E_iload (x := l5) rfl f201_28)) (tq ((E_aload (v := Value.ref 37) rfl rfl f201_30)) (tq (tq ((G11000 f201_31)) (if_pos (zS37 hS))) (tq ((E_ic_ge f201_34)) (ite_c (tq ((E_iload (x := l4) rfl f201_75)) (tq ((E_if_eq f201_77)) (ite_c (tq ((E_iconst (x := (-2)) (by decide) f201_84)) ((E_iret pr_201 f201_86))) (tq ((E_iload (x := l3) rfl f201_80)) (tq ((E_goto f201_81)) ((E_iret pr_201 f201_86))))))) (tq ((E_aload (v := Value.ref 37) rfl rfl f201_37)) (tq ((E_iload (x := l5) rfl f201_38)) ((tq ((E_callV pn_162 pc_162 rfl rfl (Nat.le_of_ble_eq_true rfl) f201_40)) (if_pos (zS37 hS))))))))))
theorem t201_43 {X : XX} {d : Nat} {sz sl : Nat} {sh : Nat → Nat × Nat} {R : Nat → Nat → Option Nat} {I : Nat → Nat → Int32} {J : Nat → Nat → Int64} (hS : SF sh R) {l1 : Int32} {l2 : Int32} {l3 : Int32} {l4 : Int32} {l5 : Int32} {s0 : Int32} : exe X d 201 43 [Value.ref 37, Value.int l1, Value.int l2, Value.int l3, Value.int l4, Value.int l5] [Value.int s0] (sz, sl, sh, R, I, J) =
    (if s0 ≤ 0 then exe X d 201 28 [Value.ref 37, Value.int l1, Value.int l2, Value.int l3, Value.int l4, Value.int (l5 + (1))] [] (sz, sl, sh, R, I, J) else ((ev X d 200 [Value.ref 37, Value.int l1, Value.int l5, Value.int l2] (sz, sl, sh, R, I, J)).bind fun q => exe X d 201 57 [Value.ref 37, Value.int l1, Value.int l2, Value.int l3, Value.int (1), Value.int l5] (q.1.toList ++ []) q.2)) :=
  tq ((E_if_le f201_43)) (ite_c (tq ((E_iinc (x := l5) (x' := (1)) rfl rfl (by decide) f201_69)) ((E_goto f201_72))) (tq ((E_iconst (x := (1)) (by decide) f201_46)) (tq ((E_istore rfl f201_47)) (tq ((E_aload (v := Value.ref 37) rfl rfl f201_49)) (tq ((E_iload (x := l1) rfl f201_50)) (tq ((E_iload (x := l5) rfl f201_51)) (tq ((E_iload (x := l2) rfl f201_53)) ((tq ((E_callV pn_200 pc_200 rfl rfl (Nat.le_of_ble_eq_true rfl) f201_54)) (if_pos (zS37 hS)))))))))))
theorem t201_57 {X : XX} {d : Nat} {sz sl : Nat} {sh : Nat → Nat × Nat} {R : Nat → Nat → Option Nat} {I : Nat → Nat → Int32} {J : Nat → Nat → Int64} (hS : SF sh R) {l1 : Int32} {l2 : Int32} {l3 : Int32} {l4 : Int32} {l5 : Int32} : exe X d 201 57 [Value.ref 37, Value.int l1, Value.int l2, Value.int l3, Value.int l4, Value.int l5] [] (sz, sl, sh, R, I, J) =
    exe X d 201 28 [Value.ref 37, Value.int l1, Value.int l2, Value.int (l3 + ((I 37 42) - (I 37 43))), Value.int l4, Value.int (l5 + (1))] [] (sz, sl, sh, R, I, J) :=
  tq ((E_iload (x := l3) rfl f201_57)) (tq ((E_aload (v := Value.ref 37) rfl rfl f201_58)) (tq (tq ((G11042 f201_59)) (if_pos (zS37 hS))) (tq ((E_aload (v := Value.ref 37) rfl rfl f201_62)) (tq (tq ((G11043 f201_63)) (if_pos (zS37 hS))) (tq ((E_isub f201_66)) (tq ((E_iadd f201_67)) (tq ((E_istore rfl f201_68)) (tq ((E_iinc (x := l5) (x' := (1)) rfl rfl (by decide) f201_69)) ((E_goto f201_72))))))))))
theorem n201 {X : XX} {d : Nat} {h : HP} {a0 : Int32} {a1 : Int32} : ev X (d + 1) 201 [Value.ref 37, Value.int a0, Value.int a1] h = exe X d 201 0 [Value.ref 37, Value.int a0, Value.int a1, dm, dm, dm] [] h := ev_exe (Nat.le_of_ble_eq_true rfl)
theorem f202_0 : fr 202 0 = some (.iload 1, 1, [], []) := by decide +kernel
theorem f202_1 : fr 202 1 = some (.ifCond .lt 46, 3, [], [0, 1, 2, 3]) := by decide +kernel
theorem f202_4 : fr 202 4 = some (.aload 0, 1, [], []) := by decide +kernel
theorem f202_5 : fr 202 5 = some (.iload 1, 1, [], []) := by decide +kernel
theorem f202_6 : fr 202 6 = some (.iconst 100, 2, [], []) := by decide +kernel
theorem f202_8 : fr 202 8 = some (.idiv, 1, [], []) := by decide +kernel
theorem f202_9 : fr 202 9 = some (.invokevirtual 150, 3, [], []) := by decide +kernel
theorem f202_12 : fr 202 12 = some (.ifCond .eq 46, 3, [], [0, 1, 2, 3]) := by decide +kernel
theorem f202_15 : fr 202 15 = some (.aload 0, 1, [], []) := by decide +kernel
theorem f202_16 : fr 202 16 = some (.iload 1, 1, [], []) := by decide +kernel
theorem f202_17 : fr 202 17 = some (.iconst 100, 2, [], []) := by decide +kernel
theorem f202_19 : fr 202 19 = some (.irem, 1, [], []) := by decide +kernel
theorem f202_20 : fr 202 20 = some (.invokevirtual 150, 3, [], []) := by decide +kernel
theorem f202_23 : fr 202 23 = some (.ifCond .eq 46, 3, [], [0, 1, 2, 3]) := by decide +kernel
theorem f202_26 : fr 202 26 = some (.iload 2, 1, [], []) := by decide +kernel
theorem f202_27 : fr 202 27 = some (.iconst 0, 1, [], []) := by decide +kernel
theorem f202_28 : fr 202 28 = some (.iconst 2000, 3, [], []) := by decide +kernel
theorem f202_31 : fr 202 31 = some (.invokestatic 148, 3, [], []) := by decide +kernel
theorem f202_34 : fr 202 34 = some (.ifCond .eq 46, 3, [], [0, 1, 2, 3]) := by decide +kernel
theorem f202_37 : fr 202 37 = some (.iload 3, 1, [], []) := by decide +kernel
theorem f202_38 : fr 202 38 = some (.iconst 0, 1, [], []) := by decide +kernel
theorem f202_39 : fr 202 39 = some (.iconst 1, 1, [], []) := by decide +kernel
theorem f202_40 : fr 202 40 = some (.invokestatic 148, 3, [], []) := by decide +kernel
theorem f202_43 : fr 202 43 = some (.ifCond .ne 48, 3, [0, 1, 2, 3], []) := by decide +kernel
theorem f202_46 : fr 202 46 = some (.iconst (-1), 1, [], []) := by decide +kernel
theorem f202_47 : fr 202 47 = some (.ireturn, 1, [], []) := by decide +kernel
theorem f202_48 : fr 202 48 = some (.iload 1, 1, [], []) := by decide +kernel
theorem f202_49 : fr 202 49 = some (.iconst 100, 2, [], []) := by decide +kernel
theorem f202_51 : fr 202 51 = some (.idiv, 1, [], []) := by decide +kernel
theorem f202_52 : fr 202 52 = some (.istore 4, 2, [], []) := by decide +kernel
theorem f202_54 : fr 202 54 = some (.aload 0, 1, [], []) := by decide +kernel
theorem f202_55 : fr 202 55 = some (.getfield 11003, 3, [], []) := by decide +kernel
theorem f202_58 : fr 202 58 = some (.iload 4, 2, [], []) := by decide +kernel
theorem f202_60 : fr 202 60 = some (.iaload, 1, [], []) := by decide +kernel
theorem f202_61 : fr 202 61 = some (.iload 2, 1, [], []) := by decide +kernel
theorem f202_62 : fr 202 62 = some (.if_icmp .lt 68, 3, [0, 1, 2, 3, 4], []) := by decide +kernel
theorem f202_65 : fr 202 65 = some (.iconst (-2), 2, [], []) := by decide +kernel
theorem f202_67 : fr 202 67 = some (.ireturn, 1, [], []) := by decide +kernel
theorem f202_68 : fr 202 68 = some (.jsr_w 1000, 3, [], []) := by decide +kernel
theorem f202_71 : fr 202 71 = some (.aload 0, 1, [], []) := by decide +kernel
theorem f202_72 : fr 202 72 = some (.iload 4, 2, [], []) := by decide +kernel
theorem f202_74 : fr 202 74 = some (.aload 0, 1, [], []) := by decide +kernel
theorem f202_75 : fr 202 75 = some (.iload 4, 2, [], []) := by decide +kernel
theorem f202_77 : fr 202 77 = some (.invokevirtual 196, 3, [], []) := by decide +kernel
theorem f202_80 : fr 202 80 = some (.invokevirtual 195, 3, [], []) := by decide +kernel
theorem f202_83 : fr 202 83 = some (.i2l, 1, [], []) := by decide +kernel
theorem f202_84 : fr 202 84 = some (.lmul, 1, [], []) := by decide +kernel
theorem f202_85 : fr 202 85 = some (.iload 2, 1, [], []) := by decide +kernel
theorem f202_86 : fr 202 86 = some (.aload 0, 1, [], []) := by decide +kernel
theorem f202_87 : fr 202 87 = some (.getfield 11003, 3, [], []) := by decide +kernel
theorem f202_90 : fr 202 90 = some (.iload 4, 2, [4], []) := by decide +kernel
theorem f202_92 : fr 202 92 = some (.iaload, 1, [], []) := by decide +kernel
theorem f202_93 : fr 202 93 = some (.isub, 1, [], []) := by decide +kernel
theorem f202_94 : fr 202 94 = some (.i2l, 1, [], []) := by decide +kernel
theorem f202_95 : fr 202 95 = some (.ldiv, 1, [], []) := by decide +kernel
theorem f202_96 : fr 202 96 = some (.l2i, 1, [], []) := by decide +kernel
theorem f202_97 : fr 202 97 = some (.istore 5, 2, [], []) := by decide +kernel
theorem f202_99 : fr 202 99 = some (.iload 5, 2, [], []) := by decide +kernel
theorem f202_101 : fr 202 101 = some (.ifCond .ne 107, 3, [0, 1, 2, 3, 5], []) := by decide +kernel
theorem f202_104 : fr 202 104 = some (.iconst (-2), 2, [], []) := by decide +kernel
theorem f202_106 : fr 202 106 = some (.ireturn, 1, [], []) := by decide +kernel
theorem f202_107 : fr 202 107 = some (.iload 3, 1, [3], []) := by decide +kernel
theorem f202_108 : fr 202 108 = some (.ifCond .ne 116, 3, [0, 1, 2], []) := by decide +kernel
theorem f202_111 : fr 202 111 = some (.iload 5, 2, [5], []) := by decide +kernel
theorem f202_113 : fr 202 113 = some (.goto 145, 3, [], []) := by decide +kernel
theorem f202_116 : fr 202 116 = some (.iload 2, 1, [2], []) := by decide +kernel
theorem f202_117 : fr 202 117 = some (.i2l, 1, [], []) := by decide +kernel
theorem f202_118 : fr 202 118 = some (.jsr_w 1000, 3, [], []) := by decide +kernel
theorem f202_121 : fr 202 121 = some (.aload 0, 1, [], []) := by decide +kernel
theorem f202_122 : fr 202 122 = some (.iload 1, 1, [], []) := by decide +kernel
theorem f202_123 : fr 202 123 = some (.iconst 100, 2, [], []) := by decide +kernel
theorem f202_125 : fr 202 125 = some (.irem, 1, [], []) := by decide +kernel
theorem f202_126 : fr 202 126 = some (.aload 0, 1, [0], []) := by decide +kernel
theorem f202_127 : fr 202 127 = some (.iload 1, 1, [1], []) := by decide +kernel
theorem f202_128 : fr 202 128 = some (.iconst 100, 2, [], []) := by decide +kernel
theorem f202_130 : fr 202 130 = some (.irem, 1, [], []) := by decide +kernel
theorem f202_131 : fr 202 131 = some (.invokevirtual 196, 3, [], []) := by decide +kernel
theorem f202_134 : fr 202 134 = some (.invokevirtual 195, 3, [], []) := by decide +kernel
theorem f202_137 : fr 202 137 = some (.i2l, 1, [], []) := by decide +kernel
theorem f202_138 : fr 202 138 = some (.lmul, 1, [], []) := by decide +kernel
theorem f202_139 : fr 202 139 = some (.iload 5, 2, [5], []) := by decide +kernel
theorem f202_141 : fr 202 141 = some (.i2l, 1, [], []) := by decide +kernel
theorem f202_142 : fr 202 142 = some (.ldiv, 1, [], []) := by decide +kernel
theorem f202_143 : fr 202 143 = some (.lsub, 1, [], []) := by decide +kernel
theorem f202_144 : fr 202 144 = some (.l2i, 1, [], []) := by decide +kernel
theorem f202_145 : fr 202 145 = some (.ireturn, 1, [], []) := by decide +kernel
theorem t202_0 {X : XX} {d : Nat} {sz sl : Nat} {sh : Nat → Nat × Nat} {R : Nat → Nat → Option Nat} {I : Nat → Nat → Int32} {J : Nat → Nat → Int64} (hS : SF sh R) {l1 : Int32} {l2 : Int32} {l3 : Int32} : exe X d 202 0 [Value.ref 37, Value.int l1, Value.int l2, Value.int l3, dm, dm] [] (sz, sl, sh, R, I, J) =
    (if l1 < 0 then some (some (Value.int (-1)), (sz, sl, sh, R, I, J)) else ((ev X d 150 [Value.ref 37, Value.int (l1 / (100))] (sz, sl, sh, R, I, J)).bind fun q => exe X d 202 12 [Value.ref 37, Value.int l1, Value.int l2, Value.int l3, dm, dm] (q.1.toList ++ []) q.2)) :=
  tq ((E_iload (x := l1) rfl f202_0)) (tq ((E_if_lt f202_1)) (ite_c (tq ((E_iconst (x := (-1)) (by decide) f202_46)) ((E_iret pr_202 f202_47))) (tq ((E_aload (v := Value.ref 37) rfl rfl f202_4)) (tq ((E_iload (x := l1) rfl f202_5)) (tq ((E_iconst (x := (100)) (by decide) f202_6)) (tq ((E_idiv (by decide) f202_8)) ((tq ((E_callV pn_150 pc_150 rfl rfl (Nat.le_of_ble_eq_true rfl) f202_9)) (if_pos (zS37 hS))))))))))
theorem t202_12 {X : XX} {d : Nat} {sz sl : Nat} {sh : Nat → Nat × Nat} {R : Nat → Nat → Option Nat} {I : Nat → Nat → Int32} {J : Nat → Nat → Int64} (hS : SF sh R) {l1 : Int32} {l2 : Int32} {l3 : Int32} {s0 : Int32} : exe X d 202 12 [Value.ref 37, Value.int l1, Value.int l2, Value.int l3, dm, dm] [Value.int s0] (sz, sl, sh, R, I, J) =
    (if s0 = 0 then some (some (Value.int (-1)), (sz, sl, sh, R, I, J)) else ((ev X d 150 [Value.ref 37, Value.int (l1 - l1 / (100) * (100))] (sz, sl, sh, R, I, J)).bind fun q => exe X d 202 23 [Value.ref 37, Value.int l1, Value.int l2, Value.int l3, dm, dm] (q.1.toList ++ []) q.2)) :=
  tq ((E_if_eq f202_12)) (ite_c (tq ((E_iconst (x := (-1)) (by decide) f202_46)) ((E_iret pr_202 f202_47))) (tq ((E_aload (v := Value.ref 37) rfl rfl f202_15)) (tq ((E_iload (x := l1) rfl f202_16)) (tq ((E_iconst (x := (100)) (by decide) f202_17)) (tq ((E_irem (by decide) f202_19)) ((tq ((E_callV pn_150 pc_150 rfl rfl (Nat.le_of_ble_eq_true rfl) f202_20)) (if_pos (zS37 hS)))))))))
theorem t202_23 {X : XX} {d : Nat} {sz sl : Nat} {sh : Nat → Nat × Nat} {R : Nat → Nat → Option Nat} {I : Nat → Nat → Int32} {J : Nat → Nat → Int64} {l1 : Int32} {l2 : Int32} {l3 : Int32} {s0 : Int32} : exe X d 202 23 [Value.ref 37, Value.int l1, Value.int l2, Value.int l3, dm, dm] [Value.int s0] (sz, sl, sh, R, I, J) =
    (if s0 = 0 then some (some (Value.int (-1)), (sz, sl, sh, R, I, J)) else ((ev X d 148 [Value.int l2, Value.int (0), Value.int (2000)] (sz, sl, sh, R, I, J)).bind fun q => exe X d 202 34 [Value.ref 37, Value.int l1, Value.int l2, Value.int l3, dm, dm] (q.1.toList ++ []) q.2)) :=
  tq ((E_if_eq f202_23)) (ite_c (tq ((E_iconst (x := (-1)) (by decide) f202_46)) ((E_iret pr_202 f202_47))) (tq ((E_iload (x := l2) rfl f202_26)) (tq ((E_iconst (x := (0)) (by decide) f202_27)) (tq ((E_iconst (x := (2000)) (by decide) f202_28)) ((E_callS pn_148 rfl rfl (Nat.le_of_ble_eq_true rfl) (Nat.le_of_ble_eq_true rfl) f202_31))))))
theorem t202_34 {X : XX} {d : Nat} {sz sl : Nat} {sh : Nat → Nat × Nat} {R : Nat → Nat → Option Nat} {I : Nat → Nat → Int32} {J : Nat → Nat → Int64} {l1 : Int32} {l2 : Int32} {l3 : Int32} {s0 : Int32} : exe X d 202 34 [Value.ref 37, Value.int l1, Value.int l2, Value.int l3, dm, dm] [Value.int s0] (sz, sl, sh, R, I, J) =
    (if s0 = 0 then some (some (Value.int (-1)), (sz, sl, sh, R, I, J)) else ((ev X d 148 [Value.int l3, Value.int (0), Value.int (1)] (sz, sl, sh, R, I, J)).bind fun q => exe X d 202 43 [Value.ref 37, Value.int l1, Value.int l2, Value.int l3, dm, dm] (q.1.toList ++ []) q.2)) :=
  tq ((E_if_eq f202_34)) (ite_c (tq ((E_iconst (x := (-1)) (by decide) f202_46)) ((E_iret pr_202 f202_47))) (tq ((E_iload (x := l3) rfl f202_37)) (tq ((E_iconst (x := (0)) (by decide) f202_38)) (tq ((E_iconst (x := (1)) (by decide) f202_39)) ((E_callS pn_148 rfl rfl (Nat.le_of_ble_eq_true rfl) (Nat.le_of_ble_eq_true rfl) f202_40))))))
theorem t202_43 {X : XX} {d : Nat} {sz sl : Nat} {sh : Nat → Nat × Nat} {R : Nat → Nat → Option Nat} {I : Nat → Nat → Int32} {J : Nat → Nat → Int64} (hS : SF sh R) {l1 : Int32} {l2 : Int32} {l3 : Int32} {s0 : Int32} : exe X d 202 43 [Value.ref 37, Value.int l1, Value.int l2, Value.int l3, dm, dm] [Value.int s0] (sz, sl, sh, R, I, J) =
    (if ¬ s0 = 0 then (if inb (l1 / (100)) 40 then (if (I 40 (l1 / (100)).toNatClampNeg) < l2 then ((ev X d 196 [Value.ref 37, Value.int (l1 / (100))] (sz, sl, sh, R, I, J)).bind fun q => exe X d 202 80 [Value.ref 37, Value.int l1, Value.int l2, Value.int l3, Value.int (l1 / (100)), dm] (q.1.toList ++ [Value.int (l1 / (100)), Value.ref 37, Value.long (1000)]) q.2) else some (some (Value.int (-2)), (sz, sl, sh, R, I, J))) else none) else some (some (Value.int (-1)), (sz, sl, sh, R, I, J))) :=
  tq ((E_if_ne f202_43)) (ite_c (tq ((E_iload (x := l1) rfl f202_48)) (tq ((E_iconst (x := (100)) (by decide) f202_49)) (tq ((E_idiv (by decide) f202_51)) (tq ((E_istore rfl f202_52)) (tq ((E_aload (v := Value.ref 37) rfl rfl f202_54)) (tq (tq ((G11003 f202_55)) (if_pos (zS37 hS))) (tq (exe_R (zR37_3 hS)) (tq ((E_iload (x := (l1 / (100))) rfl f202_58)) (tq (tq ((E_iald f202_60)) (ite_ar (zS40 hS))) (ite_c (tq ((E_iload (x := l2) rfl f202_61)) (tq ((E_ic_lt f202_62)) (ite_c (tq ((E_lconst (x := (1000)) (by decide) f202_68)) (tq ((E_aload (v := Value.ref 37) rfl rfl f202_71)) (tq ((E_iload (x := (l1 / (100))) rfl f202_72)) (tq ((E_aload (v := Value.ref 37) rfl rfl f202_74)) (tq ((E_iload (x := (l1 / (100))) rfl f202_75)) ((tq ((E_callV pn_196 pc_196 rfl rfl (Nat.le_of_ble_eq_true rfl) f202_77)) (if_pos (zS37 hS))))))))) (tq ((E_iconst (x := (-2)) (by decide) f202_65)) ((E_iret pr_202 f202_67)))))) rfl)))))))))) (tq ((E_iconst (x := (-1)) (by decide) f202_46)) ((E_iret pr_202 f202_47))))
theorem t202_80 {X : XX} {d : Nat} {sz sl : Nat} {sh : Nat → Nat × Nat} {R : Nat → Nat → Option Nat} {I : Nat → Nat → Int32} {J : Nat → Nat → Int64} {l1 : Int32} {l2 : Int32} {l3 : Int32} {l4 : Int32} {s0 : Int32} {s1 : Int32} {s2 : Value} (k2 : isB s2 = true) {s3 : Int64} : exe X d 202 80 [Value.ref 37, Value.int l1, Value.int l2, Value.int l3, Value.int l4, dm] [Value.int s0, Value.int s1, s2, Value.long s3] (sz, sl, sh, R, I, J) =
    (rf (s2) fun p1 => if sh p1 = (18, 0) then ((ev X d 195 [Value.ref p1, Value.int s1, Value.int s0] (sz, sl, sh, R, I, J)).bind fun q => exe X d 202 83 [Value.ref 37, Value.int l1, Value.int l2, Value.int l3, Value.int l4, dm] (q.1.toList ++ [Value.long s3]) q.2) else none) :=
  (E_callV pn_195 pc_195 rfl rfl (Nat.le_of_ble_eq_true rfl) f202_80)
theorem t202_83 {X : XX} {d : Nat} {sz sl : Nat} {sh : Nat → Nat × Nat} {R : Nat → Nat → Option Nat} {I : Nat → Nat → Int32} {J : Nat → Nat → Int64} (hS : SF sh R) {l1 : Int32} {l2 : Int32} {l3 : Int32} {l4 : Int32} {s0 : Int32} {s1 : Int64} : exe X d 202 83 [Value.ref 37, Value.int l1, Value.int l2, Value.int l3, Value.int l4, dm] [Value.int s0, Value.long s1] (sz, sl, sh, R, I, J) =
    (if inb l4 40 then (if (Int32.toInt64 (l2 - (I 40 l4.toNatClampNeg))) = 0 then none else (if ¬ (Int64.toInt32 ((s1 * (Int32.toInt64 s0)) / (Int32.toInt64 (l2 - (I 40 l4.toNatClampNeg))))) = 0 then (if ¬ l3 = 0 then ((ev X d 196 [Value.ref 37, Value.int (l1 - l1 / (100) * (100))] (sz, sl, sh, R, I, J)).bind fun q => exe X d 202 134 [dm, dm, dm, dm, dm, Value.int (Int64.toInt32 ((s1 * (Int32.toInt64 s0)) / (Int32.toInt64 (l2 - (I 40 l4.toNatClampNeg)))))] (q.1.toList ++ [Value.int (l1 - l1 / (100) * (100)), Value.ref 37, Value.long (1000), Value.long (Int32.toInt64 l2)]) q.2) else some (some (Value.int (Int64.toInt32 ((s1 * (Int32.toInt64 s0)) / (Int32.toInt64 (l2 - (I 40 l4.toNatClampNeg)))))), (sz, sl, sh, R, I, J))) else some (some (Value.int (-2)), (sz, sl, sh, R, I, J)))) else none) :=
  tq ((E_i2l f202_83)) (tq ((E_lmul f202_84)) (tq ((E_iload (x := l2) rfl f202_85)) (tq ((E_aload (v := Value.ref 37) rfl rfl f202_86)) (tq (tq ((G11003 f202_87)) (if_pos (zS37 hS))) (tq (exe_R (zR37_3 hS)) (tq ((E_iload (x := l4) rfl f202_90)) (tq (tq ((E_iald f202_92)) (ite_ar (zS40 hS))) (ite_c (tq ((E_isub f202_93)) (tq ((E_i2l f202_94)) (tq (E_ldiv' f202_95) (ite_c rfl (tq ((E_l2i f202_96)) (tq ((E_istore rfl f202_97)) (tq ((E_iload (x := (Int64.toInt32 ((s1 * (Int32.toInt64 s0)) / (Int32.toInt64 (l2 - (I 40 l4.toNatClampNeg)))))) rfl f202_99)) (tq ((E_if_ne f202_101)) (ite_c (tq ((E_iload (x := l3) rfl f202_107)) (tq ((E_if_ne f202_108)) (ite_c (tq ((E_iload (x := l2) rfl f202_116)) (tq ((E_i2l f202_117)) (tq ((E_lconst (x := (1000)) (by decide) f202_118)) (tq ((E_aload (v := Value.ref 37) rfl rfl f202_121)) (tq ((E_iload (x := l1) rfl f202_122)) (tq ((E_iconst (x := (100)) (by decide) f202_123)) (tq ((E_irem (by decide) f202_125)) (tq ((E_aload (v := Value.ref 37) rfl rfl f202_126)) (tq ((E_iload (x := l1) rfl f202_127)) (tq ((E_iconst (x := (100)) (by decide) f202_128)) (tq ((E_irem (by decide) f202_130)) ((tq ((E_callV pn_196 pc_196 rfl rfl (Nat.le_of_ble_eq_true rfl) f202_131)) (if_pos (zS37 hS))))))))))))))) (tq ((E_iload (x := (Int64.toInt32 ((s1 * (Int32.toInt64 s0)) / (Int32.toInt64 (l2 - (I 40 l4.toNatClampNeg)))))) rfl f202_111)) (tq ((E_goto f202_113)) ((E_iret pr_202 f202_145))))))) (tq ((E_iconst (x := (-2)) (by decide) f202_104)) ((E_iret pr_202 f202_106)))))))))))) rfl))))))))
theorem t202_134 {X : XX} {d : Nat} {sz sl : Nat} {sh : Nat → Nat × Nat} {R : Nat → Nat → Option Nat} {I : Nat → Nat → Int32} {J : Nat → Nat → Int64} {l5 : Int32} {s0 : Int32} {s1 : Int32} {s2 : Value} (k2 : isB s2 = true) {s3 : Int64} {s4 : Int64} : exe X d 202 134 [dm, dm, dm, dm, dm, Value.int l5] [Value.int s0, Value.int s1, s2, Value.long s3, Value.long s4] (sz, sl, sh, R, I, J) =
    (rf (s2) fun p1 => if sh p1 = (18, 0) then ((ev X d 195 [Value.ref p1, Value.int s1, Value.int s0] (sz, sl, sh, R, I, J)).bind fun q => exe X d 202 137 [dm, dm, dm, dm, dm, Value.int l5] (q.1.toList ++ [Value.long s3, Value.long s4]) q.2) else none) :=
  (E_callV pn_195 pc_195 rfl rfl (Nat.le_of_ble_eq_true rfl) f202_134)
theorem t202_137 {X : XX} {d : Nat} {sz sl : Nat} {sh : Nat → Nat × Nat} {R : Nat → Nat → Option Nat} {I : Nat → Nat → Int32} {J : Nat → Nat → Int64} {l5 : Int32} {s0 : Int32} {s1 : Int64} {s2 : Int64} : exe X d 202 137 [dm, dm, dm, dm, dm, Value.int l5] [Value.int s0, Value.long s1, Value.long s2] (sz, sl, sh, R, I, J) =
    (if (Int32.toInt64 l5) = 0 then none else some (some (Value.int (Int64.toInt32 (s2 - ((s1 * (Int32.toInt64 s0)) / (Int32.toInt64 l5))))), (sz, sl, sh, R, I, J))) :=
  tq ((E_i2l f202_137)) (tq ((E_lmul f202_138)) (tq ((E_iload (x := l5) rfl f202_139)) (tq ((E_i2l f202_141)) (tq (E_ldiv' f202_142) (ite_c rfl (tq ((E_lsub f202_143)) (tq ((E_l2i f202_144)) ((E_iret pr_202 f202_145)))))))))
theorem n202 {X : XX} {d : Nat} {h : HP} {a0 : Int32} {a1 : Int32} {a2 : Int32} : ev X (d + 1) 202 [Value.ref 37, Value.int a0, Value.int a1, Value.int a2] h = exe X d 202 0 [Value.ref 37, Value.int a0, Value.int a1, Value.int a2, dm, dm] [] h := ev_exe (Nat.le_of_ble_eq_true rfl)
