theorem f203_0 : fr 203 0 = some (.aload 0, 1, [], []) := by decide +kernel
theorem f203_1 : fr 203 1 = some (.iload 1, 1, [], []) := by decide +kernel
theorem f203_2 : fr 203 2 = some (.invokevirtual 179, 3, [], []) := by decide +kernel
theorem f203_5 : fr 203 5 = some (.ifCond .eq 36, 3, [], [0, 1, 2, 3, 4]) := by decide +kernel
theorem f203_8 : fr 203 8 = some (.aload 0, 1, [], []) := by decide +kernel
theorem f203_9 : fr 203 9 = some (.iload 2, 1, [], []) := by decide +kernel
theorem f203_10 : fr 203 10 = some (.invokevirtual 187, 3, [], []) := by decide +kernel
theorem f203_13 : fr 203 13 = some (.ifCond .eq 36, 3, [], [0, 1, 2, 3, 4]) := by decide +kernel
theorem f203_16 : fr 203 16 = some (.iload 3, 1, [], []) := by decide +kernel
theorem f203_17 : fr 203 17 = some (.iconst 0, 1, [], []) := by decide +kernel
theorem f203_18 : fr 203 18 = some (.iconst 99999, 2, [], []) := by decide +kernel
theorem f203_20 : fr 203 20 = some (.invokestatic 148, 3, [], []) := by decide +kernel
theorem f203_23 : fr 203 23 = some (.ifCond .eq 36, 3, [], [0, 1, 2, 3, 4]) := by decide +kernel
theorem f203_26 : fr 203 26 = some (.iload 4, 2, [], []) := by decide +kernel
theorem f203_28 : fr 203 28 = some (.iconst 0, 1, [], []) := by decide +kernel
theorem f203_29 : fr 203 29 = some (.iconst 1, 1, [], []) := by decide +kernel
theorem f203_30 : fr 203 30 = some (.invokestatic 148, 3, [], []) := by decide +kernel
theorem f203_33 : fr 203 33 = some (.ifCond .ne 38, 3, [0, 1, 2, 3, 4], []) := by decide +kernel
theorem f203_36 : fr 203 36 = some (.iconst (-1), 1, [], []) := by decide +kernel
theorem f203_37 : fr 203 37 = some (.ireturn, 1, [], []) := by decide +kernel
theorem f203_38 : fr 203 38 = some (.iload 2, 1, [], []) := by decide +kernel
theorem f203_39 : fr 203 39 = some (.invokestatic 204, 3, [], []) := by decide +kernel
theorem f203_42 : fr 203 42 = some (.iconst 8, 2, [], []) := by decide +kernel
theorem f203_44 : fr 203 44 = some (.if_icmp .le 50, 3, [0, 1, 2, 3, 4], []) := by decide +kernel
theorem f203_47 : fr 203 47 = some (.iconst (-4), 2, [], []) := by decide +kernel
theorem f203_49 : fr 203 49 = some (.ireturn, 1, [], []) := by decide +kernel
theorem f203_50 : fr 203 50 = some (.aload 0, 1, [], []) := by decide +kernel
theorem f203_51 : fr 203 51 = some (.invokevirtual 205, 3, [], []) := by decide +kernel
theorem f203_54 : fr 203 54 = some (.ifCond .ne 60, 3, [0, 1, 2, 3, 4], []) := by decide +kernel
theorem f203_57 : fr 203 57 = some (.iconst (-2), 2, [], []) := by decide +kernel
theorem f203_59 : fr 203 59 = some (.ireturn, 1, [], []) := by decide +kernel
theorem f203_60 : fr 203 60 = some (.aload 0, 1, [], []) := by decide +kernel
theorem f203_61 : fr 203 61 = some (.iload 1, 1, [1], []) := by decide +kernel
theorem f203_62 : fr 203 62 = some (.iload 2, 1, [], []) := by decide +kernel
theorem f203_63 : fr 203 63 = some (.invokevirtual 206, 3, [], []) := by decide +kernel
theorem f203_66 : fr 203 66 = some (.iconst 0, 1, [], []) := by decide +kernel
theorem f203_67 : fr 203 67 = some (.istore 5, 2, [], []) := by decide +kernel
theorem f203_69 : fr 203 69 = some (.iconst (-2), 2, [], []) := by decide +kernel
theorem f203_71 : fr 203 71 = some (.istore 6, 2, [], []) := by decide +kernel
theorem f203_73 : fr 203 73 = some (.iconst 0, 1, [], []) := by decide +kernel
theorem f203_74 : fr 203 74 = some (.istore 7, 2, [], []) := by decide +kernel
theorem f203_76 : fr 203 76 = some (.iload 7, 2, [], []) := by decide +kernel
theorem f203_78 : fr 203 78 = some (.iload 2, 1, [], []) := by decide +kernel
theorem f203_79 : fr 203 79 = some (.if_icmp .gt 126, 3, [], [0, 2, 3, 7]) := by decide +kernel
theorem f203_82 : fr 203 82 = some (.iload 7, 2, [], []) := by decide +kernel
theorem f203_84 : fr 203 84 = some (.iload 2, 1, [], []) := by decide +kernel
theorem f203_85 : fr 203 85 = some (.iconst (-1), 1, [], []) := by decide +kernel
theorem f203_86 : fr 203 86 = some (.ixor, 1, [], []) := by decide +kernel
theorem f203_87 : fr 203 87 = some (.iand, 1, [], []) := by decide +kernel
theorem f203_88 : fr 203 88 = some (.ifCond .ne 120, 3, [], []) := by decide +kernel
theorem f203_91 : fr 203 91 = some (.aload 0, 1, [], []) := by decide +kernel
theorem f203_92 : fr 203 92 = some (.iload 7, 2, [], []) := by decide +kernel
theorem f203_94 : fr 203 94 = some (.iload 3, 1, [], []) := by decide +kernel
theorem f203_95 : fr 203 95 = some (.invokevirtual 207, 3, [], []) := by decide +kernel
theorem f203_98 : fr 203 98 = some (.ifCond .eq 120, 3, [], []) := by decide +kernel
theorem f203_101 : fr 203 101 = some (.iinc 5 1, 3, [], []) := by decide +kernel
theorem f203_104 : fr 203 104 = some (.iload 6, 2, [], []) := by decide +kernel
theorem f203_106 : fr 203 106 = some (.iconst (-2), 2, [], []) := by decide +kernel
theorem f203_108 : fr 203 108 = some (.if_icmp .ne 116, 3, [6], []) := by decide +kernel
theorem f203_111 : fr 203 111 = some (.iload 7, 2, [], []) := by decide +kernel
theorem f203_113 : fr 203 113 = some (.goto 118, 3, [], []) := by decide +kernel
theorem f203_116 : fr 203 116 = some (.iload 6, 2, [6], []) := by decide +kernel
theorem f203_118 : fr 203 118 = some (.istore 6, 2, [], []) := by decide +kernel
theorem f203_120 : fr 203 120 = some (.iinc 7 1, 3, [], []) := by decide +kernel
theorem f203_123 : fr 203 123 = some (.goto 76, 3, [], []) := by decide +kernel
theorem f203_126 : fr 203 126 = some (.iload 4, 2, [4], []) := by decide +kernel
theorem f203_128 : fr 203 128 = some (.ifCond .ne 136, 3, [6], [5]) := by decide +kernel
theorem f203_131 : fr 203 131 = some (.iload 5, 2, [5], []) := by decide +kernel
theorem f203_133 : fr 203 133 = some (.goto 138, 3, [], []) := by decide +kernel
theorem f203_136 : fr 203 136 = some (.iload 6, 2, [6], []) := by decide +kernel
theorem f203_138 : fr 203 138 = some (.ireturn, 1, [], []) := by decide +kernel
theorem t203_0 {X : XX} {d : Nat} {sz sl : Nat} {sh : Nat → Nat × Nat} {R : Nat → Nat → Option Nat} {I : Nat → Nat → Int32} {J : Nat → Nat → Int64} (hS : SF sh R) {l1 : Int32} {l2 : Int32} {l3 : Int32} {l4 : Int32} : exe X d 203 0 [Value.ref 37, Value.int l1, Value.int l2, Value.int l3, Value.int l4, dm, dm, dm] [] (sz, sl, sh, R, I, J) =
    ((ev X d 179 [Value.ref 37, Value.int l1] (sz, sl, sh, R, I, J)).bind fun q => exe X d 203 5 [Value.ref 37, Value.int l1, Value.int l2, Value.int l3, Value.int l4, dm, dm, dm] (q.1.toList ++ []) q.2) :=
  tq ((E_aload (v := Value.ref 37) rfl rfl f203_0)) (tq ((E_iload (x := l1) rfl f203_1)) ((tq ((E_callV pn_179 pc_179 rfl rfl (Nat.le_of_ble_eq_true rfl) f203_2)) (if_pos (zS37 hS)))))
theorem t203_5 {X : XX} {d : Nat} {sz sl : Nat} {sh : Nat → Nat × Nat} {R : Nat → Nat → Option Nat} {I : Nat → Nat → Int32} {J : Nat → Nat → Int64} (hS : SF sh R) {l1 : Int32} {l2 : Int32} {l3 : Int32} {l4 : Int32} {s0 : Int32} : exe X d 203 5 [Value.ref 37, Value.int l1, Value.int l2, Value.int l3, Value.int l4, dm, dm, dm] [Value.int s0] (sz, sl, sh, R, I, J) =
    (if s0 = 0 then some (some (Value.int (-1)), (sz, sl, sh, R, I, J)) else ((ev X d 187 [Value.ref 37, Value.int l2] (sz, sl, sh, R, I, J)).bind fun q => exe X d 203 13 [Value.ref 37, Value.int l1, Value.int l2, Value.int l3, Value.int l4, dm, dm, dm] (q.1.toList ++ []) q.2)) :=
  tq ((E_if_eq f203_5)) (ite_c (tq ((E_iconst (x := (-1)) (by decide) f203_36)) ((E_iret pr_203 f203_37))) (tq ((E_aload (v := Value.ref 37) rfl rfl f203_8)) (tq ((E_iload (x := l2) rfl f203_9)) ((tq ((E_callV pn_187 pc_187 rfl rfl (Nat.le_of_ble_eq_true rfl) f203_10)) (if_pos (zS37 hS)))))))
theorem t203_13 {X : XX} {d : Nat} {sz sl : Nat} {sh : Nat → Nat × Nat} {R : Nat → Nat → Option Nat} {I : Nat → Nat → Int32} {J : Nat → Nat → Int64} {l1 : Int32} {l2 : Int32} {l3 : Int32} {l4 : Int32} {s0 : Int32} : exe X d 203 13 [Value.ref 37, Value.int l1, Value.int l2, Value.int l3, Value.int l4, dm, dm, dm] [Value.int s0] (sz, sl, sh, R, I, J) =
    (if s0 = 0 then some (some (Value.int (-1)), (sz, sl, sh, R, I, J)) else ((ev X d 148 [Value.int l3, Value.int (0), Value.int (99999)] (sz, sl, sh, R, I, J)).bind fun q => exe X d 203 23 [Value.ref 37, Value.int l1, Value.int l2, Value.int l3, Value.int l4, dm, dm, dm] (q.1.toList ++ []) q.2)) :=
  tq ((E_if_eq f203_13)) (ite_c (tq ((E_iconst (x := (-1)) (by decide) f203_36)) ((E_iret pr_203 f203_37))) (tq ((E_iload (x := l3) rfl f203_16)) (tq ((E_iconst (x := (0)) (by decide) f203_17)) (tq ((E_iconst (x := (99999)) (by decide) f203_18)) ((E_callS pn_148 rfl rfl (Nat.le_of_ble_eq_true rfl) (Nat.le_of_ble_eq_true rfl) f203_20))))))
theorem t203_23 {X : XX} {d : Nat} {sz sl : Nat} {sh : Nat → Nat × Nat} {R : Nat → Nat → Option Nat} {I : Nat → Nat → Int32} {J : Nat → Nat → Int64} {l1 : Int32} {l2 : Int32} {l3 : Int32} {l4 : Int32} {s0 : Int32} : exe X d 203 23 [Value.ref 37, Value.int l1, Value.int l2, Value.int l3, Value.int l4, dm, dm, dm] [Value.int s0] (sz, sl, sh, R, I, J) =
    (if s0 = 0 then some (some (Value.int (-1)), (sz, sl, sh, R, I, J)) else ((ev X d 148 [Value.int l4, Value.int (0), Value.int (1)] (sz, sl, sh, R, I, J)).bind fun q => exe X d 203 33 [Value.ref 37, Value.int l1, Value.int l2, Value.int l3, Value.int l4, dm, dm, dm] (q.1.toList ++ []) q.2)) :=
  tq ((E_if_eq f203_23)) (ite_c (tq ((E_iconst (x := (-1)) (by decide) f203_36)) ((E_iret pr_203 f203_37))) (tq ((E_iload (x := l4) rfl f203_26)) (tq ((E_iconst (x := (0)) (by decide) f203_28)) (tq ((E_iconst (x := (1)) (by decide) f203_29)) ((E_callS pn_148 rfl rfl (Nat.le_of_ble_eq_true rfl) (Nat.le_of_ble_eq_true rfl) f203_30))))))
theorem t203_33 {X : XX} {d : Nat} {sz sl : Nat} {sh : Nat → Nat × Nat} {R : Nat → Nat → Option Nat} {I : Nat → Nat → Int32} {J : Nat → Nat → Int64} {l1 : Int32} {l2 : Int32} {l3 : Int32} {l4 : Int32} {s0 : Int32} : exe X d 203 33 [Value.ref 37, Value.int l1, Value.int l2, Value.int l3, Value.int l4, dm, dm, dm] [Value.int s0] (sz, sl, sh, R, I, J) =
    (if ¬ s0 = 0 then ((ev X d 204 [Value.int l2] (sz, sl, sh, R, I, J)).bind fun q => exe X d 203 42 [Value.ref 37, Value.int l1, Value.int l2, Value.int l3, Value.int l4, dm, dm, dm] (q.1.toList ++ []) q.2) else some (some (Value.int (-1)), (sz, sl, sh, R, I, J))) :=
  tq ((E_if_ne f203_33)) (ite_c (tq ((E_iload (x := l2) rfl f203_38)) ((E_callS pn_204 rfl rfl (Nat.le_of_ble_eq_true rfl) (Nat.le_of_ble_eq_true rfl) f203_39))) (tq ((E_iconst (x := (-1)) (by decide) f203_36)) ((E_iret pr_203 f203_37))))
theorem t203_42 {X : XX} {d : Nat} {sz sl : Nat} {sh : Nat → Nat × Nat} {R : Nat → Nat → Option Nat} {I : Nat → Nat → Int32} {J : Nat → Nat → Int64} (hS : SF sh R) {l1 : Int32} {l2 : Int32} {l3 : Int32} {l4 : Int32} {s0 : Int32} : exe X d 203 42 [Value.ref 37, Value.int l1, Value.int l2, Value.int l3, Value.int l4, dm, dm, dm] [Value.int s0] (sz, sl, sh, R, I, J) =
    (if s0 ≤ (8) then ((ev X d 205 [Value.ref 37] (sz, sl, sh, R, I, J)).bind fun q => exe X d 203 54 [Value.ref 37, Value.int l1, Value.int l2, Value.int l3, Value.int l4, dm, dm, dm] (q.1.toList ++ []) q.2) else some (some (Value.int (-4)), (sz, sl, sh, R, I, J))) :=
  tq ((E_iconst (x := (8)) (by decide) f203_42)) (tq ((E_ic_le f203_44)) (ite_c (tq ((E_aload (v := Value.ref 37) rfl rfl f203_50)) ((tq ((E_callV pn_205 pc_205 rfl rfl (Nat.le_of_ble_eq_true rfl) f203_51)) (if_pos (zS37 hS))))) (tq ((E_iconst (x := (-4)) (by decide) f203_47)) ((E_iret pr_203 f203_49)))))
theorem t203_54 {X : XX} {d : Nat} {sz sl : Nat} {sh : Nat → Nat × Nat} {R : Nat → Nat → Option Nat} {I : Nat → Nat → Int32} {J : Nat → Nat → Int64} (hS : SF sh R) {l1 : Int32} {l2 : Int32} {l3 : Int32} {l4 : Int32} {s0 : Int32} : exe X d 203 54 [Value.ref 37, Value.int l1, Value.int l2, Value.int l3, Value.int l4, dm, dm, dm] [Value.int s0] (sz, sl, sh, R, I, J) =
    (if ¬ s0 = 0 then ((ev X d 206 [Value.ref 37, Value.int l1, Value.int l2] (sz, sl, sh, R, I, J)).bind fun q => exe X d 203 66 [Value.ref 37, dm, Value.int l2, Value.int l3, Value.int l4, dm, dm, dm] (q.1.toList ++ []) q.2) else some (some (Value.int (-2)), (sz, sl, sh, R, I, J))) :=
  tq ((E_if_ne f203_54)) (ite_c (tq ((E_aload (v := Value.ref 37) rfl rfl f203_60)) (tq ((E_iload (x := l1) rfl f203_61)) (tq ((E_iload (x := l2) rfl f203_62)) ((tq ((E_callV pn_206 pc_206 rfl rfl (Nat.le_of_ble_eq_true rfl) f203_63)) (if_pos (zS37 hS))))))) (tq ((E_iconst (x := (-2)) (by decide) f203_57)) ((E_iret pr_203 f203_59))))
theorem t203_66 {X : XX} {d : Nat} {sz sl : Nat} {sh : Nat → Nat × Nat} {R : Nat → Nat → Option Nat} {I : Nat → Nat → Int32} {J : Nat → Nat → Int64} {l2 : Int32} {l3 : Int32} {l4 : Int32} : exe X d 203 66 [Value.ref 37, dm, Value.int l2, Value.int l3, Value.int l4, dm, dm, dm] [] (sz, sl, sh, R, I, J) =
    exe X d 203 76 [Value.ref 37, dm, Value.int l2, Value.int l3, Value.int l4, Value.int (0), Value.int (-2), Value.int (0)] [] (sz, sl, sh, R, I, J) :=
  tq ((E_iconst (x := (0)) (by decide) f203_66)) (tq ((E_istore rfl f203_67)) (tq ((E_iconst (x := (-2)) (by decide) f203_69)) (tq ((E_istore rfl f203_71)) (tq ((E_iconst (x := (0)) (by decide) f203_73)) ((E_istore rfl f203_74))))))
theorem t203_76 {X : XX} {d : Nat} {sz sl : Nat} {sh : Nat → Nat × Nat} {R : Nat → Nat → Option Nat} {I : Nat → Nat → Int32} {J : Nat → Nat → Int64} (hS : SF sh R) {l2 : Int32} {l3 : Int32} {l4 : Int32} {l5 : Int32} {l6 : Int32} {l7 : Int32} : exe X d 203 76 [Value.ref 37, dm, Value.int l2, Value.int l3, Value.int l4, Value.int l5, Value.int l6, Value.int l7] [] (sz, sl, sh, R, I, J) =
    (if l2 < l7 then (if ¬ l4 = 0 then some (some (Value.int l6), (sz, sl, sh, R, I, J)) else some (some (Value.int l5), (sz, sl, sh, R, I, J))) else (if ¬ (l7 &&& (l2 ^^^ (-1))) = 0 then exe X d 203 76 [Value.ref 37, dm, Value.int l2, Value.int l3, Value.int l4, Value.int l5, Value.int l6, Value.int (l7 + (1))] [] (sz, sl, sh, R, I, J) else ((ev X d 207 [Value.ref 37, Value.int l7, Value.int l3] (sz, sl, sh, R, I, J)).bind fun q => exe X d 203 98 [Value.ref 37, dm, Value.int l2, Value.int l3, Value.int l4, Value.int l5, Value.int l6, Value.int l7] (q.1.toList ++ []) q.2))) :=
  tq ((E_iload (x := l7) rfl f203_76)) (tq ((E_iload (x := l2) rfl f203_78)) (tq ((E_ic_gt f203_79)) (ite_c (tq ((E_iload (x := l4) rfl f203_126)) (tq ((E_if_ne f203_128)) (ite_c (tq ((E_iload (x := l6) rfl f203_136)) ((E_iret pr_203 f203_138))) (tq ((E_iload (x := l5) rfl f203_131)) (tq ((E_goto f203_133)) ((E_iret pr_203 f203_138))))))) (tq ((E_iload (x := l7) rfl f203_82)) (tq ((E_iload (x := l2) rfl f203_84)) (tq ((E_iconst (x := (-1)) (by decide) f203_85)) (tq ((E_ixor f203_86)) (tq ((E_iand f203_87)) (tq ((E_if_ne f203_88)) (ite_c (tq ((E_iinc (x := l7) (x' := (1)) rfl rfl (by decide) f203_120)) ((E_goto f203_123))) (tq ((E_aload (v := Value.ref 37) rfl rfl f203_91)) (tq ((E_iload (x := l7) rfl f203_92)) (tq ((E_iload (x := l3) rfl f203_94)) ((tq ((E_callV pn_207 pc_207 rfl rfl (Nat.le_of_ble_eq_true rfl) f203_95)) (if_pos (zS37 hS)))))))))))))))))
theorem t203_98 {X : XX} {d : Nat} {sz sl : Nat} {sh : Nat → Nat × Nat} {R : Nat → Nat → Option Nat} {I : Nat → Nat → Int32} {J : Nat → Nat → Int64} {l2 : Int32} {l3 : Int32} {l4 : Int32} {l5 : Int32} {l6 : Int32} {l7 : Int32} {s0 : Int32} : exe X d 203 98 [Value.ref 37, dm, Value.int l2, Value.int l3, Value.int l4, Value.int l5, Value.int l6, Value.int l7] [Value.int s0] (sz, sl, sh, R, I, J) =
    (if s0 = 0 then exe X d 203 76 [Value.ref 37, dm, Value.int l2, Value.int l3, Value.int l4, Value.int l5, Value.int l6, Value.int (l7 + (1))] [] (sz, sl, sh, R, I, J) else (if ¬ l6 = (-2) then exe X d 203 76 [Value.ref 37, dm, Value.int l2, Value.int l3, Value.int l4, Value.int (l5 + (1)), Value.int l6, Value.int (l7 + (1))] [] (sz, sl, sh, R, I, J) else exe X d 203 76 [Value.ref 37, dm, Value.int l2, Value.int l3, Value.int l4, Value.int (l5 + (1)), Value.int l7, Value.int (l7 + (1))] [] (sz, sl, sh, R, I, J))) :=
  tq ((E_if_eq f203_98)) (ite_c (tq ((E_iinc (x := l7) (x' := (1)) rfl rfl (by decide) f203_120)) ((E_goto f203_123))) (tq ((E_iinc (x := l5) (x' := (1)) rfl rfl (by decide) f203_101)) (tq ((E_iload (x := l6) rfl f203_104)) (tq ((E_iconst (x := (-2)) (by decide) f203_106)) (tq ((E_ic_ne f203_108)) (ite_c (tq ((E_iload (x := l6) rfl f203_116)) (tq ((E_istore rfl f203_118)) (tq ((E_iinc (x := l7) (x' := (1)) rfl rfl (by decide) f203_120)) ((E_goto f203_123))))) (tq ((E_iload (x := l7) rfl f203_111)) (tq ((E_goto f203_113)) (tq ((E_istore rfl f203_118)) (tq ((E_iinc (x := l7) (x' := (1)) rfl rfl (by decide) f203_120)) ((E_goto f203_123))))))))))))
theorem n203 {X : XX} {d : Nat} {h : HP} {a0 : Int32} {a1 : Int32} {a2 : Int32} {a3 : Int32} : ev X (d + 1) 203 [Value.ref 37, Value.int a0, Value.int a1, Value.int a2, Value.int a3] h = exe X d 203 0 [Value.ref 37, Value.int a0, Value.int a1, Value.int a2, Value.int a3, dm, dm, dm] [] h := ev_exe (Nat.le_of_ble_eq_true rfl)
theorem f204_0 : fr 204 0 = some (.iconst 0, 1, [], []) := by decide +kernel
theorem f204_1 : fr 204 1 = some (.istore 1, 1, [], []) := by decide +kernel
theorem f204_2 : fr 204 2 = some (.iconst 0, 1, [], []) := by decide +kernel
theorem f204_3 : fr 204 3 = some (.istore 2, 1, [], []) := by decide +kernel
theorem f204_4 : fr 204 4 = some (.iload 2, 1, [], []) := by decide +kernel
theorem f204_5 : fr 204 5 = some (.iconst 10, 2, [], []) := by decide +kernel
theorem f204_7 : fr 204 7 = some (.if_icmp .ge 24, 3, [], [0, 2]) := by decide +kernel
theorem f204_10 : fr 204 10 = some (.iload 1, 1, [1], []) := by decide +kernel
theorem f204_11 : fr 204 11 = some (.iload 0, 1, [], []) := by decide +kernel
theorem f204_12 : fr 204 12 = some (.iload 2, 1, [], []) := by decide +kernel
theorem f204_13 : fr 204 13 = some (.ishr, 1, [], []) := by decide +kernel
theorem f204_14 : fr 204 14 = some (.iconst 1, 1, [], []) := by decide +kernel
theorem f204_15 : fr 204 15 = some (.iand, 1, [], []) := by decide +kernel
theorem f204_16 : fr 204 16 = some (.iadd, 1, [], []) := by decide +kernel
theorem f204_17 : fr 204 17 = some (.istore 1, 1, [], []) := by decide +kernel
theorem f204_18 : fr 204 18 = some (.iinc 2 1, 3, [], []) := by decide +kernel
theorem f204_21 : fr 204 21 = some (.goto 4, 3, [], []) := by decide +kernel
theorem f204_24 : fr 204 24 = some (.iload 1, 1, [1], []) := by decide +kernel
theorem f204_25 : fr 204 25 = some (.ireturn, 1, [], []) := by decide +kernel
theorem t204_0 {X : XX} {d : Nat} {sz sl : Nat} {sh : Nat → Nat × Nat} {R : Nat → Nat → Option Nat} {I : Nat → Nat → Int32} {J : Nat → Nat → Int64} {l0 : Int32} : exe X d 204 0 [Value.int l0, dm, dm] [] (sz, sl, sh, R, I, J) =
    exe X d 204 4 [Value.int l0, Value.int (0), Value.int (0)] [] (sz, sl, sh, R, I, J) :=
  tq ((E_iconst (x := (0)) (by decide) f204_0)) (tq ((E_istore rfl f204_1)) (tq ((E_iconst (x := (0)) (by decide) f204_2)) ((E_istore rfl f204_3))))
theorem t204_4 {X : XX} {d : Nat} {sz sl : Nat} {sh : Nat → Nat × Nat} {R : Nat → Nat → Option Nat} {I : Nat → Nat → Int32} {J : Nat → Nat → Int64} {l0 : Int32} {l1 : Int32} {l2 : Int32} : exe X d 204 4 [Value.int l0, Value.int l1, Value.int l2] [] (sz, sl, sh, R, I, J) =
    (if (10) ≤ l2 then some (some (Value.int l1), (sz, sl, sh, R, I, J)) else exe X d 204 4 [Value.int l0, Value.int (l1 + ((l0 >>> (l2 &&& 31)) &&& (1))), Value.int (l2 + (1))] [] (sz, sl, sh, R, I, J)) :=
  tq ((E_iload (x := l2) rfl f204_4)) (tq ((E_iconst (x := (10)) (by decide) f204_5)) (tq ((E_ic_ge f204_7)) (ite_c (tq ((E_iload (x := l1) rfl f204_24)) ((E_iret pr_204 f204_25))) (tq ((E_iload (x := l1) rfl f204_10)) (tq ((E_iload (x := l0) rfl f204_11)) (tq ((E_iload (x := l2) rfl f204_12)) (tq ((E_ishr f204_13)) (tq ((E_iconst (x := (1)) (by decide) f204_14)) (tq ((E_iand f204_15)) (tq ((E_iadd f204_16)) (tq ((E_istore rfl f204_17)) (tq ((E_iinc (x := l2) (x' := (1)) rfl rfl (by decide) f204_18)) ((E_goto f204_21))))))))))))))
theorem n204 {X : XX} {d : Nat} {h : HP} {a0 : Int32} : ev X (d + 1) 204 [Value.int a0] h = exe X d 204 0 [Value.int a0, dm, dm] [] h := ev_exe (Nat.le_of_ble_eq_true rfl)
theorem f205_0 : fr 205 0 = some (.iconst 0, 1, [], []) := by decide +kernel
theorem f205_1 : fr 205 1 = some (.istore 1, 1, [], []) := by decide +kernel
theorem f205_2 : fr 205 2 = some (.iload 1, 1, [], []) := by decide +kernel
theorem f205_3 : fr 205 3 = some (.iconst 8, 2, [], []) := by decide +kernel
theorem f205_5 : fr 205 5 = some (.aload 0, 1, [], []) := by decide +kernel
theorem f205_6 : fr 205 6 = some (.getfield 11000, 3, [], []) := by decide +kernel
theorem f205_9 : fr 205 9 = some (.imul, 1, [], []) := by decide +kernel
theorem f205_10 : fr 205 10 = some (.if_icmp .ge 30, 3, [], [0, 1]) := by decide +kernel
theorem f205_13 : fr 205 13 = some (.aload 0, 1, [], []) := by decide +kernel
theorem f205_14 : fr 205 14 = some (.getfield 11005, 3, [], []) := by decide +kernel
theorem f205_17 : fr 205 17 = some (.iload 1, 1, [], []) := by decide +kernel
theorem f205_18 : fr 205 18 = some (.iaload, 1, [], []) := by decide +kernel
theorem f205_19 : fr 205 19 = some (.ifCond .le 24, 3, [0, 1], []) := by decide +kernel
theorem f205_22 : fr 205 22 = some (.iconst 1, 1, [], []) := by decide +kernel
theorem f205_23 : fr 205 23 = some (.ireturn, 1, [], []) := by decide +kernel
theorem f205_24 : fr 205 24 = some (.iinc 1 1, 3, [], []) := by decide +kernel
theorem f205_27 : fr 205 27 = some (.goto 2, 3, [], []) := by decide +kernel
theorem f205_30 : fr 205 30 = some (.iconst 0, 1, [], []) := by decide +kernel
theorem f205_31 : fr 205 31 = some (.ireturn, 1, [], []) := by decide +kernel
theorem t205_0 {X : XX} {d : Nat} {sz sl : Nat} {sh : Nat → Nat × Nat} {R : Nat → Nat → Option Nat} {I : Nat → Nat → Int32} {J : Nat → Nat → Int64}  : exe X d 205 0 [Value.ref 37, dm] [] (sz, sl, sh, R, I, J) =
    exe X d 205 2 [Value.ref 37, Value.int (0)] [] (sz, sl, sh, R, I, J) :=
  tq ((E_iconst (x := (0)) (by decide) f205_0)) ((E_istore rfl f205_1))
theorem t205_2 {X : XX} {d : Nat} {sz sl : Nat} {sh : Nat → Nat × Nat} {R : Nat → Nat → Option Nat} {I : Nat → Nat → Int32} {J : Nat → Nat → Int64} (hS : SF sh R) {l1 : Int32} : exe X d 205 2 [Value.ref 37, Value.int l1] [] (sz, sl, sh, R, I, J) =
    (if ((8) * (I 37 0)) ≤ l1 then some (some (Value.int (0)), (sz, sl, sh, R, I, J)) else (if inb l1 320 then (if (I 42 l1.toNatClampNeg) ≤ 0 then exe X d 205 2 [Value.ref 37, Value.int (l1 + (1))] [] (sz, sl, sh, R, I, J) else some (some (Value.int (1)), (sz, sl, sh, R, I, J))) else none)) :=
  tq ((E_iload (x := l1) rfl f205_2)) (tq ((E_iconst (x := (8)) (by decide) f205_3)) (tq ((E_aload (v := Value.ref 37) rfl rfl f205_5)) (tq (tq ((G11000 f205_6)) (if_pos (zS37 hS))) (tq ((E_imul f205_9)) (tq ((E_ic_ge f205_10)) (ite_c (tq ((E_iconst (x := (0)) (by decide) f205_30)) (tq (E_zret pr_205 f205_31) (if_pos (by decide)))) (tq ((E_aload (v := Value.ref 37) rfl rfl f205_13)) (tq (tq ((G11005 f205_14)) (if_pos (zS37 hS))) (tq (exe_R (zR37_5 hS)) (tq ((E_iload (x := l1) rfl f205_17)) (tq (tq ((E_iald f205_18)) (ite_ar (zS42 hS))) (ite_c (tq ((E_if_le f205_19)) (ite_c (tq ((E_iinc (x := l1) (x' := (1)) rfl rfl (by decide) f205_24)) ((E_goto f205_27))) (tq ((E_iconst (x := (1)) (by decide) f205_22)) (tq (E_zret pr_205 f205_23) (if_pos (by decide)))))) rfl))))))))))))
theorem n205 {X : XX} {d : Nat} {h : HP}  : ev X (d + 1) 205 [Value.ref 37] h = exe X d 205 0 [Value.ref 37, dm] [] h := ev_exe (Nat.le_of_ble_eq_true rfl)
theorem f206_0 : fr 206 0 = some (.iconst 0, 1, [], []) := by decide +kernel
theorem f206_1 : fr 206 1 = some (.istore 3, 1, [], []) := by decide +kernel
theorem f206_2 : fr 206 2 = some (.iload 3, 1, [], []) := by decide +kernel
theorem f206_3 : fr 206 3 = some (.aload 0, 1, [], []) := by decide +kernel
theorem f206_4 : fr 206 4 = some (.getfield 11013, 3, [], []) := by decide +kernel
theorem f206_7 : fr 206 7 = some (.if_icmp .ge 89, 3, [], [0, 1, 2, 3]) := by decide +kernel
theorem f206_10 : fr 206 10 = some (.iconst 0, 1, [], []) := by decide +kernel
theorem f206_11 : fr 206 11 = some (.istore 4, 2, [], []) := by decide +kernel
theorem f206_13 : fr 206 13 = some (.iload 4, 2, [], []) := by decide +kernel
theorem f206_15 : fr 206 15 = some (.iconst 8, 2, [], []) := by decide +kernel
theorem f206_17 : fr 206 17 = some (.aload 0, 1, [], []) := by decide +kernel
theorem f206_18 : fr 206 18 = some (.getfield 11000, 3, [], []) := by decide +kernel
theorem f206_21 : fr 206 21 = some (.imul, 1, [], []) := by decide +kernel
theorem f206_22 : fr 206 22 = some (.if_icmp .ge 83, 3, [], [4]) := by decide +kernel
theorem f206_25 : fr 206 25 = some (.aload 0, 1, [], []) := by decide +kernel
theorem f206_26 : fr 206 26 = some (.getfield 11047, 3, [], []) := by decide +kernel
theorem f206_29 : fr 206 29 = some (.iconst 320, 3, [], []) := by decide +kernel
theorem f206_32 : fr 206 32 = some (.iload 3, 1, [], []) := by decide +kernel
theorem f206_33 : fr 206 33 = some (.imul, 1, [], []) := by decide +kernel
theorem f206_34 : fr 206 34 = some (.iload 4, 2, [], []) := by decide +kernel
theorem f206_36 : fr 206 36 = some (.iadd, 1, [], []) := by decide +kernel
theorem f206_37 : fr 206 37 = some (.iload 2, 1, [], []) := by decide +kernel
theorem f206_38 : fr 206 38 = some (.iload 3, 1, [], []) := by decide +kernel
theorem f206_39 : fr 206 39 = some (.ishr, 1, [], []) := by decide +kernel
theorem f206_40 : fr 206 40 = some (.iconst 1, 1, [], []) := by decide +kernel
theorem f206_41 : fr 206 41 = some (.iand, 1, [], []) := by decide +kernel
theorem f206_42 : fr 206 42 = some (.iconst 1, 1, [], []) := by decide +kernel
theorem f206_43 : fr 206 43 = some (.if_icmp .ne 75, 3, [], []) := by decide +kernel
theorem f206_46 : fr 206 46 = some (.aload 0, 1, [], []) := by decide +kernel
theorem f206_47 : fr 206 47 = some (.getfield 11005, 3, [], []) := by decide +kernel
theorem f206_50 : fr 206 50 = some (.iload 4, 2, [], []) := by decide +kernel
theorem f206_52 : fr 206 52 = some (.iaload, 1, [], []) := by decide +kernel
theorem f206_53 : fr 206 53 = some (.ifCond .le 75, 3, [], []) := by decide +kernel
theorem f206_56 : fr 206 56 = some (.aload 0, 1, [], []) := by decide +kernel
theorem f206_57 : fr 206 57 = some (.iload 1, 1, [], []) := by decide +kernel
theorem f206_58 : fr 206 58 = some (.iload 4, 2, [], []) := by decide +kernel
theorem f206_60 : fr 206 60 = some (.iconst 8, 2, [], []) := by decide +kernel
theorem f206_62 : fr 206 62 = some (.idiv, 1, [], []) := by decide +kernel
theorem f206_63 : fr 206 63 = some (.iload 4, 2, [], []) := by decide +kernel
theorem f206_65 : fr 206 65 = some (.iconst 8, 2, [], []) := by decide +kernel
theorem f206_67 : fr 206 67 = some (.irem, 1, [], []) := by decide +kernel
theorem f206_68 : fr 206 68 = some (.iload 3, 1, [], []) := by decide +kernel
theorem f206_69 : fr 206 69 = some (.invokevirtual 189, 3, [], []) := by decide +kernel
theorem f206_72 : fr 206 72 = some (.goto 76, 3, [], []) := by decide +kernel
theorem f206_75 : fr 206 75 = some (.jsr_w 0, 1, [], []) := by decide +kernel
theorem f206_76 : fr 206 76 = some (.lastore, 1, [], []) := by decide +kernel
theorem f206_77 : fr 206 77 = some (.iinc 4 1, 3, [], []) := by decide +kernel
theorem f206_80 : fr 206 80 = some (.goto 13, 3, [], []) := by decide +kernel
theorem f206_83 : fr 206 83 = some (.iinc 3 1, 3, [], []) := by decide +kernel
theorem f206_86 : fr 206 86 = some (.goto 2, 3, [], []) := by decide +kernel
theorem f206_89 : fr 206 89 = some (.return_, 1, [], []) := by decide +kernel
theorem t206_0 {X : XX} {d : Nat} {sz sl : Nat} {sh : Nat → Nat × Nat} {R : Nat → Nat → Option Nat} {I : Nat → Nat → Int32} {J : Nat → Nat → Int64} {l1 : Int32} {l2 : Int32} : exe X d 206 0 [Value.ref 37, Value.int l1, Value.int l2, dm, dm] [] (sz, sl, sh, R, I, J) =
    exe X d 206 2 [Value.ref 37, Value.int l1, Value.int l2, Value.int (0), dm] [] (sz, sl, sh, R, I, J) :=
  tq ((E_iconst (x := (0)) (by decide) f206_0)) ((E_istore rfl f206_1))
theorem t206_2 {X : XX} {d : Nat} {sz sl : Nat} {sh : Nat → Nat × Nat} {R : Nat → Nat → Option Nat} {I : Nat → Nat → Int32} {J : Nat → Nat → Int64} (hS : SF sh R) {l1 : Int32} {l2 : Int32} {l3 : Int32} : exe X d 206 2 [Value.ref 37, Value.int l1, Value.int l2, Value.int l3, dm] [] (sz, sl, sh, R, I, J) =
    (if (I 37 13) ≤ l3 then some (none, (sz, sl, sh, R, I, J)) else exe X d 206 13 [Value.ref 37, Value.int l1, Value.int l2, Value.int l3, Value.int (0)] [] (sz, sl, sh, R, I, J)) :=
  tq ((E_iload (x := l3) rfl f206_2)) (tq ((E_aload (v := Value.ref 37) rfl rfl f206_3)) (tq (tq ((G11013 f206_4)) (if_pos (zS37 hS))) (tq ((E_ic_ge f206_7)) (ite_c ((E_vret pr_206 f206_89)) (tq ((E_iconst (x := (0)) (by decide) f206_10)) ((E_istore rfl f206_11)))))))
theorem t206_13 {X : XX} {d : Nat} {sz sl : Nat} {sh : Nat → Nat × Nat} {R : Nat → Nat → Option Nat} {I : Nat → Nat → Int32} {J : Nat → Nat → Int64} (hS : SF sh R) {l1 : Int32} {l2 : Int32} {l3 : Int32} {l4 : Int32} : exe X d 206 13 [Value.ref 37, Value.int l1, Value.int l2, Value.int l3, Value.int l4] [] (sz, sl, sh, R, I, J) =
    (if ((8) * (I 37 0)) ≤ l4 then exe X d 206 2 [Value.ref 37, Value.int l1, Value.int l2, Value.int (l3 + (1)), dm] [] (sz, sl, sh, R, I, J) else (if ¬ ((l2 >>> (l3 &&& 31)) &&& (1)) = (1) then (if inb (((320) * l3) + l4) 3200 then exe X d 206 13 [Value.ref 37, Value.int l1, Value.int l2, Value.int l3, Value.int (l4 + (1))] [] (sz, sl, sh, R, I, (u2 J 69 (((320) * l3) + l4).toNatClampNeg (0))) else none) else (if inb l4 320 then (if (I 42 l4.toNatClampNeg) ≤ 0 then (if inb (((320) * l3) + l4) 3200 then exe X d 206 13 [Value.ref 37, Value.int l1, Value.int l2, Value.int l3, Value.int (l4 + (1))] [] (sz, sl, sh, R, I, (u2 J 69 (((320) * l3) + l4).toNatClampNeg (0))) else none) else ((ev X d 189 [Value.ref 37, Value.int l1, Value.int (l4 / (8)), Value.int (l4 - l4 / (8) * (8)), Value.int l3] (sz, sl, sh, R, I, J)).bind fun q => exe X d 206 72 [Value.ref 37, Value.int l1, Value.int l2, Value.int l3, Value.int l4] (q.1.toList ++ [Value.int (((320) * l3) + l4), Value.ref 69]) q.2)) else none))) :=
  tq ((E_iload (x := l4) rfl f206_13)) (tq ((E_iconst (x := (8)) (by decide) f206_15)) (tq ((E_aload (v := Value.ref 37) rfl rfl f206_17)) (tq (tq ((G11000 f206_18)) (if_pos (zS37 hS))) (tq ((E_imul f206_21)) (tq ((E_ic_ge f206_22)) (ite_c (tq ((E_iinc (x := l3) (x' := (1)) rfl rfl (by decide) f206_83)) ((E_goto f206_86))) (tq ((E_aload (v := Value.ref 37) rfl rfl f206_25)) (tq (tq ((G11047 f206_26)) (if_pos (zS37 hS))) (tq (exe_R (zR37_47 hS)) (tq ((E_iconst (x := (320)) (by decide) f206_29)) (tq ((E_iload (x := l3) rfl f206_32)) (tq ((E_imul f206_33)) (tq ((E_iload (x := l4) rfl f206_34)) (tq ((E_iadd f206_36)) (tq ((E_iload (x := l2) rfl f206_37)) (tq ((E_iload (x := l3) rfl f206_38)) (tq ((E_ishr f206_39)) (tq ((E_iconst (x := (1)) (by decide) f206_40)) (tq ((E_iand f206_41)) (tq ((E_iconst (x := (1)) (by decide) f206_42)) (tq ((E_ic_ne f206_43)) (ite_c (tq ((E_lconst (x := (0)) (by decide) f206_75)) (tq (tq ((E_last f206_76)) (ite_ar (zS69 hS))) (ite_c (tq ((E_iinc (x := l4) (x' := (1)) rfl rfl (by decide) f206_77)) ((E_goto f206_80))) rfl))) (tq ((E_aload (v := Value.ref 37) rfl rfl f206_46)) (tq (tq ((G11005 f206_47)) (if_pos (zS37 hS))) (tq (exe_R (zR37_5 hS)) (tq ((E_iload (x := l4) rfl f206_50)) (tq (tq ((E_iald f206_52)) (ite_ar (zS42 hS))) (ite_c (tq ((E_if_le f206_53)) (ite_c (tq ((E_lconst (x := (0)) (by decide) f206_75)) (tq (tq ((E_last f206_76)) (ite_ar (zS69 hS))) (ite_c (tq ((E_iinc (x := l4) (x' := (1)) rfl rfl (by decide) f206_77)) ((E_goto f206_80))) rfl))) (tq ((E_aload (v := Value.ref 37) rfl rfl f206_56)) (tq ((E_iload (x := l1) rfl f206_57)) (tq ((E_iload (x := l4) rfl f206_58)) (tq ((E_iconst (x := (8)) (by decide) f206_60)) (tq ((E_idiv (by decide) f206_62)) (tq ((E_iload (x := l4) rfl f206_63)) (tq ((E_iconst (x := (8)) (by decide) f206_65)) (tq ((E_irem (by decide) f206_67)) (tq ((E_iload (x := l3) rfl f206_68)) ((tq ((E_callV pn_189 pc_189 rfl rfl (Nat.le_of_ble_eq_true rfl) f206_69)) (if_pos (zS37 hS))))))))))))))) rfl))))))))))))))))))))))))))))
theorem t206_72 {X : XX} {d : Nat} {sz sl : Nat} {sh : Nat → Nat × Nat} {R : Nat → Nat → Option Nat} {I : Nat → Nat → Int32} {J : Nat → Nat → Int64} {l1 : Int32} {l2 : Int32} {l3 : Int32} {l4 : Int32} {s0 : Int64} {s1 : Int32} {s2 : Value} (k2 : isB s2 = true) : exe X d 206 72 [Value.ref 37, Value.int l1, Value.int l2, Value.int l3, Value.int l4] [Value.long s0, Value.int s1, s2] (sz, sl, sh, R, I, J) =
    (rf (s2) fun p1 => (if (sh p1).1 = 1 ∧ inb s1 (sh p1).2 then exe X d 206 13 [Value.ref 37, Value.int l1, Value.int l2, Value.int l3, Value.int (l4 + (1))] [] (sz, sl, sh, R, I, (u2 J p1 s1.toNatClampNeg s0)) else none)) :=
  tq ((E_goto f206_72)) (tq ((E_last f206_76)) (rf_c fun p1 => ite_c (tq ((E_iinc (x := l4) (x' := (1)) rfl rfl (by decide) f206_77)) ((E_goto f206_80))) rfl))
theorem n206 {X : XX} {d : Nat} {h : HP} {a0 : Int32} {a1 : Int32} : ev X (d + 1) 206 [Value.ref 37, Value.int a0, Value.int a1] h = exe X d 206 0 [Value.ref 37, Value.int a0, Value.int a1, dm, dm] [] h := ev_exe (Nat.le_of_ble_eq_true rfl)
theorem f207_0 : fr 207 0 = some (.iconst 0, 1, [], []) := by decide +kernel
theorem f207_1 : fr 207 1 = some (.istore 3, 1, [], []) := by decide +kernel
theorem f207_2 : fr 207 2 = some (.iload 3, 1, [], []) := by decide +kernel
theorem f207_3 : fr 207 3 = some (.iconst 8, 2, [], []) := by decide +kernel
theorem f207_5 : fr 207 5 = some (.aload 0, 1, [], []) := by decide +kernel
theorem f207_6 : fr 207 6 = some (.getfield 11000, 3, [], []) := by decide +kernel
theorem f207_9 : fr 207 9 = some (.imul, 1, [], []) := by decide +kernel
theorem f207_10 : fr 207 10 = some (.if_icmp .ge 42, 3, [], [0, 1, 2, 3]) := by decide +kernel
theorem f207_13 : fr 207 13 = some (.aload 0, 1, [], []) := by decide +kernel
theorem f207_14 : fr 207 14 = some (.getfield 11005, 3, [], []) := by decide +kernel
theorem f207_17 : fr 207 17 = some (.iload 3, 1, [], []) := by decide +kernel
theorem f207_18 : fr 207 18 = some (.iaload, 1, [], []) := by decide +kernel
theorem f207_19 : fr 207 19 = some (.ifCond .le 36, 3, [], []) := by decide +kernel
theorem f207_22 : fr 207 22 = some (.aload 0, 1, [], []) := by decide +kernel
theorem f207_23 : fr 207 23 = some (.iload 1, 1, [], []) := by decide +kernel
theorem f207_24 : fr 207 24 = some (.iload 3, 1, [], []) := by decide +kernel
theorem f207_25 : fr 207 25 = some (.invokevirtual 208, 3, [], []) := by decide +kernel
theorem f207_28 : fr 207 28 = some (.iload 2, 1, [], []) := by decide +kernel
theorem f207_29 : fr 207 29 = some (.i2l, 1, [], []) := by decide +kernel
theorem f207_30 : fr 207 30 = some (.lcmp, 1, [], []) := by decide +kernel
theorem f207_31 : fr 207 31 = some (.ifCond .le 36, 3, [0, 1, 2, 3], []) := by decide +kernel
theorem f207_34 : fr 207 34 = some (.iconst 0, 1, [], []) := by decide +kernel
theorem f207_35 : fr 207 35 = some (.ireturn, 1, [], []) := by decide +kernel
theorem f207_36 : fr 207 36 = some (.iinc 3 1, 3, [], []) := by decide +kernel
theorem f207_39 : fr 207 39 = some (.goto 2, 3, [], []) := by decide +kernel
theorem f207_42 : fr 207 42 = some (.iconst 1, 1, [], []) := by decide +kernel
theorem f207_43 : fr 207 43 = some (.ireturn, 1, [], []) := by decide +kernel
theorem t207_0 {X : XX} {d : Nat} {sz sl : Nat} {sh : Nat → Nat × Nat} {R : Nat → Nat → Option Nat} {I : Nat → Nat → Int32} {J : Nat → Nat → Int64} {l1 : Int32} {l2 : Int32} : exe X d 207 0 [Value.ref 37, Value.int l1, Value.int l2, dm] [] (sz, sl, sh, R, I, J) =
    exe X d 207 2 [Value.ref 37, Value.int l1, Value.int l2, Value.int (0)] [] (sz, sl, sh, R, I, J) :=
  tq ((E_iconst (x := (0)) (by decide) f207_0)) ((E_istore rfl f207_1))
theorem t207_2 {X : XX} {d : Nat} {sz sl : Nat} {sh : Nat → Nat × Nat} {R : Nat → Nat → Option Nat} {I : Nat → Nat → Int32} {J : Nat → Nat → Int64} (hS : SF sh R) {l1 : Int32} {l2 : Int32} {l3 : Int32} : exe X d 207 2 [Value.ref 37, Value.int l1, Value.int l2, Value.int l3] [] (sz, sl, sh, R, I, J) =
    (if ((8) * (I 37 0)) ≤ l3 then some (some (Value.int (1)), (sz, sl, sh, R, I, J)) else (if inb l3 320 then (if (I 42 l3.toNatClampNeg) ≤ 0 then exe X d 207 2 [Value.ref 37, Value.int l1, Value.int l2, Value.int (l3 + (1))] [] (sz, sl, sh, R, I, J) else ((ev X d 208 [Value.ref 37, Value.int l1, Value.int l3] (sz, sl, sh, R, I, J)).bind fun q => exe X d 207 28 [Value.ref 37, Value.int l1, Value.int l2, Value.int l3] (q.1.toList ++ []) q.2)) else none)) :=
  tq ((E_iload (x := l3) rfl f207_2)) (tq ((E_iconst (x := (8)) (by decide) f207_3)) (tq ((E_aload (v := Value.ref 37) rfl rfl f207_5)) (tq (tq ((G11000 f207_6)) (if_pos (zS37 hS))) (tq ((E_imul f207_9)) (tq ((E_ic_ge f207_10)) (ite_c (tq ((E_iconst (x := (1)) (by decide) f207_42)) (tq (E_zret pr_207 f207_43) (if_pos (by decide)))) (tq ((E_aload (v := Value.ref 37) rfl rfl f207_13)) (tq (tq ((G11005 f207_14)) (if_pos (zS37 hS))) (tq (exe_R (zR37_5 hS)) (tq ((E_iload (x := l3) rfl f207_17)) (tq (tq ((E_iald f207_18)) (ite_ar (zS42 hS))) (ite_c (tq ((E_if_le f207_19)) (ite_c (tq ((E_iinc (x := l3) (x' := (1)) rfl rfl (by decide) f207_36)) ((E_goto f207_39))) (tq ((E_aload (v := Value.ref 37) rfl rfl f207_22)) (tq ((E_iload (x := l1) rfl f207_23)) (tq ((E_iload (x := l3) rfl f207_24)) ((tq ((E_callV pn_208 pc_208 rfl rfl (Nat.le_of_ble_eq_true rfl) f207_25)) (if_pos (zS37 hS))))))))) rfl))))))))))))
theorem t207_28 {X : XX} {d : Nat} {sz sl : Nat} {sh : Nat → Nat × Nat} {R : Nat → Nat → Option Nat} {I : Nat → Nat → Int32} {J : Nat → Nat → Int64} {l1 : Int32} {l2 : Int32} {l3 : Int32} {s0 : Int64} : exe X d 207 28 [Value.ref 37, Value.int l1, Value.int l2, Value.int l3] [Value.long s0] (sz, sl, sh, R, I, J) =
    (if (lg_cmp s0 (Int32.toInt64 l2)) ≤ 0 then exe X d 207 2 [Value.ref 37, Value.int l1, Value.int l2, Value.int (l3 + (1))] [] (sz, sl, sh, R, I, J) else some (some (Value.int (0)), (sz, sl, sh, R, I, J))) :=
  tq ((E_iload (x := l2) rfl f207_28)) (tq ((E_i2l f207_29)) (tq ((E_lcmp f207_30)) (tq ((E_if_le f207_31)) (ite_c (tq ((E_iinc (x := l3) (x' := (1)) rfl rfl (by decide) f207_36)) ((E_goto f207_39))) (tq ((E_iconst (x := (0)) (by decide) f207_34)) (tq (E_zret pr_207 f207_35) (if_pos (by decide))))))))
theorem n207 {X : XX} {d : Nat} {h : HP} {a0 : Int32} {a1 : Int32} : ev X (d + 1) 207 [Value.ref 37, Value.int a0, Value.int a1] h = exe X d 207 0 [Value.ref 37, Value.int a0, Value.int a1, dm] [] h := ev_exe (Nat.le_of_ble_eq_true rfl)
theorem f208_0 : fr 208 0 = some (.jsr_w 0, 1, [], []) := by decide +kernel
theorem f208_1 : fr 208 1 = some (.lstore 3, 1, [], []) := by decide +kernel
theorem f208_2 : fr 208 2 = some (.iconst 0, 1, [], []) := by decide +kernel
theorem f208_3 : fr 208 3 = some (.istore 5, 2, [], []) := by decide +kernel
theorem f208_5 : fr 208 5 = some (.iload 5, 2, [], []) := by decide +kernel
theorem f208_7 : fr 208 7 = some (.aload 0, 1, [], []) := by decide +kernel
theorem f208_8 : fr 208 8 = some (.getfield 11013, 3, [], []) := by decide +kernel
theorem f208_11 : fr 208 11 = some (.if_icmp .ge 50, 3, [], [1, 5]) := by decide +kernel
theorem f208_14 : fr 208 14 = some (.lload 3, 1, [3], []) := by decide +kernel
theorem f208_15 : fr 208 15 = some (.iload 1, 1, [], []) := by decide +kernel
theorem f208_16 : fr 208 16 = some (.iload 5, 2, [], []) := by decide +kernel
theorem f208_18 : fr 208 18 = some (.ishr, 1, [], []) := by decide +kernel
theorem f208_19 : fr 208 19 = some (.iconst 1, 1, [], []) := by decide +kernel
theorem f208_20 : fr 208 20 = some (.iand, 1, [], []) := by decide +kernel
theorem f208_21 : fr 208 21 = some (.iconst 1, 1, [], []) := by decide +kernel
theorem f208_22 : fr 208 22 = some (.if_icmp .ne 41, 3, [], []) := by decide +kernel
theorem f208_25 : fr 208 25 = some (.aload 0, 1, [], []) := by decide +kernel
theorem f208_26 : fr 208 26 = some (.getfield 11047, 3, [], []) := by decide +kernel
theorem f208_29 : fr 208 29 = some (.iconst 320, 3, [], []) := by decide +kernel
theorem f208_32 : fr 208 32 = some (.iload 5, 2, [], []) := by decide +kernel
theorem f208_34 : fr 208 34 = some (.imul, 1, [], []) := by decide +kernel
theorem f208_35 : fr 208 35 = some (.iload 2, 1, [], []) := by decide +kernel
theorem f208_36 : fr 208 36 = some (.iadd, 1, [], []) := by decide +kernel
theorem f208_37 : fr 208 37 = some (.laload, 1, [], []) := by decide +kernel
theorem f208_38 : fr 208 38 = some (.goto 42, 3, [], []) := by decide +kernel
theorem f208_41 : fr 208 41 = some (.jsr_w 0, 1, [], []) := by decide +kernel
theorem f208_42 : fr 208 42 = some (.ladd, 1, [], []) := by decide +kernel
theorem f208_43 : fr 208 43 = some (.lstore 3, 1, [], []) := by decide +kernel
theorem f208_44 : fr 208 44 = some (.iinc 5 1, 3, [], []) := by decide +kernel
theorem f208_47 : fr 208 47 = some (.goto 5, 3, [], []) := by decide +kernel
theorem f208_50 : fr 208 50 = some (.lload 3, 1, [3], []) := by decide +kernel
theorem f208_51 : fr 208 51 = some (.aload 0, 1, [0], []) := by decide +kernel
theorem f208_52 : fr 208 52 = some (.getfield 11005, 3, [], []) := by decide +kernel
theorem f208_55 : fr 208 55 = some (.iload 2, 1, [2], []) := by decide +kernel
theorem f208_56 : fr 208 56 = some (.iaload, 1, [], []) := by decide +kernel
theorem f208_57 : fr 208 57 = some (.i2l, 1, [], []) := by decide +kernel
theorem f208_58 : fr 208 58 = some (.lsub, 1, [], []) := by decide +kernel
theorem f208_59 : fr 208 59 = some (.invokestatic 152, 3, [], []) := by decide +kernel
theorem f208_62 : fr 208 62 = some (.lreturn, 1, [], []) := by decide +kernel
theorem t208_0 {X : XX} {d : Nat} {sz sl : Nat} {sh : Nat → Nat × Nat} {R : Nat → Nat → Option Nat} {I : Nat → Nat → Int32} {J : Nat → Nat → Int64} {l1 : Int32} {l2 : Int32} : exe X d 208 0 [Value.ref 37, Value.int l1, Value.int l2, dm, dm, dm] [] (sz, sl, sh, R, I, J) =
    exe X d 208 5 [Value.ref 37, Value.int l1, Value.int l2, Value.long (0), dm, Value.int (0)] [] (sz, sl, sh, R, I, J) :=
  tq ((E_lconst (x := (0)) (by decide) f208_0)) (tq ((E_lstore rfl (Nat.le_of_ble_eq_true rfl) f208_1)) (tq ((E_iconst (x := (0)) (by decide) f208_2)) ((E_istore rfl f208_3))))
theorem t208_5 {X : XX} {d : Nat} {sz sl : Nat} {sh : Nat → Nat × Nat} {R : Nat → Nat → Option Nat} {I : Nat → Nat → Int32} {J : Nat → Nat → Int64} (hS : SF sh R) {l1 : Int32} {l2 : Int32} {l3 : Int64} {l5 : Int32} : exe X d 208 5 [Value.ref 37, Value.int l1, Value.int l2, Value.long l3, dm, Value.int l5] [] (sz, sl, sh, R, I, J) =
    (if (I 37 13) ≤ l5 then (if inb l2 320 then ((ev X d 152 [Value.long (l3 - (Int32.toInt64 (I 42 l2.toNatClampNeg)))] (sz, sl, sh, R, I, J)).bind fun q => exe X d 208 62 [dm, dm, dm, dm, dm, dm] (q.1.toList ++ []) q.2) else none) else (if ¬ ((l1 >>> (l5 &&& 31)) &&& (1)) = (1) then exe X d 208 5 [Value.ref 37, Value.int l1, Value.int l2, Value.long (l3 + (0)), dm, Value.int (l5 + (1))] [] (sz, sl, sh, R, I, J) else (if inb (((320) * l5) + l2) 3200 then exe X d 208 5 [Value.ref 37, Value.int l1, Value.int l2, Value.long (l3 + (J 69 (((320) * l5) + l2).toNatClampNeg)), dm, Value.int (l5 + (1))] [] (sz, sl, sh, R, I, J) else none))) :=
  tq ((E_iload (x := l5) rfl f208_5)) (tq ((E_aload (v := Value.ref 37) rfl rfl f208_7)) (tq (tq ((G11013 f208_8)) (if_pos (zS37 hS))) (tq ((E_ic_ge f208_11)) (ite_c (tq ((E_lload (x := l3) rfl f208_50)) (tq ((E_aload (v := Value.ref 37) rfl rfl f208_51)) (tq (tq ((G11005 f208_52)) (if_pos (zS37 hS))) (tq (exe_R (zR37_5 hS)) (tq ((E_iload (x := l2) rfl f208_55)) (tq (tq ((E_iald f208_56)) (ite_ar (zS42 hS))) (ite_c (tq ((E_i2l f208_57)) (tq ((E_lsub f208_58)) ((E_callS pn_152 rfl rfl (Nat.le_of_ble_eq_true rfl) (Nat.le_of_ble_eq_true rfl) f208_59)))) rfl))))))) (tq ((E_lload (x := l3) rfl f208_14)) (tq ((E_iload (x := l1) rfl f208_15)) (tq ((E_iload (x := l5) rfl f208_16)) (tq ((E_ishr f208_18)) (tq ((E_iconst (x := (1)) (by decide) f208_19)) (tq ((E_iand f208_20)) (tq ((E_iconst (x := (1)) (by decide) f208_21)) (tq ((E_ic_ne f208_22)) (ite_c (tq ((E_lconst (x := (0)) (by decide) f208_41)) (tq ((E_ladd f208_42)) (tq ((E_lstore rfl (Nat.le_of_ble_eq_true rfl) f208_43)) (tq ((E_iinc (x := l5) (x' := (1)) rfl rfl (by decide) f208_44)) ((E_goto f208_47)))))) (tq ((E_aload (v := Value.ref 37) rfl rfl f208_25)) (tq (tq ((G11047 f208_26)) (if_pos (zS37 hS))) (tq (exe_R (zR37_47 hS)) (tq ((E_iconst (x := (320)) (by decide) f208_29)) (tq ((E_iload (x := l5) rfl f208_32)) (tq ((E_imul f208_34)) (tq ((E_iload (x := l2) rfl f208_35)) (tq ((E_iadd f208_36)) (tq (tq ((E_lald f208_37)) (ite_ar (zS69 hS))) (ite_c (tq ((E_goto f208_38)) (tq ((E_ladd f208_42)) (tq ((E_lstore rfl (Nat.le_of_ble_eq_true rfl) f208_43)) (tq ((E_iinc (x := l5) (x' := (1)) rfl rfl (by decide) f208_44)) ((E_goto f208_47)))))) rfl)))))))))))))))))))))))
theorem t208_62 {X : XX} {d : Nat} {sz sl : Nat} {sh : Nat → Nat × Nat} {R : Nat → Nat → Option Nat} {I : Nat → Nat → Int32} {J : Nat → Nat → Int64} {s0 : Int64} : exe X d 208 62 [dm, dm, dm, dm, dm, dm] [Value.long s0] (sz, sl, sh, R, I, J) =
    some (some (Value.long s0), (sz, sl, sh, R, I, J)) :=
  (E_lret pr_208 f208_62)
theorem n208 {X : XX} {d : Nat} {h : HP} {a0 : Int32} {a1 : Int32} : ev X (d + 1) 208 [Value.ref 37, Value.int a0, Value.int a1] h = exe X d 208 0 [Value.ref 37, Value.int a0, Value.int a1, dm, dm, dm] [] h := ev_exe (Nat.le_of_ble_eq_true rfl)
theorem f209_0 : fr 209 0 = some (.aload 0, 1, [], []) := by decide +kernel
theorem f209_1 : fr 209 1 = some (.iload 1, 1, [], []) := by decide +kernel
theorem f209_2 : fr 209 2 = some (.invokevirtual 179, 3, [], []) := by decide +kernel
theorem f209_5 : fr 209 5 = some (.ifCond .eq 25, 3, [], [0, 1, 2, 3]) := by decide +kernel
theorem f209_8 : fr 209 8 = some (.aload 0, 1, [], []) := by decide +kernel
theorem f209_9 : fr 209 9 = some (.iload 2, 1, [], []) := by decide +kernel
theorem f209_10 : fr 209 10 = some (.invokevirtual 187, 3, [], []) := by decide +kernel
theorem f209_13 : fr 209 13 = some (.ifCond .eq 25, 3, [], [0, 1, 2, 3]) := by decide +kernel
theorem f209_16 : fr 209 16 = some (.iload 3, 1, [], []) := by decide +kernel
theorem f209_17 : fr 209 17 = some (.iconst 0, 1, [], []) := by decide +kernel
theorem f209_18 : fr 209 18 = some (.iconst 1, 1, [], []) := by decide +kernel
theorem f209_19 : fr 209 19 = some (.invokestatic 148, 3, [], []) := by decide +kernel
theorem f209_22 : fr 209 22 = some (.ifCond .ne 27, 3, [0, 1, 2, 3], []) := by decide +kernel
theorem f209_25 : fr 209 25 = some (.iconst (-1), 1, [], []) := by decide +kernel
theorem f209_26 : fr 209 26 = some (.ireturn, 1, [], []) := by decide +kernel
theorem f209_27 : fr 209 27 = some (.iload 2, 1, [], []) := by decide +kernel
theorem f209_28 : fr 209 28 = some (.invokestatic 204, 3, [], []) := by decide +kernel
theorem f209_31 : fr 209 31 = some (.iconst 8, 2, [], []) := by decide +kernel
theorem f209_33 : fr 209 33 = some (.if_icmp .le 39, 3, [0, 1, 2, 3], []) := by decide +kernel
theorem f209_36 : fr 209 36 = some (.iconst (-4), 2, [], []) := by decide +kernel
theorem f209_38 : fr 209 38 = some (.ireturn, 1, [], []) := by decide +kernel
theorem f209_39 : fr 209 39 = some (.aload 0, 1, [], []) := by decide +kernel
theorem f209_40 : fr 209 40 = some (.invokevirtual 205, 3, [], []) := by decide +kernel
theorem f209_43 : fr 209 43 = some (.ifCond .ne 49, 3, [0, 1, 2, 3], []) := by decide +kernel
theorem f209_46 : fr 209 46 = some (.iconst (-2), 2, [], []) := by decide +kernel
theorem f209_48 : fr 209 48 = some (.ireturn, 1, [], []) := by decide +kernel
theorem f209_49 : fr 209 49 = some (.aload 0, 1, [], []) := by decide +kernel
theorem f209_50 : fr 209 50 = some (.iload 1, 1, [1], []) := by decide +kernel
theorem f209_51 : fr 209 51 = some (.iload 2, 1, [], []) := by decide +kernel
theorem f209_52 : fr 209 52 = some (.invokevirtual 206, 3, [], []) := by decide +kernel
theorem f209_55 : fr 209 55 = some (.iconst (-2), 2, [], []) := by decide +kernel
theorem f209_57 : fr 209 57 = some (.istore 4, 2, [], []) := by decide +kernel
theorem f209_59 : fr 209 59 = some (.jsr_w 0, 1, [], []) := by decide +kernel
theorem f209_60 : fr 209 60 = some (.lstore 5, 2, [], []) := by decide +kernel
theorem f209_62 : fr 209 62 = some (.iconst 0, 1, [], []) := by decide +kernel
theorem f209_63 : fr 209 63 = some (.istore 7, 2, [], []) := by decide +kernel
theorem f209_65 : fr 209 65 = some (.iload 7, 2, [], []) := by decide +kernel
theorem f209_67 : fr 209 67 = some (.iload 2, 1, [], []) := by decide +kernel
theorem f209_68 : fr 209 68 = some (.if_icmp .gt 160, 3, [], [0, 2, 7]) := by decide +kernel
theorem f209_71 : fr 209 71 = some (.iload 7, 2, [], []) := by decide +kernel
theorem f209_73 : fr 209 73 = some (.iload 2, 1, [], []) := by decide +kernel
theorem f209_74 : fr 209 74 = some (.iconst (-1), 1, [], []) := by decide +kernel
theorem f209_75 : fr 209 75 = some (.ixor, 1, [], []) := by decide +kernel
theorem f209_76 : fr 209 76 = some (.iand, 1, [], []) := by decide +kernel
theorem f209_77 : fr 209 77 = some (.ifCond .ne 154, 3, [], []) := by decide +kernel
theorem f209_80 : fr 209 80 = some (.jsr_w 0, 1, [], []) := by decide +kernel
theorem f209_81 : fr 209 81 = some (.lstore 8, 2, [], []) := by decide +kernel
theorem f209_83 : fr 209 83 = some (.iconst 0, 1, [], []) := by decide +kernel
theorem f209_84 : fr 209 84 = some (.istore 10, 2, [], []) := by decide +kernel
theorem f209_86 : fr 209 86 = some (.iload 10, 2, [], []) := by decide +kernel
theorem f209_88 : fr 209 88 = some (.iconst 8, 2, [], []) := by decide +kernel
theorem f209_90 : fr 209 90 = some (.aload 0, 1, [], []) := by decide +kernel
theorem f209_91 : fr 209 91 = some (.getfield 11000, 3, [], []) := by decide +kernel
theorem f209_94 : fr 209 94 = some (.imul, 1, [], []) := by decide +kernel
theorem f209_95 : fr 209 95 = some (.if_icmp .ge 131, 3, [], [10]) := by decide +kernel
theorem f209_98 : fr 209 98 = some (.lload 8, 2, [8], []) := by decide +kernel
theorem f209_100 : fr 209 100 = some (.aload 0, 1, [], []) := by decide +kernel
theorem f209_101 : fr 209 101 = some (.getfield 11005, 3, [], []) := by decide +kernel
theorem f209_104 : fr 209 104 = some (.iload 10, 2, [], []) := by decide +kernel
theorem f209_106 : fr 209 106 = some (.iaload, 1, [], []) := by decide +kernel
theorem f209_107 : fr 209 107 = some (.ifCond .le 121, 3, [], []) := by decide +kernel
theorem f209_110 : fr 209 110 = some (.aload 0, 1, [], []) := by decide +kernel
theorem f209_111 : fr 209 111 = some (.iload 7, 2, [], []) := by decide +kernel
theorem f209_113 : fr 209 113 = some (.iload 10, 2, [], []) := by decide +kernel
theorem f209_115 : fr 209 115 = some (.invokevirtual 208, 3, [], []) := by decide +kernel
theorem f209_118 : fr 209 118 = some (.goto 122, 3, [], []) := by decide +kernel
theorem f209_121 : fr 209 121 = some (.jsr_w 0, 1, [], []) := by decide +kernel
theorem f209_122 : fr 209 122 = some (.ladd, 1, [], []) := by decide +kernel
theorem f209_123 : fr 209 123 = some (.lstore 8, 2, [], []) := by decide +kernel
theorem f209_125 : fr 209 125 = some (.iinc 10 1, 3, [], []) := by decide +kernel
theorem f209_128 : fr 209 128 = some (.goto 86, 3, [], []) := by decide +kernel
theorem f209_131 : fr 209 131 = some (.iload 4, 2, [], []) := by decide +kernel
theorem f209_133 : fr 209 133 = some (.iconst (-2), 2, [], []) := by decide +kernel
theorem f209_135 : fr 209 135 = some (.if_icmp .eq 146, 3, [], [4, 5]) := by decide +kernel
theorem f209_138 : fr 209 138 = some (.lload 8, 2, [], []) := by decide +kernel
theorem f209_140 : fr 209 140 = some (.lload 5, 2, [], []) := by decide +kernel
theorem f209_142 : fr 209 142 = some (.lcmp, 1, [], []) := by decide +kernel
theorem f209_143 : fr 209 143 = some (.ifCond .ge 154, 3, [4, 5], [8]) := by decide +kernel
theorem f209_146 : fr 209 146 = some (.iload 7, 2, [], []) := by decide +kernel
theorem f209_148 : fr 209 148 = some (.istore 4, 2, [], []) := by decide +kernel
theorem f209_150 : fr 209 150 = some (.lload 8, 2, [8], []) := by decide +kernel
theorem f209_152 : fr 209 152 = some (.lstore 5, 2, [], []) := by decide +kernel
theorem f209_154 : fr 209 154 = some (.iinc 7 1, 3, [], []) := by decide +kernel
theorem f209_157 : fr 209 157 = some (.goto 65, 3, [], []) := by decide +kernel
theorem f209_160 : fr 209 160 = some (.iload 3, 1, [3], []) := by decide +kernel
theorem f209_161 : fr 209 161 = some (.ifCond .ne 169, 3, [5], [4]) := by decide +kernel
theorem f209_164 : fr 209 164 = some (.iload 4, 2, [4], []) := by decide +kernel
theorem f209_166 : fr 209 166 = some (.goto 174, 3, [], []) := by decide +kernel
theorem f209_169 : fr 209 169 = some (.lload 5, 2, [5], []) := by decide +kernel
theorem f209_171 : fr 209 171 = some (.invokestatic 190, 3, [], []) := by decide +kernel
theorem f209_174 : fr 209 174 = some (.ireturn, 1, [], []) := by decide +kernel
theorem t209_0 {X : XX} {d : Nat} {sz sl : Nat} {sh : Nat → Nat × Nat} {R : Nat → Nat → Option Nat} {I : Nat → Nat → Int32} {J : Nat → Nat → Int64} (hS : SF sh R) {l1 : Int32} {l2 : Int32} {l3 : Int32} : exe X d 209 0 [Value.ref 37, Value.int l1, Value.int l2, Value.int l3, dm, dm, dm, dm, dm, dm, dm] [] (sz, sl, sh, R, I, J) =
    ((ev X d 179 [Value.ref 37, Value.int l1] (sz, sl, sh, R, I, J)).bind fun q => exe X d 209 5 [Value.ref 37, Value.int l1, Value.int l2, Value.int l3, dm, dm, dm, dm, dm, dm, dm] (q.1.toList ++ []) q.2) :=
  tq ((E_aload (v := Value.ref 37) rfl rfl f209_0)) (tq ((E_iload (x := l1) rfl f209_1)) ((tq ((E_callV pn_179 pc_179 rfl rfl (Nat.le_of_ble_eq_true rfl) f209_2)) (if_pos (zS37 hS)))))
theorem t209_5 {X : XX} {d : Nat} {sz sl : Nat} {sh : Nat → Nat × Nat} {R : Nat → Nat → Option Nat} {I : Nat → Nat → Int32} {J : Nat → Nat → Int64} (hS : SF sh R) {l1 : Int32} {l2 : Int32} {l3 : Int32} {s0 : Int32} : exe X d 209 5 [Value.ref 37, Value.int l1, Value.int l2, Value.int l3, dm, dm, dm, dm, dm, dm, dm] [Value.int s0] (sz, sl, sh, R, I, J) =
    (if s0 = 0 then some (some (Value.int (-1)), (sz, sl, sh, R, I, J)) else ((ev X d 187 [Value.ref 37, Value.int l2] (sz, sl, sh, R, I, J)).bind fun q => exe X d 209 13 [Value.ref 37, Value.int l1, Value.int l2, Value.int l3, dm, dm, dm, dm, dm, dm, dm] (q.1.toList ++ []) q.2)) :=
  tq ((E_if_eq f209_5)) (ite_c (tq ((E_iconst (x := (-1)) (by decide) f209_25)) ((E_iret pr_209 f209_26))) (tq ((E_aload (v := Value.ref 37) rfl rfl f209_8)) (tq ((E_iload (x := l2) rfl f209_9)) ((tq ((E_callV pn_187 pc_187 rfl rfl (Nat.le_of_ble_eq_true rfl) f209_10)) (if_pos (zS37 hS)))))))
theorem t209_13 {X : XX} {d : Nat} {sz sl : Nat} {sh : Nat → Nat × Nat} {R : Nat → Nat → Option Nat} {I : Nat → Nat → Int32} {J : Nat → Nat → Int64} {l1 : Int32} {l2 : Int32} {l3 : Int32} {s0 : Int32} : exe X d 209 13 [Value.ref 37, Value.int l1, Value.int l2, Value.int l3, dm, dm, dm, dm, dm, dm, dm] [Value.int s0] (sz, sl, sh, R, I, J) =
    (if s0 = 0 then some (some (Value.int (-1)), (sz, sl, sh, R, I, J)) else ((ev X d 148 [Value.int l3, Value.int (0), Value.int (1)] (sz, sl, sh, R, I, J)).bind fun q => exe X d 209 22 [Value.ref 37, Value.int l1, Value.int l2, Value.int l3, dm, dm, dm, dm, dm, dm, dm] (q.1.toList ++ []) q.2)) :=
  tq ((E_if_eq f209_13)) (ite_c (tq ((E_iconst (x := (-1)) (by decide) f209_25)) ((E_iret pr_209 f209_26))) (tq ((E_iload (x := l3) rfl f209_16)) (tq ((E_iconst (x := (0)) (by decide) f209_17)) (tq ((E_iconst (x := (1)) (by decide) f209_18)) ((E_callS pn_148 rfl rfl (Nat.le_of_ble_eq_true rfl) (Nat.le_of_ble_eq_true rfl) f209_19))))))
theorem t209_22 {X : XX} {d : Nat} {sz sl : Nat} {sh : Nat → Nat × Nat} {R : Nat → Nat → Option Nat} {I : Nat → Nat → Int32} {J : Nat → Nat → Int64} {l1 : Int32} {l2 : Int32} {l3 : Int32} {s0 : Int32} : exe X d 209 22 [Value.ref 37, Value.int l1, Value.int l2, Value.int l3, dm, dm, dm, dm, dm, dm, dm] [Value.int s0] (sz, sl, sh, R, I, J) =
    (if ¬ s0 = 0 then ((ev X d 204 [Value.int l2] (sz, sl, sh, R, I, J)).bind fun q => exe X d 209 31 [Value.ref 37, Value.int l1, Value.int l2, Value.int l3, dm, dm, dm, dm, dm, dm, dm] (q.1.toList ++ []) q.2) else some (some (Value.int (-1)), (sz, sl, sh, R, I, J))) :=
  tq ((E_if_ne f209_22)) (ite_c (tq ((E_iload (x := l2) rfl f209_27)) ((E_callS pn_204 rfl rfl (Nat.le_of_ble_eq_true rfl) (Nat.le_of_ble_eq_true rfl) f209_28))) (tq ((E_iconst (x := (-1)) (by decide) f209_25)) ((E_iret pr_209 f209_26))))
theorem t209_31 {X : XX} {d : Nat} {sz sl : Nat} {sh : Nat → Nat × Nat} {R : Nat → Nat → Option Nat} {I : Nat → Nat → Int32} {J : Nat → Nat → Int64} (hS : SF sh R) {l1 : Int32} {l2 : Int32} {l3 : Int32} {s0 : Int32} : exe X d 209 31 [Value.ref 37, Value.int l1, Value.int l2, Value.int l3, dm, dm, dm, dm, dm, dm, dm] [Value.int s0] (sz, sl, sh, R, I, J) =
    (if s0 ≤ (8) then ((ev X d 205 [Value.ref 37] (sz, sl, sh, R, I, J)).bind fun q => exe X d 209 43 [Value.ref 37, Value.int l1, Value.int l2, Value.int l3, dm, dm, dm, dm, dm, dm, dm] (q.1.toList ++ []) q.2) else some (some (Value.int (-4)), (sz, sl, sh, R, I, J))) :=
  tq ((E_iconst (x := (8)) (by decide) f209_31)) (tq ((E_ic_le f209_33)) (ite_c (tq ((E_aload (v := Value.ref 37) rfl rfl f209_39)) ((tq ((E_callV pn_205 pc_205 rfl rfl (Nat.le_of_ble_eq_true rfl) f209_40)) (if_pos (zS37 hS))))) (tq ((E_iconst (x := (-4)) (by decide) f209_36)) ((E_iret pr_209 f209_38)))))
theorem t209_43 {X : XX} {d : Nat} {sz sl : Nat} {sh : Nat → Nat × Nat} {R : Nat → Nat → Option Nat} {I : Nat → Nat → Int32} {J : Nat → Nat → Int64} (hS : SF sh R) {l1 : Int32} {l2 : Int32} {l3 : Int32} {s0 : Int32} : exe X d 209 43 [Value.ref 37, Value.int l1, Value.int l2, Value.int l3, dm, dm, dm, dm, dm, dm, dm] [Value.int s0] (sz, sl, sh, R, I, J) =
    (if ¬ s0 = 0 then ((ev X d 206 [Value.ref 37, Value.int l1, Value.int l2] (sz, sl, sh, R, I, J)).bind fun q => exe X d 209 55 [Value.ref 37, dm, Value.int l2, Value.int l3, dm, dm, dm, dm, dm, dm, dm] (q.1.toList ++ []) q.2) else some (some (Value.int (-2)), (sz, sl, sh, R, I, J))) :=
  tq ((E_if_ne f209_43)) (ite_c (tq ((E_aload (v := Value.ref 37) rfl rfl f209_49)) (tq ((E_iload (x := l1) rfl f209_50)) (tq ((E_iload (x := l2) rfl f209_51)) ((tq ((E_callV pn_206 pc_206 rfl rfl (Nat.le_of_ble_eq_true rfl) f209_52)) (if_pos (zS37 hS))))))) (tq ((E_iconst (x := (-2)) (by decide) f209_46)) ((E_iret pr_209 f209_48))))
theorem t209_55 {X : XX} {d : Nat} {sz sl : Nat} {sh : Nat → Nat × Nat} {R : Nat → Nat → Option Nat} {I : Nat → Nat → Int32} {J : Nat → Nat → Int64} {l2 : Int32} {l3 : Int32} : exe X d 209 55 [Value.ref 37, dm, Value.int l2, Value.int l3, dm, dm, dm, dm, dm, dm, dm] [] (sz, sl, sh, R, I, J) =
    exe X d 209 65 [Value.ref 37, dm, Value.int l2, Value.int l3, Value.int (-2), Value.long (0), dm, Value.int (0), dm, dm, dm] [] (sz, sl, sh, R, I, J) :=
  tq ((E_iconst (x := (-2)) (by decide) f209_55)) (tq ((E_istore rfl f209_57)) (tq ((E_lconst (x := (0)) (by decide) f209_59)) (tq ((E_lstore rfl (Nat.le_of_ble_eq_true rfl) f209_60)) (tq ((E_iconst (x := (0)) (by decide) f209_62)) ((E_istore rfl f209_63))))))
theorem t209_65 {X : XX} {d : Nat} {sz sl : Nat} {sh : Nat → Nat × Nat} {R : Nat → Nat → Option Nat} {I : Nat → Nat → Int32} {J : Nat → Nat → Int64} {l2 : Int32} {l3 : Int32} {l4 : Int32} {l5 : Int64} {l7 : Int32} : exe X d 209 65 [Value.ref 37, dm, Value.int l2, Value.int l3, Value.int l4, Value.long l5, dm, Value.int l7, dm, dm, dm] [] (sz, sl, sh, R, I, J) =
    (if l2 < l7 then (if ¬ l3 = 0 then ((ev X d 190 [Value.long l5] (sz, sl, sh, R, I, J)).bind fun q => exe X d 209 174 [dm, dm, dm, dm, dm, dm, dm, dm, dm, dm, dm] (q.1.toList ++ []) q.2) else exe X d 209 174 [dm, dm, dm, dm, dm, dm, dm, dm, dm, dm, dm] [Value.int l4] (sz, sl, sh, R, I, J)) else (if ¬ (l7 &&& (l2 ^^^ (-1))) = 0 then exe X d 209 65 [Value.ref 37, dm, Value.int l2, Value.int l3, Value.int l4, Value.long l5, dm, Value.int (l7 + (1)), dm, dm, dm] [] (sz, sl, sh, R, I, J) else exe X d 209 86 [Value.ref 37, dm, Value.int l2, Value.int l3, Value.int l4, Value.long l5, dm, Value.int l7, Value.long (0), dm, Value.int (0)] [] (sz, sl, sh, R, I, J))) :=
  tq ((E_iload (x := l7) rfl f209_65)) (tq ((E_iload (x := l2) rfl f209_67)) (tq ((E_ic_gt f209_68)) (ite_c (tq ((E_iload (x := l3) rfl f209_160)) (tq ((E_if_ne f209_161)) (ite_c (tq ((E_lload (x := l5) rfl f209_169)) ((E_callS pn_190 rfl rfl (Nat.le_of_ble_eq_true rfl) (Nat.le_of_ble_eq_true rfl) f209_171))) (tq ((E_iload (x := l4) rfl f209_164)) ((E_goto f209_166)))))) (tq ((E_iload (x := l7) rfl f209_71)) (tq ((E_iload (x := l2) rfl f209_73)) (tq ((E_iconst (x := (-1)) (by decide) f209_74)) (tq ((E_ixor f209_75)) (tq ((E_iand f209_76)) (tq ((E_if_ne f209_77)) (ite_c (tq ((E_iinc (x := l7) (x' := (1)) rfl rfl (by decide) f209_154)) ((E_goto f209_157))) (tq ((E_lconst (x := (0)) (by decide) f209_80)) (tq ((E_lstore rfl (Nat.le_of_ble_eq_true rfl) f209_81)) (tq ((E_iconst (x := (0)) (by decide) f209_83)) ((E_istore rfl f209_84)))))))))))))))
theorem t209_86 {X : XX} {d : Nat} {sz sl : Nat} {sh : Nat → Nat × Nat} {R : Nat → Nat → Option Nat} {I : Nat → Nat → Int32} {J : Nat → Nat → Int64} (hS : SF sh R) {l2 : Int32} {l3 : Int32} {l4 : Int32} {l5 : Int64} {l7 : Int32} {l8 : Int64} {l10 : Int32} : exe X d 209 86 [Value.ref 37, dm, Value.int l2, Value.int l3, Value.int l4, Value.long l5, dm, Value.int l7, Value.long l8, dm, Value.int l10] [] (sz, sl, sh, R, I, J) =
    (if ((8) * (I 37 0)) ≤ l10 then (if l4 = (-2) then exe X d 209 65 [Value.ref 37, dm, Value.int l2, Value.int l3, Value.int l7, Value.long l8, dm, Value.int (l7 + (1)), dm, dm, dm] [] (sz, sl, sh, R, I, J) else (if 0 ≤ (lg_cmp l8 l5) then exe X d 209 65 [Value.ref 37, dm, Value.int l2, Value.int l3, Value.int l4, Value.long l5, dm, Value.int (l7 + (1)), dm, dm, dm] [] (sz, sl, sh, R, I, J) else exe X d 209 65 [Value.ref 37, dm, Value.int l2, Value.int l3, Value.int l7, Value.long l8, dm, Value.int (l7 + (1)), dm, dm, dm] [] (sz, sl, sh, R, I, J))) else (if inb l10 320 then (if (I 42 l10.toNatClampNeg) ≤ 0 then exe X d 209 86 [Value.ref 37, dm, Value.int l2, Value.int l3, Value.int l4, Value.long l5, dm, Value.int l7, Value.long (l8 + (0)), dm, Value.int (l10 + (1))] [] (sz, sl, sh, R, I, J) else ((ev X d 208 [Value.ref 37, Value.int l7, Value.int l10] (sz, sl, sh, R, I, J)).bind fun q => exe X d 209 118 [Value.ref 37, dm, Value.int l2, Value.int l3, Value.int l4, Value.long l5, dm, Value.int l7, dm, dm, Value.int l10] (q.1.toList ++ [Value.long l8]) q.2)) else none)) :=
  tq ((E_iload (x := l10) rfl f209_86)) (tq ((E_iconst (x := (8)) (by decide) f209_88)) (tq ((E_aload (v := Value.ref 37) rfl rfl f209_90)) (tq (tq ((G11000 f209_91)) (if_pos (zS37 hS))) (tq ((E_imul f209_94)) (tq ((E_ic_ge f209_95)) (ite_c (tq ((E_iload (x := l4) rfl f209_131)) (tq ((E_iconst (x := (-2)) (by decide) f209_133)) (tq ((E_ic_eq f209_135)) (ite_c (tq ((E_iload (x := l7) rfl f209_146)) (tq ((E_istore rfl f209_148)) (tq ((E_lload (x := l8) rfl f209_150)) (tq ((E_lstore rfl (Nat.le_of_ble_eq_true rfl) f209_152)) (tq ((E_iinc (x := l7) (x' := (1)) rfl rfl (by decide) f209_154)) ((E_goto f209_157))))))) (tq ((E_lload (x := l8) rfl f209_138)) (tq ((E_lload (x := l5) rfl f209_140)) (tq ((E_lcmp f209_142)) (tq ((E_if_ge f209_143)) (ite_c (tq ((E_iinc (x := l7) (x' := (1)) rfl rfl (by decide) f209_154)) ((E_goto f209_157))) (tq ((E_iload (x := l7) rfl f209_146)) (tq ((E_istore rfl f209_148)) (tq ((E_lload (x := l8) rfl f209_150)) (tq ((E_lstore rfl (Nat.le_of_ble_eq_true rfl) f209_152)) (tq ((E_iinc (x := l7) (x' := (1)) rfl rfl (by decide) f209_154)) ((E_goto f209_157)))))))))))))))) (tq ((E_lload (x := l8) rfl f209_98)) (tq ((E_aload (v := Value.ref 37) rfl rfl f209_100)) (tq (tq ((G11005 f209_101)) (if_pos (zS37 hS))) (tq (exe_R (zR37_5 hS)) (tq ((E_iload (x := l10) rfl f209_104)) (tq (tq ((E_iald f209_106)) (ite_ar (zS42 hS))) (ite_c (tq ((E_if_le f209_107)) (ite_c (tq ((E_lconst (x := (0)) (by decide) f209_121)) (tq ((E_ladd f209_122)) (tq ((E_lstore rfl (Nat.le_of_ble_eq_true rfl) f209_123)) (tq ((E_iinc (x := l10) (x' := (1)) rfl rfl (by decide) f209_125)) ((E_goto f209_128)))))) (tq ((E_aload (v := Value.ref 37) rfl rfl f209_110)) (tq ((E_iload (x := l7) rfl f209_111)) (tq ((E_iload (x := l10) rfl f209_113)) ((tq ((E_callV pn_208 pc_208 rfl rfl (Nat.le_of_ble_eq_true rfl) f209_115)) (if_pos (zS37 hS))))))))) rfl)))))))))))))
theorem t209_118 {X : XX} {d : Nat} {sz sl : Nat} {sh : Nat → Nat × Nat} {R : Nat → Nat → Option Nat} {I : Nat → Nat → Int32} {J : Nat → Nat → Int64} {l2 : Int32} {l3 : Int32} {l4 : Int32} {l5 : Int64} {l7 : Int32} {l10 : Int32} {s0 : Int64} {s1 : Int64} : exe X d 209 118 [Value.ref 37, dm, Value.int l2, Value.int l3, Value.int l4, Value.long l5, dm, Value.int l7, dm, dm, Value.int l10] [Value.long s0, Value.long s1] (sz, sl, sh, R, I, J) =
    exe X d 209 86 [Value.ref 37, dm, Value.int l2, Value.int l3, Value.int l4, Value.long l5, dm, Value.int l7, Value.long (s1 + s0), dm, Value.int (l10 + (1))] [] (sz, sl, sh, R, I, J) :=
  tq ((E_goto f209_118)) (tq ((E_ladd f209_122)) (tq ((E_lstore rfl (Nat.le_of_ble_eq_true rfl) f209_123)) (tq ((E_iinc (x := l10) (x' := (1)) rfl rfl (by decide) f209_125)) ((E_goto f209_128)))))
theorem t209_174 {X : XX} {d : Nat} {sz sl : Nat} {sh : Nat → Nat × Nat} {R : Nat → Nat → Option Nat} {I : Nat → Nat → Int32} {J : Nat → Nat → Int64} {s0 : Int32} : exe X d 209 174 [dm, dm, dm, dm, dm, dm, dm, dm, dm, dm, dm] [Value.int s0] (sz, sl, sh, R, I, J) =
    some (some (Value.int s0), (sz, sl, sh, R, I, J)) :=
  (E_iret pr_209 f209_174)
theorem n209 {X : XX} {d : Nat} {h : HP} {a0 : Int32} {a1 : Int32} {a2 : Int32} : ev X (d + 1) 209 [Value.ref 37, Value.int a0, Value.int a1, Value.int a2] h = exe X d 209 0 [Value.ref 37, Value.int a0, Value.int a1, Value.int a2, dm, dm, dm, dm, dm, dm, dm] [] h := ev_exe (Nat.le_of_ble_eq_true rfl)
theorem f210_0 : fr 210 0 = some (.aload 0, 1, [], []) := by decide +kernel
theorem f210_1 : fr 210 1 = some (.iload 1, 1, [], []) := by decide +kernel
theorem f210_2 : fr 210 2 = some (.invokevirtual 179, 3, [], []) := by decide +kernel
theorem f210_5 : fr 210 5 = some (.ifCond .eq 24, 3, [], [0, 1, 2, 3]) := by decide +kernel
theorem f210_8 : fr 210 8 = some (.aload 0, 1, [], []) := by decide +kernel
theorem f210_9 : fr 210 9 = some (.iload 2, 1, [], []) := by decide +kernel
theorem f210_10 : fr 210 10 = some (.invokevirtual 187, 3, [], []) := by decide +kernel
theorem f210_13 : fr 210 13 = some (.ifCond .eq 24, 3, [], [0, 1, 2, 3]) := by decide +kernel
theorem f210_16 : fr 210 16 = some (.aload 0, 1, [], []) := by decide +kernel
theorem f210_17 : fr 210 17 = some (.iload 3, 1, [], []) := by decide +kernel
theorem f210_18 : fr 210 18 = some (.invokevirtual 187, 3, [], []) := by decide +kernel
theorem f210_21 : fr 210 21 = some (.ifCond .ne 26, 3, [0, 1, 2, 3], []) := by decide +kernel
theorem f210_24 : fr 210 24 = some (.iconst (-1), 1, [], []) := by decide +kernel
theorem f210_25 : fr 210 25 = some (.ireturn, 1, [], []) := by decide +kernel
theorem f210_26 : fr 210 26 = some (.iconst (-2), 2, [], []) := by decide +kernel
theorem f210_28 : fr 210 28 = some (.istore 4, 2, [], []) := by decide +kernel
theorem f210_30 : fr 210 30 = some (.jsr_w 0, 1, [], []) := by decide +kernel
theorem f210_31 : fr 210 31 = some (.lstore 5, 2, [], []) := by decide +kernel
theorem f210_33 : fr 210 33 = some (.iconst 0, 1, [], []) := by decide +kernel
theorem f210_34 : fr 210 34 = some (.istore 7, 2, [], []) := by decide +kernel
theorem f210_36 : fr 210 36 = some (.iload 7, 2, [], []) := by decide +kernel
theorem f210_38 : fr 210 38 = some (.aload 0, 1, [], []) := by decide +kernel
theorem f210_39 : fr 210 39 = some (.getfield 11000, 3, [], []) := by decide +kernel
theorem f210_42 : fr 210 42 = some (.if_icmp .ge 118, 3, [], [0, 1, 2, 3, 5, 7]) := by decide +kernel
theorem f210_45 : fr 210 45 = some (.iconst 0, 1, [], []) := by decide +kernel
theorem f210_46 : fr 210 46 = some (.istore 8, 2, [], []) := by decide +kernel
theorem f210_48 : fr 210 48 = some (.iload 8, 2, [], []) := by decide +kernel
theorem f210_50 : fr 210 50 = some (.iconst 8, 2, [], []) := by decide +kernel
theorem f210_52 : fr 210 52 = some (.if_icmp .ge 112, 3, [], [8]) := by decide +kernel
theorem f210_55 : fr 210 55 = some (.aload 0, 1, [], []) := by decide +kernel
theorem f210_56 : fr 210 56 = some (.iload 7, 2, [], []) := by decide +kernel
theorem f210_58 : fr 210 58 = some (.invokevirtual 162, 3, [], []) := by decide +kernel
theorem f210_61 : fr 210 61 = some (.ifCond .ne 112, 3, [], [8]) := by decide +kernel
theorem f210_64 : fr 210 64 = some (.aload 0, 1, [], []) := by decide +kernel
theorem f210_65 : fr 210 65 = some (.iload 1, 1, [], []) := by decide +kernel
theorem f210_66 : fr 210 66 = some (.iload 7, 2, [], []) := by decide +kernel
theorem f210_68 : fr 210 68 = some (.iload 8, 2, [], []) := by decide +kernel
theorem f210_70 : fr 210 70 = some (.iload 2, 1, [], []) := by decide +kernel
theorem f210_71 : fr 210 71 = some (.invokevirtual 188, 3, [], []) := by decide +kernel
theorem f210_74 : fr 210 74 = some (.aload 0, 1, [], []) := by decide +kernel
theorem f210_75 : fr 210 75 = some (.iload 1, 1, [], []) := by decide +kernel
theorem f210_76 : fr 210 76 = some (.iload 7, 2, [], []) := by decide +kernel
theorem f210_78 : fr 210 78 = some (.iload 8, 2, [], []) := by decide +kernel
theorem f210_80 : fr 210 80 = some (.iload 3, 1, [], []) := by decide +kernel
theorem f210_81 : fr 210 81 = some (.invokevirtual 188, 3, [], []) := by decide +kernel
theorem f210_84 : fr 210 84 = some (.lsub, 1, [], []) := by decide +kernel
theorem f210_85 : fr 210 85 = some (.invokestatic 152, 3, [], []) := by decide +kernel
theorem f210_88 : fr 210 88 = some (.lstore 9, 2, [], []) := by decide +kernel
theorem f210_90 : fr 210 90 = some (.lload 9, 2, [], []) := by decide +kernel
theorem f210_92 : fr 210 92 = some (.lload 5, 2, [], []) := by decide +kernel
theorem f210_94 : fr 210 94 = some (.lcmp, 1, [], []) := by decide +kernel
theorem f210_95 : fr 210 95 = some (.ifCond .le 106, 3, [4, 5], [9]) := by decide +kernel
theorem f210_98 : fr 210 98 = some (.iload 7, 2, [], []) := by decide +kernel
theorem f210_100 : fr 210 100 = some (.istore 4, 2, [], []) := by decide +kernel
theorem f210_102 : fr 210 102 = some (.lload 9, 2, [9], []) := by decide +kernel
theorem f210_104 : fr 210 104 = some (.lstore 5, 2, [], []) := by decide +kernel
theorem f210_106 : fr 210 106 = some (.iinc 8 1, 3, [], []) := by decide +kernel
theorem f210_109 : fr 210 109 = some (.goto 48, 3, [], []) := by decide +kernel
theorem f210_112 : fr 210 112 = some (.iinc 7 1, 3, [], []) := by decide +kernel
theorem f210_115 : fr 210 115 = some (.goto 36, 3, [], []) := by decide +kernel
theorem f210_118 : fr 210 118 = some (.iload 4, 2, [4], []) := by decide +kernel
theorem f210_120 : fr 210 120 = some (.ireturn, 1, [], []) := by decide +kernel
theorem t210_0 {X : XX} {d : Nat} {sz sl : Nat} {sh : Nat → Nat × Nat} {R : Nat → Nat → Option Nat} {I : Nat → Nat → Int32} {J : Nat → Nat → Int64} (hS : SF sh R) {l1 : Int32} {l2 : Int32} {l3 : Int32} : exe X d 210 0 [Value.ref 37, Value.int l1, Value.int l2, Value.int l3, dm, dm, dm, dm, dm, dm, dm] [] (sz, sl, sh, R, I, J) =
    ((ev X d 179 [Value.ref 37, Value.int l1] (sz, sl, sh, R, I, J)).bind fun q => exe X d 210 5 [Value.ref 37, Value.int l1, Value.int l2, Value.int l3, dm, dm, dm, dm, dm, dm, dm] (q.1.toList ++ []) q.2) :=
  tq ((E_aload (v := Value.ref 37) rfl rfl f210_0)) (tq ((E_iload (x := l1) rfl f210_1)) ((tq ((E_callV pn_179 pc_179 rfl rfl (Nat.le_of_ble_eq_true rfl) f210_2)) (if_pos (zS37 hS)))))
theorem t210_5 {X : XX} {d : Nat} {sz sl : Nat} {sh : Nat → Nat × Nat} {R : Nat → Nat → Option Nat} {I : Nat → Nat → Int32} {J : Nat → Nat → Int64} (hS : SF sh R) {l1 : Int32} {l2 : Int32} {l3 : Int32} {s0 : Int32} : exe X d 210 5 [Value.ref 37, Value.int l1, Value.int l2, Value.int l3, dm, dm, dm, dm, dm, dm, dm] [Value.int s0] (sz, sl, sh, R, I, J) =
    (if s0 = 0 then some (some (Value.int (-1)), (sz, sl, sh, R, I, J)) else ((ev X d 187 [Value.ref 37, Value.int l2] (sz, sl, sh, R, I, J)).bind fun q => exe X d 210 13 [Value.ref 37, Value.int l1, Value.int l2, Value.int l3, dm, dm, dm, dm, dm, dm, dm] (q.1.toList ++ []) q.2)) :=
  tq ((E_if_eq f210_5)) (ite_c (tq ((E_iconst (x := (-1)) (by decide) f210_24)) ((E_iret pr_210 f210_25))) (tq ((E_aload (v := Value.ref 37) rfl rfl f210_8)) (tq ((E_iload (x := l2) rfl f210_9)) ((tq ((E_callV pn_187 pc_187 rfl rfl (Nat.le_of_ble_eq_true rfl) f210_10)) (if_pos (zS37 hS)))))))
theorem t210_13 {X : XX} {d : Nat} {sz sl : Nat} {sh : Nat → Nat × Nat} {R : Nat → Nat → Option Nat} {I : Nat → Nat → Int32} {J : Nat → Nat → Int64} (hS : SF sh R) {l1 : Int32} {l2 : Int32} {l3 : Int32} {s0 : Int32} : exe X d 210 13 [Value.ref 37, Value.int l1, Value.int l2, Value.int l3, dm, dm, dm, dm, dm, dm, dm] [Value.int s0] (sz, sl, sh, R, I, J) =
    (if s0 = 0 then some (some (Value.int (-1)), (sz, sl, sh, R, I, J)) else ((ev X d 187 [Value.ref 37, Value.int l3] (sz, sl, sh, R, I, J)).bind fun q => exe X d 210 21 [Value.ref 37, Value.int l1, Value.int l2, Value.int l3, dm, dm, dm, dm, dm, dm, dm] (q.1.toList ++ []) q.2)) :=
  tq ((E_if_eq f210_13)) (ite_c (tq ((E_iconst (x := (-1)) (by decide) f210_24)) ((E_iret pr_210 f210_25))) (tq ((E_aload (v := Value.ref 37) rfl rfl f210_16)) (tq ((E_iload (x := l3) rfl f210_17)) ((tq ((E_callV pn_187 pc_187 rfl rfl (Nat.le_of_ble_eq_true rfl) f210_18)) (if_pos (zS37 hS)))))))
theorem t210_21 {X : XX} {d : Nat} {sz sl : Nat} {sh : Nat → Nat × Nat} {R : Nat → Nat → Option Nat} {I : Nat → Nat → Int32} {J : Nat → Nat → Int64} {l1 : Int32} {l2 : Int32} {l3 : Int32} {s0 : Int32} : exe X d 210 21 [Value.ref 37, Value.int l1, Value.int l2, Value.int l3, dm, dm, dm, dm, dm, dm, dm] [Value.int s0] (sz, sl, sh, R, I, J) =
    (if ¬ s0 = 0 then exe X d 210 36 [Value.ref 37, Value.int l1, Value.int l2, Value.int l3, Value.int (-2), Value.long (0), dm, Value.int (0), dm, dm, dm] [] (sz, sl, sh, R, I, J) else some (some (Value.int (-1)), (sz, sl, sh, R, I, J))) :=
  tq ((E_if_ne f210_21)) (ite_c (tq ((E_iconst (x := (-2)) (by decide) f210_26)) (tq ((E_istore rfl f210_28)) (tq ((E_lconst (x := (0)) (by decide) f210_30)) (tq ((E_lstore rfl (Nat.le_of_ble_eq_true rfl) f210_31)) (tq ((E_iconst (x := (0)) (by decide) f210_33)) ((E_istore rfl f210_34))))))) (tq ((E_iconst (x := (-1)) (by decide) f210_24)) ((E_iret pr_210 f210_25))))
theorem t210_36 {X : XX} {d : Nat} {sz sl : Nat} {sh : Nat → Nat × Nat} {R : Nat → Nat → Option Nat} {I : Nat → Nat → Int32} {J : Nat → Nat → Int64} (hS : SF sh R) {l1 : Int32} {l2 : Int32} {l3 : Int32} {l4 : Int32} {l5 : Int64} {l7 : Int32} : exe X d 210 36 [Value.ref 37, Value.int l1, Value.int l2, Value.int l3, Value.int l4, Value.long l5, dm, Value.int l7, dm, dm, dm] [] (sz, sl, sh, R, I, J) =
    (if (I 37 0) ≤ l7 then some (some (Value.int l4), (sz, sl, sh, R, I, J)) else exe X d 210 48 [Value.ref 37, Value.int l1, Value.int l2, Value.int l3, Value.int l4, Value.long l5, dm, Value.int l7, Value.int (0), dm, dm] [] (sz, sl, sh, R, I, J)) :=
  tq ((E_iload (x := l7) rfl f210_36)) (tq ((E_aload (v := Value.ref 37) rfl rfl f210_38)) (tq (tq ((G11000 f210_39)) (if_pos (zS37 hS))) (tq ((E_ic_ge f210_42)) (ite_c (tq ((E_iload (x := l4) rfl f210_118)) ((E_iret pr_210 f210_120))) (tq ((E_iconst (x := (0)) (by decide) f210_45)) ((E_istore rfl f210_46)))))))
theorem t210_48 {X : XX} {d : Nat} {sz sl : Nat} {sh : Nat → Nat × Nat} {R : Nat → Nat → Option Nat} {I : Nat → Nat → Int32} {J : Nat → Nat → Int64} (hS : SF sh R) {l1 : Int32} {l2 : Int32} {l3 : Int32} {l4 : Int32} {l5 : Int64} {l7 : Int32} {l8 : Int32} : exe X d 210 48 [Value.ref 37, Value.int l1, Value.int l2, Value.int l3, Value.int l4, Value.long l5, dm, Value.int l7, Value.int l8, dm, dm] [] (sz, sl, sh, R, I, J) =
    (if (8) ≤ l8 then exe X d 210 36 [Value.ref 37, Value.int l1, Value.int l2, Value.int l3, Value.int l4, Value.long l5, dm, Value.int (l7 + (1)), dm, dm, dm] [] (sz, sl, sh, R, I, J) else ((ev X d 162 [Value.ref 37, Value.int l7] (sz, sl, sh, R, I, J)).bind fun q => exe X d 210 61 [Value.ref 37, Value.int l1, Value.int l2, Value.int l3, Value.int l4, Value.long l5, dm, Value.int l7, Value.int l8, dm, dm] (q.1.toList ++ []) q.2)) :=
  tq ((E_iload (x := l8) rfl f210_48)) (tq ((E_iconst (x := (8)) (by decide) f210_50)) (tq ((E_ic_ge f210_52)) (ite_c (tq ((E_iinc (x := l7) (x' := (1)) rfl rfl (by decide) f210_112)) ((E_goto f210_115))) (tq ((E_aload (v := Value.ref 37) rfl rfl f210_55)) (tq ((E_iload (x := l7) rfl f210_56)) ((tq ((E_callV pn_162 pc_162 rfl rfl (Nat.le_of_ble_eq_true rfl) f210_58)) (if_pos (zS37 hS)))))))))
theorem t210_61 {X : XX} {d : Nat} {sz sl : Nat} {sh : Nat → Nat × Nat} {R : Nat → Nat → Option Nat} {I : Nat → Nat → Int32} {J : Nat → Nat → Int64} (hS : SF sh R) {l1 : Int32} {l2 : Int32} {l3 : Int32} {l4 : Int32} {l5 : Int64} {l7 : Int32} {l8 : Int32} {s0 : Int32} : exe X d 210 61 [Value.ref 37, Value.int l1, Value.int l2, Value.int l3, Value.int l4, Value.long l5, dm, Value.int l7, Value.int l8, dm, dm] [Value.int s0] (sz, sl, sh, R, I, J) =
    (if ¬ s0 = 0 then exe X d 210 36 [Value.ref 37, Value.int l1, Value.int l2, Value.int l3, Value.int l4, Value.long l5, dm, Value.int (l7 + (1)), dm, dm, dm] [] (sz, sl, sh, R, I, J) else ((ev X d 188 [Value.ref 37, Value.int l1, Value.int l7, Value.int l8, Value.int l2] (sz, sl, sh, R, I, J)).bind fun q => exe X d 210 74 [Value.ref 37, Value.int l1, Value.int l2, Value.int l3, Value.int l4, Value.long l5, dm, Value.int l7, Value.int l8, dm, dm] (q.1.toList ++ []) q.2)) :=
  tq ((E_if_ne f210_61)) (ite_c (tq ((E_iinc (x := l7) (x' := (1)) rfl rfl (by decide) f210_112)) ((E_goto f210_115))) (tq ((E_aload (v := Value.ref 37) rfl rfl f210_64)) (tq ((E_iload (x := l1) rfl f210_65)) (tq ((E_iload (x := l7) rfl f210_66)) (tq ((E_iload (x := l8) rfl f210_68)) (tq ((E_iload (x := l2) rfl f210_70)) ((tq ((E_callV pn_188 pc_188 rfl rfl (Nat.le_of_ble_eq_true rfl) f210_71)) (if_pos (zS37 hS))))))))))
theorem t210_74 {X : XX} {d : Nat} {sz sl : Nat} {sh : Nat → Nat × Nat} {R : Nat → Nat → Option Nat} {I : Nat → Nat → Int32} {J : Nat → Nat → Int64} (hS : SF sh R) {l1 : Int32} {l2 : Int32} {l3 : Int32} {l4 : Int32} {l5 : Int64} {l7 : Int32} {l8 : Int32} {s0 : Int64} : exe X d 210 74 [Value.ref 37, Value.int l1, Value.int l2, Value.int l3, Value.int l4, Value.long l5, dm, Value.int l7, Value.int l8, dm, dm] [Value.long s0] (sz, sl, sh, R, I, J) =
    ((ev X d 188 [Value.ref 37, Value.int l1, Value.int l7, Value.int l8, Value.int l3] (sz, sl, sh, R, I, J)).bind fun q => exe X d 210 84 [Value.ref 37, Value.int l1, Value.int l2, Value.int l3, Value.int l4, Value.long l5, dm, Value.int l7, Value.int l8, dm, dm] (q.1.toList ++ [Value.long s0]) q.2) :=
  tq ((E_aload (v := Value.ref 37) rfl rfl f210_74)) (tq ((E_iload (x := l1) rfl f210_75)) (tq ((E_iload (x := l7) rfl f210_76)) (tq ((E_iload (x := l8) rfl f210_78)) (tq ((E_iload (x := l3) rfl f210_80)) ((tq ((E_callV pn_188 pc_188 rfl rfl (Nat.le_of_ble_eq_true rfl) f210_81)) (if_pos (zS37 hS))))))))
theorem t210_84 {X : XX} {d : Nat} {sz sl : Nat} {sh : Nat → Nat × Nat} {R : Nat → Nat → Option Nat} {I : Nat → Nat → Int32} {J : Nat → Nat → Int64} {l1 : Int32} {l2 : Int32} {l3 : Int32} {l4 : Int32} {l5 : Int64} {l7 : Int32} {l8 : Int32} {s0 : Int64} {s1 : Int64} : exe X d 210 84 [Value.ref 37, Value.int l1, Value.int l2, Value.int l3, Value.int l4, Value.long l5, dm, Value.int l7, Value.int l8, dm, dm] [Value.long s0, Value.long s1] (sz, sl, sh, R, I, J) =
    ((ev X d 152 [Value.long (s1 - s0)] (sz, sl, sh, R, I, J)).bind fun q => exe X d 210 88 [Value.ref 37, Value.int l1, Value.int l2, Value.int l3, Value.int l4, Value.long l5, dm, Value.int l7, Value.int l8, dm, dm] (q.1.toList ++ []) q.2) :=
  tq ((E_lsub f210_84)) ((E_callS pn_152 rfl rfl (Nat.le_of_ble_eq_true rfl) (Nat.le_of_ble_eq_true rfl) f210_85))
theorem t210_88 {X : XX} {d : Nat} {sz sl : Nat} {sh : Nat → Nat × Nat} {R : Nat → Nat → Option Nat} {I : Nat → Nat → Int32} {J : Nat → Nat → Int64} {l1 : Int32} {l2 : Int32} {l3 : Int32} {l4 : Int32} {l5 : Int64} {l7 : Int32} {l8 : Int32} {s0 : Int64} : exe X d 210 88 [Value.ref 37, Value.int l1, Value.int l2, Value.int l3, Value.int l4, Value.long l5, dm, Value.int l7, Value.int l8, dm, dm] [Value.long s0] (sz, sl, sh, R, I, J) =
    (if (lg_cmp s0 l5) ≤ 0 then exe X d 210 48 [Value.ref 37, Value.int l1, Value.int l2, Value.int l3, Value.int l4, Value.long l5, dm, Value.int l7, Value.int (l8 + (1)), dm, dm] [] (sz, sl, sh, R, I, J) else exe X d 210 48 [Value.ref 37, Value.int l1, Value.int l2, Value.int l3, Value.int l7, Value.long s0, dm, Value.int l7, Value.int (l8 + (1)), dm, dm] [] (sz, sl, sh, R, I, J)) :=
  tq ((E_lstore rfl (Nat.le_of_ble_eq_true rfl) f210_88)) (tq ((E_lload (x := s0) rfl f210_90)) (tq ((E_lload (x := l5) rfl f210_92)) (tq ((E_lcmp f210_94)) (tq ((E_if_le f210_95)) (ite_c (tq ((E_iinc (x := l8) (x' := (1)) rfl rfl (by decide) f210_106)) ((E_goto f210_109))) (tq ((E_iload (x := l7) rfl f210_98)) (tq ((E_istore rfl f210_100)) (tq ((E_lload (x := s0) rfl f210_102)) (tq ((E_lstore rfl (Nat.le_of_ble_eq_true rfl) f210_104)) (tq ((E_iinc (x := l8) (x' := (1)) rfl rfl (by decide) f210_106)) ((E_goto f210_109))))))))))))
theorem n210 {X : XX} {d : Nat} {h : HP} {a0 : Int32} {a1 : Int32} {a2 : Int32} : ev X (d + 1) 210 [Value.ref 37, Value.int a0, Value.int a1, Value.int a2] h = exe X d 210 0 [Value.ref 37, Value.int a0, Value.int a1, Value.int a2, dm, dm, dm, dm, dm, dm, dm] [] h := ev_exe (Nat.le_of_ble_eq_true rfl)
theorem f211_0 : fr 211 0 = some (.aload 0, 1, [], []) := by decide +kernel
theorem f211_1 : fr 211 1 = some (.iload 1, 1, [], []) := by decide +kernel
theorem f211_2 : fr 211 2 = some (.invokevirtual 179, 3, [], []) := by decide +kernel
theorem f211_5 : fr 211 5 = some (.ifCond .eq 27, 3, [], [0, 1, 2, 3]) := by decide +kernel
theorem f211_8 : fr 211 8 = some (.iload 2, 1, [], []) := by decide +kernel
theorem f211_9 : fr 211 9 = some (.iconst 0, 1, [], []) := by decide +kernel
theorem f211_10 : fr 211 10 = some (.iconst 7, 2, [], []) := by decide +kernel
theorem f211_12 : fr 211 12 = some (.invokestatic 148, 3, [], []) := by decide +kernel
theorem f211_15 : fr 211 15 = some (.ifCond .eq 27, 3, [], [0, 1, 2, 3]) := by decide +kernel
theorem f211_18 : fr 211 18 = some (.iload 3, 1, [], []) := by decide +kernel
theorem f211_19 : fr 211 19 = some (.iconst 0, 1, [], []) := by decide +kernel
theorem f211_20 : fr 211 20 = some (.iconst 1, 1, [], []) := by decide +kernel
theorem f211_21 : fr 211 21 = some (.invokestatic 148, 3, [], []) := by decide +kernel
theorem f211_24 : fr 211 24 = some (.ifCond .ne 29, 3, [0, 1, 2, 3], []) := by decide +kernel
theorem f211_27 : fr 211 27 = some (.iconst (-1), 1, [], []) := by decide +kernel
theorem f211_28 : fr 211 28 = some (.ireturn, 1, [], []) := by decide +kernel
theorem f211_29 : fr 211 29 = some (.iconst (-2), 2, [], []) := by decide +kernel
theorem f211_31 : fr 211 31 = some (.istore 4, 2, [], []) := by decide +kernel
theorem f211_33 : fr 211 33 = some (.iconst 0, 1, [], []) := by decide +kernel
theorem f211_34 : fr 211 34 = some (.istore 5, 2, [], []) := by decide +kernel
theorem f211_36 : fr 211 36 = some (.iconst 0, 1, [], []) := by decide +kernel
theorem f211_37 : fr 211 37 = some (.istore 6, 2, [], []) := by decide +kernel
theorem f211_39 : fr 211 39 = some (.iload 6, 2, [], []) := by decide +kernel
theorem f211_41 : fr 211 41 = some (.aload 0, 1, [], []) := by decide +kernel
theorem f211_42 : fr 211 42 = some (.getfield 11000, 3, [], []) := by decide +kernel
theorem f211_45 : fr 211 45 = some (.if_icmp .ge 77, 3, [], [6]) := by decide +kernel
theorem f211_48 : fr 211 48 = some (.aload 0, 1, [], []) := by decide +kernel
theorem f211_49 : fr 211 49 = some (.iload 6, 2, [], []) := by decide +kernel
theorem f211_51 : fr 211 51 = some (.invokevirtual 151, 3, [], []) := by decide +kernel
theorem f211_54 : fr 211 54 = some (.iload 5, 2, [], []) := by decide +kernel
theorem f211_56 : fr 211 56 = some (.if_icmp .le 71, 3, [4, 5], []) := by decide +kernel
theorem f211_59 : fr 211 59 = some (.iload 6, 2, [], []) := by decide +kernel
theorem f211_61 : fr 211 61 = some (.istore 4, 2, [], []) := by decide +kernel
theorem f211_63 : fr 211 63 = some (.aload 0, 1, [], []) := by decide +kernel
theorem f211_64 : fr 211 64 = some (.iload 6, 2, [], []) := by decide +kernel
theorem f211_66 : fr 211 66 = some (.invokevirtual 151, 3, [], []) := by decide +kernel
theorem f211_69 : fr 211 69 = some (.istore 5, 2, [], []) := by decide +kernel
theorem f211_71 : fr 211 71 = some (.iinc 6 1, 3, [], []) := by decide +kernel
theorem f211_74 : fr 211 74 = some (.goto 39, 3, [], []) := by decide +kernel
theorem f211_77 : fr 211 77 = some (.iload 4, 2, [], []) := by decide +kernel
theorem f211_79 : fr 211 79 = some (.iconst (-2), 2, [], []) := by decide +kernel
theorem f211_81 : fr 211 81 = some (.if_icmp .eq 88, 3, [], [0, 1, 2, 3, 5]) := by decide +kernel
theorem f211_84 : fr 211 84 = some (.iload 3, 1, [3], []) := by decide +kernel
theorem f211_85 : fr 211 85 = some (.ifCond .ne 91, 3, [0, 1, 2, 5], []) := by decide +kernel
theorem f211_88 : fr 211 88 = some (.iload 4, 2, [4], []) := by decide +kernel
theorem f211_90 : fr 211 90 = some (.ireturn, 1, [], []) := by decide +kernel
theorem f211_91 : fr 211 91 = some (.aload 0, 1, [], []) := by decide +kernel
theorem f211_92 : fr 211 92 = some (.iload 1, 1, [], []) := by decide +kernel
theorem f211_93 : fr 211 93 = some (.iload 4, 2, [], []) := by decide +kernel
theorem f211_95 : fr 211 95 = some (.iload 2, 1, [], []) := by decide +kernel
theorem f211_96 : fr 211 96 = some (.iload 2, 1, [], []) := by decide +kernel
theorem f211_97 : fr 211 97 = some (.iconst 1, 1, [], []) := by decide +kernel
theorem f211_98 : fr 211 98 = some (.iconst 0, 1, [], []) := by decide +kernel
theorem f211_99 : fr 211 99 = some (.iconst 0, 1, [], []) := by decide +kernel
theorem f211_100 : fr 211 100 = some (.iconst 0, 1, [], []) := by decide +kernel
theorem f211_101 : fr 211 101 = some (.invokevirtual 181, 3, [], []) := by decide +kernel
theorem f211_104 : fr 211 104 = some (.istore 6, 2, [], []) := by decide +kernel
theorem f211_106 : fr 211 106 = some (.aload 0, 1, [0], []) := by decide +kernel
theorem f211_107 : fr 211 107 = some (.iload 1, 1, [1], []) := by decide +kernel
theorem f211_108 : fr 211 108 = some (.iload 4, 2, [4], []) := by decide +kernel
theorem f211_110 : fr 211 110 = some (.iload 2, 1, [], []) := by decide +kernel
theorem f211_111 : fr 211 111 = some (.iload 2, 1, [2], []) := by decide +kernel
theorem f211_112 : fr 211 112 = some (.iconst 1, 1, [], []) := by decide +kernel
theorem f211_113 : fr 211 113 = some (.iconst 0, 1, [], []) := by decide +kernel
theorem f211_114 : fr 211 114 = some (.iconst 0, 1, [], []) := by decide +kernel
theorem f211_115 : fr 211 115 = some (.iload 5, 2, [5], []) := by decide +kernel
theorem f211_117 : fr 211 117 = some (.invokevirtual 181, 3, [], []) := by decide +kernel
theorem f211_120 : fr 211 120 = some (.iload 6, 2, [], []) := by decide +kernel
theorem f211_122 : fr 211 122 = some (.isub, 1, [], []) := by decide +kernel
theorem f211_123 : fr 211 123 = some (.istore 7, 2, [], []) := by decide +kernel
theorem f211_125 : fr 211 125 = some (.iload 6, 2, [], []) := by decide +kernel
theorem f211_127 : fr 211 127 = some (.ifCond .ne 134, 3, [6, 7], []) := by decide +kernel
theorem f211_130 : fr 211 130 = some (.iconst 0, 1, [], []) := by decide +kernel
theorem f211_131 : fr 211 131 = some (.goto 143, 3, [], []) := by decide +kernel
theorem f211_134 : fr 211 134 = some (.iconst 1000, 3, [], []) := by decide +kernel
theorem f211_137 : fr 211 137 = some (.iload 7, 2, [7], []) := by decide +kernel
theorem f211_139 : fr 211 139 = some (.imul, 1, [], []) := by decide +kernel
theorem f211_140 : fr 211 140 = some (.iload 6, 2, [6], []) := by decide +kernel
theorem f211_142 : fr 211 142 = some (.idiv, 1, [], []) := by decide +kernel
theorem f211_143 : fr 211 143 = some (.ireturn, 1, [], []) := by decide +kernel
theorem t211_0 {X : XX} {d : Nat} {sz sl : Nat} {sh : Nat → Nat × Nat} {R : Nat → Nat → Option Nat} {I : Nat → Nat → Int32} {J : Nat → Nat → Int64} (hS : SF sh R) {l1 : Int32} {l2 : Int32} {l3 : Int32} : exe X d 211 0 [Value.ref 37, Value.int l1, Value.int l2, Value.int l3, dm, dm, dm, dm] [] (sz, sl, sh, R, I, J) =
    ((ev X d 179 [Value.ref 37, Value.int l1] (sz, sl, sh, R, I, J)).bind fun q => exe X d 211 5 [Value.ref 37, Value.int l1, Value.int l2, Value.int l3, dm, dm, dm, dm] (q.1.toList ++ []) q.2) :=
  tq ((E_aload (v := Value.ref 37) rfl rfl f211_0)) (tq ((E_iload (x := l1) rfl f211_1)) ((tq ((E_callV pn_179 pc_179 rfl rfl (Nat.le_of_ble_eq_true rfl) f211_2)) (if_pos (zS37 hS)))))
theorem t211_5 {X : XX} {d : Nat} {sz sl : Nat} {sh : Nat → Nat × Nat} {R : Nat → Nat → Option Nat} {I : Nat → Nat → Int32} {J : Nat → Nat → Int64} {l1 : Int32} {l2 : Int32} {l3 : Int32} {s0 : Int32} : exe X d 211 5 [Value.ref 37, Value.int l1, Value.int l2, Value.int l3, dm, dm, dm, dm] [Value.int s0] (sz, sl, sh, R, I, J) =
    (if s0 = 0 then some (some (Value.int (-1)), (sz, sl, sh, R, I, J)) else ((ev X d 148 [Value.int l2, Value.int (0), Value.int (7)] (sz, sl, sh, R, I, J)).bind fun q => exe X d 211 15 [Value.ref 37, Value.int l1, Value.int l2, Value.int l3, dm, dm, dm, dm] (q.1.toList ++ []) q.2)) :=
  tq ((E_if_eq f211_5)) (ite_c (tq ((E_iconst (x := (-1)) (by decide) f211_27)) ((E_iret pr_211 f211_28))) (tq ((E_iload (x := l2) rfl f211_8)) (tq ((E_iconst (x := (0)) (by decide) f211_9)) (tq ((E_iconst (x := (7)) (by decide) f211_10)) ((E_callS pn_148 rfl rfl (Nat.le_of_ble_eq_true rfl) (Nat.le_of_ble_eq_true rfl) f211_12))))))
theorem t211_15 {X : XX} {d : Nat} {sz sl : Nat} {sh : Nat → Nat × Nat} {R : Nat → Nat → Option Nat} {I : Nat → Nat → Int32} {J : Nat → Nat → Int64} {l1 : Int32} {l2 : Int32} {l3 : Int32} {s0 : Int32} : exe X d 211 15 [Value.ref 37, Value.int l1, Value.int l2, Value.int l3, dm, dm, dm, dm] [Value.int s0] (sz, sl, sh, R, I, J) =
    (if s0 = 0 then some (some (Value.int (-1)), (sz, sl, sh, R, I, J)) else ((ev X d 148 [Value.int l3, Value.int (0), Value.int (1)] (sz, sl, sh, R, I, J)).bind fun q => exe X d 211 24 [Value.ref 37, Value.int l1, Value.int l2, Value.int l3, dm, dm, dm, dm] (q.1.toList ++ []) q.2)) :=
  tq ((E_if_eq f211_15)) (ite_c (tq ((E_iconst (x := (-1)) (by decide) f211_27)) ((E_iret pr_211 f211_28))) (tq ((E_iload (x := l3) rfl f211_18)) (tq ((E_iconst (x := (0)) (by decide) f211_19)) (tq ((E_iconst (x := (1)) (by decide) f211_20)) ((E_callS pn_148 rfl rfl (Nat.le_of_ble_eq_true rfl) (Nat.le_of_ble_eq_true rfl) f211_21))))))
theorem t211_24 {X : XX} {d : Nat} {sz sl : Nat} {sh : Nat → Nat × Nat} {R : Nat → Nat → Option Nat} {I : Nat → Nat → Int32} {J : Nat → Nat → Int64} {l1 : Int32} {l2 : Int32} {l3 : Int32} {s0 : Int32} : exe X d 211 24 [Value.ref 37, Value.int l1, Value.int l2, Value.int l3, dm, dm, dm, dm] [Value.int s0] (sz, sl, sh, R, I, J) =
    (if ¬ s0 = 0 then exe X d 211 39 [Value.ref 37, Value.int l1, Value.int l2, Value.int l3, Value.int (-2), Value.int (0), Value.int (0), dm] [] (sz, sl, sh, R, I, J) else some (some (Value.int (-1)), (sz, sl, sh, R, I, J))) :=
  tq ((E_if_ne f211_24)) (ite_c (tq ((E_iconst (x := (-2)) (by decide) f211_29)) (tq ((E_istore rfl f211_31)) (tq ((E_iconst (x := (0)) (by decide) f211_33)) (tq ((E_istore rfl f211_34)) (tq ((E_iconst (x := (0)) (by decide) f211_36)) ((E_istore rfl f211_37))))))) (tq ((E_iconst (x := (-1)) (by decide) f211_27)) ((E_iret pr_211 f211_28))))
theorem t211_39 {X : XX} {d : Nat} {sz sl : Nat} {sh : Nat → Nat × Nat} {R : Nat → Nat → Option Nat} {I : Nat → Nat → Int32} {J : Nat → Nat → Int64} (hS : SF sh R) {l1 : Int32} {l2 : Int32} {l3 : Int32} {l4 : Int32} {l5 : Int32} {l6 : Int32} : exe X d 211 39 [Value.ref 37, Value.int l1, Value.int l2, Value.int l3, Value.int l4, Value.int l5, Value.int l6, dm] [] (sz, sl, sh, R, I, J) =
    (if (I 37 0) ≤ l6 then (if l4 = (-2) then some (some (Value.int l4), (sz, sl, sh, R, I, J)) else (if ¬ l3 = 0 then ((ev X d 181 [Value.ref 37, Value.int l1, Value.int l4, Value.int l2, Value.int l2, Value.int (1), Value.int (0), Value.int (0), Value.int (0)] (sz, sl, sh, R, I, J)).bind fun q => exe X d 211 104 [Value.ref 37, Value.int l1, Value.int l2, dm, Value.int l4, Value.int l5, dm, dm] (q.1.toList ++ []) q.2) else some (some (Value.int l4), (sz, sl, sh, R, I, J)))) else ((ev X d 151 [Value.ref 37, Value.int l6] (sz, sl, sh, R, I, J)).bind fun q => exe X d 211 54 [Value.ref 37, Value.int l1, Value.int l2, Value.int l3, Value.int l4, Value.int l5, Value.int l6, dm] (q.1.toList ++ []) q.2)) :=
  tq ((E_iload (x := l6) rfl f211_39)) (tq ((E_aload (v := Value.ref 37) rfl rfl f211_41)) (tq (tq ((G11000 f211_42)) (if_pos (zS37 hS))) (tq ((E_ic_ge f211_45)) (ite_c (tq ((E_iload (x := l4) rfl f211_77)) (tq ((E_iconst (x := (-2)) (by decide) f211_79)) (tq ((E_ic_eq f211_81)) (ite_c (tq ((E_iload (x := l4) rfl f211_88)) ((E_iret pr_211 f211_90))) (tq ((E_iload (x := l3) rfl f211_84)) (tq ((E_if_ne f211_85)) (ite_c (tq ((E_aload (v := Value.ref 37) rfl rfl f211_91)) (tq ((E_iload (x := l1) rfl f211_92)) (tq ((E_iload (x := l4) rfl f211_93)) (tq ((E_iload (x := l2) rfl f211_95)) (tq ((E_iload (x := l2) rfl f211_96)) (tq ((E_iconst (x := (1)) (by decide) f211_97)) (tq ((E_iconst (x := (0)) (by decide) f211_98)) (tq ((E_iconst (x := (0)) (by decide) f211_99)) (tq ((E_iconst (x := (0)) (by decide) f211_100)) ((tq ((E_callV pn_181 pc_181 rfl rfl (Nat.le_of_ble_eq_true rfl) f211_101)) (if_pos (zS37 hS))))))))))))) (tq ((E_iload (x := l4) rfl f211_88)) ((E_iret pr_211 f211_90)))))))))) (tq ((E_aload (v := Value.ref 37) rfl rfl f211_48)) (tq ((E_iload (x := l6) rfl f211_49)) ((tq ((E_callV pn_151 pc_151 rfl rfl (Nat.le_of_ble_eq_true rfl) f211_51)) (if_pos (zS37 hS))))))))))
theorem t211_54 {X : XX} {d : Nat} {sz sl : Nat} {sh : Nat → Nat × Nat} {R : Nat → Nat → Option Nat} {I : Nat → Nat → Int32} {J : Nat → Nat → Int64} (hS : SF sh R) {l1 : Int32} {l2 : Int32} {l3 : Int32} {l4 : Int32} {l5 : Int32} {l6 : Int32} {s0 : Int32} : exe X d 211 54 [Value.ref 37, Value.int l1, Value.int l2, Value.int l3, Value.int l4, Value.int l5, Value.int l6, dm] [Value.int s0] (sz, sl, sh, R, I, J) =
    (if s0 ≤ l5 then exe X d 211 39 [Value.ref 37, Value.int l1, Value.int l2, Value.int l3, Value.int l4, Value.int l5, Value.int (l6 + (1)), dm] [] (sz, sl, sh, R, I, J) else ((ev X d 151 [Value.ref 37, Value.int l6] (sz, sl, sh, R, I, J)).bind fun q => exe X d 211 69 [Value.ref 37, Value.int l1, Value.int l2, Value.int l3, Value.int l6, dm, Value.int l6, dm] (q.1.toList ++ []) q.2)) :=
  tq ((E_iload (x := l5) rfl f211_54)) (tq ((E_ic_le f211_56)) (ite_c (tq ((E_iinc (x := l6) (x' := (1)) rfl rfl (by decide) f211_71)) ((E_goto f211_74))) (tq ((E_iload (x := l6) rfl f211_59)) (tq ((E_istore rfl f211_61)) (tq ((E_aload (v := Value.ref 37) rfl rfl f211_63)) (tq ((E_iload (x := l6) rfl f211_64)) ((tq ((E_callV pn_151 pc_151 rfl rfl (Nat.le_of_ble_eq_true rfl) f211_66)) (if_pos (zS37 hS))))))))))
theorem t211_69 {X : XX} {d : Nat} {sz sl : Nat} {sh : Nat → Nat × Nat} {R : Nat → Nat → Option Nat} {I : Nat → Nat → Int32} {J : Nat → Nat → Int64} {l1 : Int32} {l2 : Int32} {l3 : Int32} {l4 : Int32} {l6 : Int32} {s0 : Int32} : exe X d 211 69 [Value.ref 37, Value.int l1, Value.int l2, Value.int l3, Value.int l4, dm, Value.int l6, dm] [Value.int s0] (sz, sl, sh, R, I, J) =
    exe X d 211 39 [Value.ref 37, Value.int l1, Value.int l2, Value.int l3, Value.int l4, Value.int s0, Value.int (l6 + (1)), dm] [] (sz, sl, sh, R, I, J) :=
  tq ((E_istore rfl f211_69)) (tq ((E_iinc (x := l6) (x' := (1)) rfl rfl (by decide) f211_71)) ((E_goto f211_74)))
theorem t211_104 {X : XX} {d : Nat} {sz sl : Nat} {sh : Nat → Nat × Nat} {R : Nat → Nat → Option Nat} {I : Nat → Nat → Int32} {J : Nat → Nat → Int64} (hS : SF sh R) {l1 : Int32} {l2 : Int32} {l4 : Int32} {l5 : Int32} {s0 : Int32} : exe X d 211 104 [Value.ref 37, Value.int l1, Value.int l2, dm, Value.int l4, Value.int l5, dm, dm] [Value.int s0] (sz, sl, sh, R, I, J) =
    ((ev X d 181 [Value.ref 37, Value.int l1, Value.int l4, Value.int l2, Value.int l2, Value.int (1), Value.int (0), Value.int (0), Value.int l5] (sz, sl, sh, R, I, J)).bind fun q => exe X d 211 120 [dm, dm, dm, dm, dm, dm, Value.int s0, dm] (q.1.toList ++ []) q.2) :=
  tq ((E_istore rfl f211_104)) (tq ((E_aload (v := Value.ref 37) rfl rfl f211_106)) (tq ((E_iload (x := l1) rfl f211_107)) (tq ((E_iload (x := l4) rfl f211_108)) (tq ((E_iload (x := l2) rfl f211_110)) (tq ((E_iload (x := l2) rfl f211_111)) (tq ((E_iconst (x := (1)) (by decide) f211_112)) (tq ((E_iconst (x := (0)) (by decide) f211_113)) (tq ((E_iconst (x := (0)) (by decide) f211_114)) (tq ((E_iload (x := l5) rfl f211_115)) ((tq ((E_callV pn_181 pc_181 rfl rfl (Nat.le_of_ble_eq_true rfl) f211_117)) (if_pos (zS37 hS)))))))))))))
theorem t211_120 {X : XX} {d : Nat} {sz sl : Nat} {sh : Nat → Nat × Nat} {R : Nat → Nat → Option Nat} {I : Nat → Nat → Int32} {J : Nat → Nat → Int64} {l6 : Int32} {s0 : Int32} : exe X d 211 120 [dm, dm, dm, dm, dm, dm, Value.int l6, dm] [Value.int s0] (sz, sl, sh, R, I, J) =
    (if ¬ l6 = 0 then (if l6 = 0 then none else some (some (Value.int (((1000) * (s0 - l6)) / l6)), (sz, sl, sh, R, I, J))) else some (some (Value.int (0)), (sz, sl, sh, R, I, J))) :=
  tq ((E_iload (x := l6) rfl f211_120)) (tq ((E_isub f211_122)) (tq ((E_istore rfl f211_123)) (tq ((E_iload (x := l6) rfl f211_125)) (tq ((E_if_ne f211_127)) (ite_c (tq ((E_iconst (x := (1000)) (by decide) f211_134)) (tq ((E_iload (x := (s0 - l6)) rfl f211_137)) (tq ((E_imul f211_139)) (tq ((E_iload (x := l6) rfl f211_140)) (tq (E_idiv' f211_142) (ite_c rfl ((E_iret pr_211 f211_143)))))))) (tq ((E_iconst (x := (0)) (by decide) f211_130)) (tq ((E_goto f211_131)) ((E_iret pr_211 f211_143)))))))))
theorem n211 {X : XX} {d : Nat} {h : HP} {a0 : Int32} {a1 : Int32} {a2 : Int32} : ev X (d + 1) 211 [Value.ref 37, Value.int a0, Value.int a1, Value.int a2] h = exe X d 211 0 [Value.ref 37, Value.int a0, Value.int a1, Value.int a2, dm, dm, dm, dm] [] h := ev_exe (Nat.le_of_ble_eq_true rfl)
theorem f212_0 : fr 212 0 = some (.iload 1, 1, [], []) := by decide +kernel
theorem f212_1 : fr 212 1 = some (.iconst 0, 1, [], []) := by decide +kernel
theorem f212_2 : fr 212 2 = some (.iconst 9999, 3, [], []) := by decide +kernel
theorem f212_5 : fr 212 5 = some (.invokestatic 148, 3, [], []) := by decide +kernel
theorem f212_8 : fr 212 8 = some (.ifCond .ne 13, 3, [0, 1], []) := by decide +kernel
theorem f212_11 : fr 212 11 = some (.iconst (-1), 1, [], []) := by decide +kernel
theorem f212_12 : fr 212 12 = some (.ireturn, 1, [], []) := by decide +kernel
theorem f212_13 : fr 212 13 = some (.aload 0, 1, [], []) := by decide +kernel
theorem f212_14 : fr 212 14 = some (.getfield 11021, 3, [], []) := by decide +kernel
theorem f212_17 : fr 212 17 = some (.iconst 30, 2, [], []) := by decide +kernel
theorem f212_19 : fr 212 19 = some (.if_icmp .ne 25, 3, [0, 1], []) := by decide +kernel
theorem f212_22 : fr 212 22 = some (.iconst (-3), 2, [], []) := by decide +kernel
theorem f212_24 : fr 212 24 = some (.ireturn, 1, [], []) := by decide +kernel
theorem f212_25 : fr 212 25 = some (.aload 0, 1, [], []) := by decide +kernel
theorem f212_26 : fr 212 26 = some (.getfield 11022, 3, [], []) := by decide +kernel
theorem f212_29 : fr 212 29 = some (.aload 0, 1, [], []) := by decide +kernel
theorem f212_30 : fr 212 30 = some (.getfield 11021, 3, [], []) := by decide +kernel
theorem f212_33 : fr 212 33 = some (.iload 1, 1, [1], []) := by decide +kernel
theorem f212_34 : fr 212 34 = some (.iastore, 1, [], []) := by decide +kernel
theorem f212_35 : fr 212 35 = some (.aload 0, 1, [], []) := by decide +kernel
theorem f212_36 : fr 212 36 = some (.dup, 1, [], []) := by decide +kernel
theorem f212_37 : fr 212 37 = some (.getfield 11021, 3, [], []) := by decide +kernel
theorem f212_40 : fr 212 40 = some (.iconst 1, 1, [], []) := by decide +kernel
theorem f212_41 : fr 212 41 = some (.iadd, 1, [], []) := by decide +kernel
theorem f212_42 : fr 212 42 = some (.putfield 11021, 3, [], []) := by decide +kernel
theorem f212_45 : fr 212 45 = some (.aload 0, 1, [0], []) := by decide +kernel
theorem f212_46 : fr 212 46 = some (.getfield 11021, 3, [], []) := by decide +kernel
theorem f212_49 : fr 212 49 = some (.ireturn, 1, [], []) := by decide +kernel
theorem t212_0 {X : XX} {d : Nat} {sz sl : Nat} {sh : Nat → Nat × Nat} {R : Nat → Nat → Option Nat} {I : Nat → Nat → Int32} {J : Nat → Nat → Int64} {l1 : Int32} : exe X d 212 0 [Value.ref 37, Value.int l1] [] (sz, sl, sh, R, I, J) =
    ((ev X d 148 [Value.int l1, Value.int (0), Value.int (9999)] (sz, sl, sh, R, I, J)).bind fun q => exe X d 212 8 [Value.ref 37, Value.int l1] (q.1.toList ++ []) q.2) :=
  tq ((E_iload (x := l1) rfl f212_0)) (tq ((E_iconst (x := (0)) (by decide) f212_1)) (tq ((E_iconst (x := (9999)) (by decide) f212_2)) ((E_callS pn_148 rfl rfl (Nat.le_of_ble_eq_true rfl) (Nat.le_of_ble_eq_true rfl) f212_5))))
theorem t212_8 {X : XX} {d : Nat} {sz sl : Nat} {sh : Nat → Nat × Nat} {R : Nat → Nat → Option Nat} {I : Nat → Nat → Int32} {J : Nat → Nat → Int64} (hS : SF sh R) {l1 : Int32} {s0 : Int32} : exe X d 212 8 [Value.ref 37, Value.int l1] [Value.int s0] (sz, sl, sh, R, I, J) =
    (if ¬ s0 = 0 then (if ¬ (I 37 21) = (30) then (if inb (I 37 21) 30 then some (some (Value.int ((I 37 21) + (1))), (sz, sl, sh, R, (u2 (u2 I 55 (I 37 21).toNatClampNeg l1) 37 21 ((I 37 21) + (1))), J)) else none) else some (some (Value.int (-3)), (sz, sl, sh, R, I, J))) else some (some (Value.int (-1)), (sz, sl, sh, R, I, J))) :=
  tq ((E_if_ne f212_8)) (ite_c (tq ((E_aload (v := Value.ref 37) rfl rfl f212_13)) (tq (tq ((G11021 f212_14)) (if_pos (zS37 hS))) (tq ((E_iconst (x := (30)) (by decide) f212_17)) (tq ((E_ic_ne f212_19)) (ite_c (tq ((E_aload (v := Value.ref 37) rfl rfl f212_25)) (tq (tq ((G11022 f212_26)) (if_pos (zS37 hS))) (tq (exe_R (zR37_22 hS)) (tq ((E_aload (v := Value.ref 37) rfl rfl f212_29)) (tq (tq ((G11021 f212_30)) (if_pos (zS37 hS))) (tq ((E_iload (x := l1) rfl f212_33)) (tq (tq ((E_iast f212_34)) (ite_ar (zS55 hS))) (ite_c (tq ((E_aload (v := Value.ref 37) rfl rfl f212_35)) (tq ((E_dup rfl f212_36)) (tq (tq (tq ((G11021 f212_37)) (if_pos (zS37 hS))) (exe_i (u2_pa (by decide)))) (tq ((E_iconst (x := (1)) (by decide) f212_40)) (tq ((E_iadd f212_41)) (tq (tq ((P11021 f212_42)) (if_pos (zS37 hS))) (tq ((E_aload (v := Value.ref 37) rfl rfl f212_45)) (tq (tq (tq ((G11021 f212_46)) (if_pos (zS37 hS))) (exe_i (u2_at0))) ((E_iret pr_212 f212_49)))))))))) rfl)))))))) (tq ((E_iconst (x := (-3)) (by decide) f212_22)) ((E_iret pr_212 f212_24)))))))) (tq ((E_iconst (x := (-1)) (by decide) f212_11)) ((E_iret pr_212 f212_12))))
theorem n212 {X : XX} {d : Nat} {h : HP} {a0 : Int32} : ev X (d + 1) 212 [Value.ref 37, Value.int a0] h = exe X d 212 0 [Value.ref 37, Value.int a0] [] h := ev_exe (Nat.le_of_ble_eq_true rfl)
theorem f213_0 : fr 213 0 = some (.iload 1, 1, [], []) := by decide +kernel
theorem f213_1 : fr 213 1 = some (.iconst 0, 1, [], []) := by decide +kernel
theorem f213_2 : fr 213 2 = some (.iconst 1, 1, [], []) := by decide +kernel
theorem f213_3 : fr 213 3 = some (.invokestatic 148, 3, [], []) := by decide +kernel
theorem f213_6 : fr 213 6 = some (.ifCond .ne 11, 3, [0, 1], []) := by decide +kernel
theorem f213_9 : fr 213 9 = some (.iconst (-1), 1, [], []) := by decide +kernel
theorem f213_10 : fr 213 10 = some (.ireturn, 1, [], []) := by decide +kernel
theorem f213_11 : fr 213 11 = some (.aload 0, 1, [], []) := by decide +kernel
theorem f213_12 : fr 213 12 = some (.getfield 11021, 3, [], []) := by decide +kernel
theorem f213_15 : fr 213 15 = some (.ifCond .ne 21, 3, [0, 1], []) := by decide +kernel
theorem f213_18 : fr 213 18 = some (.iconst (-5), 2, [], []) := by decide +kernel
theorem f213_20 : fr 213 20 = some (.ireturn, 1, [], []) := by decide +kernel
theorem f213_21 : fr 213 21 = some (.iconst 0, 1, [], []) := by decide +kernel
theorem f213_22 : fr 213 22 = some (.istore 2, 1, [], []) := by decide +kernel
theorem f213_23 : fr 213 23 = some (.iconst 0, 1, [], []) := by decide +kernel
theorem f213_24 : fr 213 24 = some (.istore 3, 1, [], []) := by decide +kernel
theorem f213_25 : fr 213 25 = some (.iconst 0, 1, [], []) := by decide +kernel
theorem f213_26 : fr 213 26 = some (.istore 4, 2, [], []) := by decide +kernel
theorem f213_28 : fr 213 28 = some (.iload 4, 2, [], []) := by decide +kernel
theorem f213_30 : fr 213 30 = some (.aload 0, 1, [], []) := by decide +kernel
theorem f213_31 : fr 213 31 = some (.getfield 11021, 3, [], []) := by decide +kernel
theorem f213_34 : fr 213 34 = some (.if_icmp .ge 166, 3, [], [4]) := by decide +kernel
theorem f213_37 : fr 213 37 = some (.iload 2, 1, [2], []) := by decide +kernel
theorem f213_38 : fr 213 38 = some (.aload 0, 1, [], []) := by decide +kernel
theorem f213_39 : fr 213 39 = some (.getfield 11022, 3, [], []) := by decide +kernel
theorem f213_42 : fr 213 42 = some (.iload 4, 2, [], []) := by decide +kernel
theorem f213_44 : fr 213 44 = some (.iaload, 1, [], []) := by decide +kernel
theorem f213_45 : fr 213 45 = some (.iadd, 1, [], []) := by decide +kernel
theorem f213_46 : fr 213 46 = some (.istore 2, 1, [], []) := by decide +kernel
theorem f213_47 : fr 213 47 = some (.iconst 0, 1, [], []) := by decide +kernel
theorem f213_48 : fr 213 48 = some (.istore 5, 2, [], []) := by decide +kernel
theorem f213_50 : fr 213 50 = some (.iconst 0, 1, [], []) := by decide +kernel
theorem f213_51 : fr 213 51 = some (.istore 6, 2, [], []) := by decide +kernel
theorem f213_53 : fr 213 53 = some (.iconst 0, 1, [], []) := by decide +kernel
theorem f213_54 : fr 213 54 = some (.istore 7, 2, [], []) := by decide +kernel
theorem f213_56 : fr 213 56 = some (.iload 7, 2, [], []) := by decide +kernel
theorem f213_58 : fr 213 58 = some (.aload 0, 1, [], []) := by decide +kernel
theorem f213_59 : fr 213 59 = some (.getfield 11021, 3, [], []) := by decide +kernel
theorem f213_62 : fr 213 62 = some (.if_icmp .ge 125, 3, [], [7]) := by decide +kernel
theorem f213_65 : fr 213 65 = some (.iload 5, 2, [5], []) := by decide +kernel
theorem f213_67 : fr 213 67 = some (.aload 0, 1, [], []) := by decide +kernel
theorem f213_68 : fr 213 68 = some (.getfield 11022, 3, [], []) := by decide +kernel
theorem f213_71 : fr 213 71 = some (.iload 7, 2, [], []) := by decide +kernel
theorem f213_73 : fr 213 73 = some (.iaload, 1, [], []) := by decide +kernel
theorem f213_74 : fr 213 74 = some (.aload 0, 1, [], []) := by decide +kernel
theorem f213_75 : fr 213 75 = some (.getfield 11022, 3, [], []) := by decide +kernel
theorem f213_78 : fr 213 78 = some (.iload 4, 2, [], []) := by decide +kernel
theorem f213_80 : fr 213 80 = some (.iaload, 1, [], []) := by decide +kernel
theorem f213_81 : fr 213 81 = some (.if_icmp .ge 88, 3, [], []) := by decide +kernel
theorem f213_84 : fr 213 84 = some (.iconst 1, 1, [], []) := by decide +kernel
theorem f213_85 : fr 213 85 = some (.goto 89, 3, [], []) := by decide +kernel
theorem f213_88 : fr 213 88 = some (.iconst 0, 1, [], []) := by decide +kernel
theorem f213_89 : fr 213 89 = some (.iadd, 1, [], []) := by decide +kernel
theorem f213_90 : fr 213 90 = some (.istore 5, 2, [], []) := by decide +kernel
theorem f213_92 : fr 213 92 = some (.iload 6, 2, [6], []) := by decide +kernel
theorem f213_94 : fr 213 94 = some (.aload 0, 1, [], []) := by decide +kernel
theorem f213_95 : fr 213 95 = some (.getfield 11022, 3, [], []) := by decide +kernel
theorem f213_98 : fr 213 98 = some (.iload 7, 2, [], []) := by decide +kernel
theorem f213_100 : fr 213 100 = some (.iaload, 1, [], []) := by decide +kernel
theorem f213_101 : fr 213 101 = some (.aload 0, 1, [], []) := by decide +kernel
theorem f213_102 : fr 213 102 = some (.getfield 11022, 3, [], []) := by decide +kernel
theorem f213_105 : fr 213 105 = some (.iload 4, 2, [], []) := by decide +kernel
theorem f213_107 : fr 213 107 = some (.iaload, 1, [], []) := by decide +kernel
theorem f213_108 : fr 213 108 = some (.if_icmp .ne 115, 3, [], []) := by decide +kernel
theorem f213_111 : fr 213 111 = some (.iconst 1, 1, [], []) := by decide +kernel
theorem f213_112 : fr 213 112 = some (.goto 116, 3, [], []) := by decide +kernel
theorem f213_115 : fr 213 115 = some (.iconst 0, 1, [], []) := by decide +kernel
theorem f213_116 : fr 213 116 = some (.iadd, 1, [], []) := by decide +kernel
theorem f213_117 : fr 213 117 = some (.istore 6, 2, [], []) := by decide +kernel
theorem f213_119 : fr 213 119 = some (.iinc 7 1, 3, [], []) := by decide +kernel
theorem f213_122 : fr 213 122 = some (.goto 56, 3, [], []) := by decide +kernel
theorem f213_125 : fr 213 125 = some (.aload 0, 1, [], []) := by decide +kernel
theorem f213_126 : fr 213 126 = some (.getfield 11021, 3, [], []) := by decide +kernel
theorem f213_129 : fr 213 129 = some (.iconst 1, 1, [], []) := by decide +kernel
theorem f213_130 : fr 213 130 = some (.isub, 1, [], []) := by decide +kernel
theorem f213_131 : fr 213 131 = some (.iconst 2, 1, [], []) := by decide +kernel
theorem f213_132 : fr 213 132 = some (.idiv, 1, [], []) := by decide +kernel
theorem f213_133 : fr 213 133 = some (.iload 5, 2, [], []) := by decide +kernel
theorem f213_135 : fr 213 135 = some (.iload 5, 2, [5], []) := by decide +kernel
theorem f213_137 : fr 213 137 = some (.iload 6, 2, [6], []) := by decide +kernel
theorem f213_139 : fr 213 139 = some (.iadd, 1, [], []) := by decide +kernel
theorem f213_140 : fr 213 140 = some (.iconst 1, 1, [], []) := by decide +kernel
theorem f213_141 : fr 213 141 = some (.isub, 1, [], []) := by decide +kernel
theorem f213_142 : fr 213 142 = some (.invokestatic 148, 3, [], []) := by decide +kernel
theorem f213_145 : fr 213 145 = some (.ifCond .eq 158, 3, [3], []) := by decide +kernel
theorem f213_148 : fr 213 148 = some (.aload 0, 1, [], []) := by decide +kernel
theorem f213_149 : fr 213 149 = some (.getfield 11022, 3, [], []) := by decide +kernel
theorem f213_152 : fr 213 152 = some (.iload 4, 2, [], []) := by decide +kernel
theorem f213_154 : fr 213 154 = some (.iaload, 1, [], []) := by decide +kernel
theorem f213_155 : fr 213 155 = some (.goto 159, 3, [], []) := by decide +kernel
theorem f213_158 : fr 213 158 = some (.iload 3, 1, [3], []) := by decide +kernel
theorem f213_159 : fr 213 159 = some (.istore 3, 1, [], []) := by decide +kernel
theorem f213_160 : fr 213 160 = some (.iinc 4 1, 3, [], []) := by decide +kernel
theorem f213_163 : fr 213 163 = some (.goto 28, 3, [], []) := by decide +kernel
theorem f213_166 : fr 213 166 = some (.iload 1, 1, [1], []) := by decide +kernel
theorem f213_167 : fr 213 167 = some (.ifCond .ne 179, 3, [3], [0, 2]) := by decide +kernel
theorem f213_170 : fr 213 170 = some (.iload 2, 1, [2], []) := by decide +kernel
theorem f213_171 : fr 213 171 = some (.aload 0, 1, [0], []) := by decide +kernel
theorem f213_172 : fr 213 172 = some (.getfield 11021, 3, [], []) := by decide +kernel
theorem f213_175 : fr 213 175 = some (.idiv, 1, [], []) := by decide +kernel
theorem f213_176 : fr 213 176 = some (.goto 180, 3, [], []) := by decide +kernel
theorem f213_179 : fr 213 179 = some (.iload 3, 1, [3], []) := by decide +kernel
theorem f213_180 : fr 213 180 = some (.ireturn, 1, [], []) := by decide +kernel
theorem t213_0 {X : XX} {d : Nat} {sz sl : Nat} {sh : Nat → Nat × Nat} {R : Nat → Nat → Option Nat} {I : Nat → Nat → Int32} {J : Nat → Nat → Int64} {l1 : Int32} : exe X d 213 0 [Value.ref 37, Value.int l1, dm, dm, dm, dm, dm, dm] [] (sz, sl, sh, R, I, J) =
    ((ev X d 148 [Value.int l1, Value.int (0), Value.int (1)] (sz, sl, sh, R, I, J)).bind fun q => exe X d 213 6 [Value.ref 37, Value.int l1, dm, dm, dm, dm, dm, dm] (q.1.toList ++ []) q.2) :=
  tq ((E_iload (x := l1) rfl f213_0)) (tq ((E_iconst (x := (0)) (by decide) f213_1)) (tq ((E_iconst (x := (1)) (by decide) f213_2)) ((E_callS pn_148 rfl rfl (Nat.le_of_ble_eq_true rfl) (Nat.le_of_ble_eq_true rfl) f213_3))))
theorem t213_6 {X : XX} {d : Nat} {sz sl : Nat} {sh : Nat → Nat × Nat} {R : Nat → Nat → Option Nat} {I : Nat → Nat → Int32} {J : Nat → Nat → Int64} (hS : SF sh R) {l1 : Int32} {s0 : Int32} : exe X d 213 6 [Value.ref 37, Value.int l1, dm, dm, dm, dm, dm, dm] [Value.int s0] (sz, sl, sh, R, I, J) =
    (if ¬ s0 = 0 then (if ¬ (I 37 21) = 0 then exe X d 213 28 [Value.ref 37, Value.int l1, Value.int (0), Value.int (0), Value.int (0), dm, dm, dm] [] (sz, sl, sh, R, I, J) else some (some (Value.int (-5)), (sz, sl, sh, R, I, J))) else some (some (Value.int (-1)), (sz, sl, sh, R, I, J))) :=
  tq ((E_if_ne f213_6)) (ite_c (tq ((E_aload (v := Value.ref 37) rfl rfl f213_11)) (tq (tq ((G11021 f213_12)) (if_pos (zS37 hS))) (tq ((E_if_ne f213_15)) (ite_c (tq ((E_iconst (x := (0)) (by decide) f213_21)) (tq ((E_istore rfl f213_22)) (tq ((E_iconst (x := (0)) (by decide) f213_23)) (tq ((E_istore rfl f213_24)) (tq ((E_iconst (x := (0)) (by decide) f213_25)) ((E_istore rfl f213_26))))))) (tq ((E_iconst (x := (-5)) (by decide) f213_18)) ((E_iret pr_213 f213_20))))))) (tq ((E_iconst (x := (-1)) (by decide) f213_9)) ((E_iret pr_213 f213_10))))
theorem t213_28 {X : XX} {d : Nat} {sz sl : Nat} {sh : Nat → Nat × Nat} {R : Nat → Nat → Option Nat} {I : Nat → Nat → Int32} {J : Nat → Nat → Int64} (hS : SF sh R) {l1 : Int32} {l2 : Int32} {l3 : Int32} {l4 : Int32} : exe X d 213 28 [Value.ref 37, Value.int l1, Value.int l2, Value.int l3, Value.int l4, dm, dm, dm] [] (sz, sl, sh, R, I, J) =
    (if (I 37 21) ≤ l4 then (if ¬ l1 = 0 then some (some (Value.int l3), (sz, sl, sh, R, I, J)) else (if (I 37 21) = 0 then none else some (some (Value.int (l2 / (I 37 21))), (sz, sl, sh, R, I, J)))) else (if inb l4 30 then exe X d 213 56 [Value.ref 37, Value.int l1, Value.int (l2 + (I 55 l4.toNatClampNeg)), Value.int l3, Value.int l4, Value.int (0), Value.int (0), Value.int (0)] [] (sz, sl, sh, R, I, J) else none)) :=
  tq ((E_iload (x := l4) rfl f213_28)) (tq ((E_aload (v := Value.ref 37) rfl rfl f213_30)) (tq (tq ((G11021 f213_31)) (if_pos (zS37 hS))) (tq ((E_ic_ge f213_34)) (ite_c (tq ((E_iload (x := l1) rfl f213_166)) (tq ((E_if_ne f213_167)) (ite_c (tq ((E_iload (x := l3) rfl f213_179)) ((E_iret pr_213 f213_180))) (tq ((E_iload (x := l2) rfl f213_170)) (tq ((E_aload (v := Value.ref 37) rfl rfl f213_171)) (tq (tq ((G11021 f213_172)) (if_pos (zS37 hS))) (tq (E_idiv' f213_175) (ite_c rfl (tq ((E_goto f213_176)) ((E_iret pr_213 f213_180))))))))))) (tq ((E_iload (x := l2) rfl f213_37)) (tq ((E_aload (v := Value.ref 37) rfl rfl f213_38)) (tq (tq ((G11022 f213_39)) (if_pos (zS37 hS))) (tq (exe_R (zR37_22 hS)) (tq ((E_iload (x := l4) rfl f213_42)) (tq (tq ((E_iald f213_44)) (ite_ar (zS55 hS))) (ite_c (tq ((E_iadd f213_45)) (tq ((E_istore rfl f213_46)) (tq ((E_iconst (x := (0)) (by decide) f213_47)) (tq ((E_istore rfl f213_48)) (tq ((E_iconst (x := (0)) (by decide) f213_50)) (tq ((E_istore rfl f213_51)) (tq ((E_iconst (x := (0)) (by decide) f213_53)) ((E_istore rfl f213_54))))))))) rfl)))))))))))
theorem t213_56 {X : XX} {d : Nat} {sz sl : Nat} {sh : Nat → Nat × Nat} {R : Nat → Nat → Option Nat} {I : Nat → Nat → Int32} {J : Nat → Nat → Int64} (hS : SF sh R) {l1 : Int32} {l2 : Int32} {l3 : Int32} {l4 : Int32} {l5 : Int32} {l6 : Int32} {l7 : Int32} : exe X d 213 56 [Value.ref 37, Value.int l1, Value.int l2, Value.int l3, Value.int l4, Value.int l5, Value.int l6, Value.int l7] [] (sz, sl, sh, R, I, J) =
    (if (I 37 21) ≤ l7 then ((ev X d 148 [Value.int (((I 37 21) - (1)) / (2)), Value.int l5, Value.int ((l5 + l6) - (1))] (sz, sl, sh, R, I, J)).bind fun q => exe X d 213 145 [Value.ref 37, Value.int l1, Value.int l2, Value.int l3, Value.int l4, dm, dm, dm] (q.1.toList ++ []) q.2) else (if inb l7 30 then (if inb l4 30 then (if (I 55 l4.toNatClampNeg) ≤ (I 55 l7.toNatClampNeg) then exe X d 213 89 [Value.ref 37, Value.int l1, Value.int l2, Value.int l3, Value.int l4, dm, Value.int l6, Value.int l7] [Value.int (0), Value.int l5] (sz, sl, sh, R, I, J) else exe X d 213 89 [Value.ref 37, Value.int l1, Value.int l2, Value.int l3, Value.int l4, dm, Value.int l6, Value.int l7] [Value.int (1), Value.int l5] (sz, sl, sh, R, I, J)) else none) else none)) :=
  tq ((E_iload (x := l7) rfl f213_56)) (tq ((E_aload (v := Value.ref 37) rfl rfl f213_58)) (tq (tq ((G11021 f213_59)) (if_pos (zS37 hS))) (tq ((E_ic_ge f213_62)) (ite_c (tq ((E_aload (v := Value.ref 37) rfl rfl f213_125)) (tq (tq ((G11021 f213_126)) (if_pos (zS37 hS))) (tq ((E_iconst (x := (1)) (by decide) f213_129)) (tq ((E_isub f213_130)) (tq ((E_iconst (x := (2)) (by decide) f213_131)) (tq ((E_idiv (by decide) f213_132)) (tq ((E_iload (x := l5) rfl f213_133)) (tq ((E_iload (x := l5) rfl f213_135)) (tq ((E_iload (x := l6) rfl f213_137)) (tq ((E_iadd f213_139)) (tq ((E_iconst (x := (1)) (by decide) f213_140)) (tq ((E_isub f213_141)) ((E_callS pn_148 rfl rfl (Nat.le_of_ble_eq_true rfl) (Nat.le_of_ble_eq_true rfl) f213_142)))))))))))))) (tq ((E_iload (x := l5) rfl f213_65)) (tq ((E_aload (v := Value.ref 37) rfl rfl f213_67)) (tq (tq ((G11022 f213_68)) (if_pos (zS37 hS))) (tq (exe_R (zR37_22 hS)) (tq ((E_iload (x := l7) rfl f213_71)) (tq (tq ((E_iald f213_73)) (ite_ar (zS55 hS))) (ite_c (tq ((E_aload (v := Value.ref 37) rfl rfl f213_74)) (tq (tq ((G11022 f213_75)) (if_pos (zS37 hS))) (tq (exe_R (zR37_22 hS)) (tq ((E_iload (x := l4) rfl f213_78)) (tq (tq ((E_iald f213_80)) (ite_ar (zS55 hS))) (ite_c (tq ((E_ic_ge f213_81)) (ite_c ((E_iconst (x := (0)) (by decide) f213_88)) (tq ((E_iconst (x := (1)) (by decide) f213_84)) ((E_goto f213_85))))) rfl)))))) rfl)))))))))))
theorem t213_89 {X : XX} {d : Nat} {sz sl : Nat} {sh : Nat → Nat × Nat} {R : Nat → Nat → Option Nat} {I : Nat → Nat → Int32} {J : Nat → Nat → Int64} (hS : SF sh R) {l1 : Int32} {l2 : Int32} {l3 : Int32} {l4 : Int32} {l6 : Int32} {l7 : Int32} {s0 : Int32} {s1 : Int32} : exe X d 213 89 [Value.ref 37, Value.int l1, Value.int l2, Value.int l3, Value.int l4, dm, Value.int l6, Value.int l7] [Value.int s0, Value.int s1] (sz, sl, sh, R, I, J) =
    (if inb l7 30 then (if inb l4 30 then (if ¬ (I 55 l7.toNatClampNeg) = (I 55 l4.toNatClampNeg) then exe X d 213 56 [Value.ref 37, Value.int l1, Value.int l2, Value.int l3, Value.int l4, Value.int (s1 + s0), Value.int (l6 + (0)), Value.int (l7 + (1))] [] (sz, sl, sh, R, I, J) else exe X d 213 56 [Value.ref 37, Value.int l1, Value.int l2, Value.int l3, Value.int l4, Value.int (s1 + s0), Value.int (l6 + (1)), Value.int (l7 + (1))] [] (sz, sl, sh, R, I, J)) else none) else none) :=
  tq ((E_iadd f213_89)) (tq ((E_istore rfl f213_90)) (tq ((E_iload (x := l6) rfl f213_92)) (tq ((E_aload (v := Value.ref 37) rfl rfl f213_94)) (tq (tq ((G11022 f213_95)) (if_pos (zS37 hS))) (tq (exe_R (zR37_22 hS)) (tq ((E_iload (x := l7) rfl f213_98)) (tq (tq ((E_iald f213_100)) (ite_ar (zS55 hS))) (ite_c (tq ((E_aload (v := Value.ref 37) rfl rfl f213_101)) (tq (tq ((G11022 f213_102)) (if_pos (zS37 hS))) (tq (exe_R (zR37_22 hS)) (tq ((E_iload (x := l4) rfl f213_105)) (tq (tq ((E_iald f213_107)) (ite_ar (zS55 hS))) (ite_c (tq ((E_ic_ne f213_108)) (ite_c (tq ((E_iconst (x := (0)) (by decide) f213_115)) (tq ((E_iadd f213_116)) (tq ((E_istore rfl f213_117)) (tq ((E_iinc (x := l7) (x' := (1)) rfl rfl (by decide) f213_119)) ((E_goto f213_122)))))) (tq ((E_iconst (x := (1)) (by decide) f213_111)) (tq ((E_goto f213_112)) (tq ((E_iadd f213_116)) (tq ((E_istore rfl f213_117)) (tq ((E_iinc (x := l7) (x' := (1)) rfl rfl (by decide) f213_119)) ((E_goto f213_122))))))))) rfl)))))) rfl))))))))
theorem t213_145 {X : XX} {d : Nat} {sz sl : Nat} {sh : Nat → Nat × Nat} {R : Nat → Nat → Option Nat} {I : Nat → Nat → Int32} {J : Nat → Nat → Int64} (hS : SF sh R) {l1 : Int32} {l2 : Int32} {l3 : Int32} {l4 : Int32} {s0 : Int32} : exe X d 213 145 [Value.ref 37, Value.int l1, Value.int l2, Value.int l3, Value.int l4, dm, dm, dm] [Value.int s0] (sz, sl, sh, R, I, J) =
    (if s0 = 0 then exe X d 213 28 [Value.ref 37, Value.int l1, Value.int l2, Value.int l3, Value.int (l4 + (1)), dm, dm, dm] [] (sz, sl, sh, R, I, J) else (if inb l4 30 then exe X d 213 28 [Value.ref 37, Value.int l1, Value.int l2, Value.int (I 55 l4.toNatClampNeg), Value.int (l4 + (1)), dm, dm, dm] [] (sz, sl, sh, R, I, J) else none)) :=
  tq ((E_if_eq f213_145)) (ite_c (tq ((E_iload (x := l3) rfl f213_158)) (tq ((E_istore rfl f213_159)) (tq ((E_iinc (x := l4) (x' := (1)) rfl rfl (by decide) f213_160)) ((E_goto f213_163))))) (tq ((E_aload (v := Value.ref 37) rfl rfl f213_148)) (tq (tq ((G11022 f213_149)) (if_pos (zS37 hS))) (tq (exe_R (zR37_22 hS)) (tq ((E_iload (x := l4) rfl f213_152)) (tq (tq ((E_iald f213_154)) (ite_ar (zS55 hS))) (ite_c (tq ((E_goto f213_155)) (tq ((E_istore rfl f213_159)) (tq ((E_iinc (x := l4) (x' := (1)) rfl rfl (by decide) f213_160)) ((E_goto f213_163))))) rfl)))))))
theorem n213 {X : XX} {d : Nat} {h : HP} {a0 : Int32} : ev X (d + 1) 213 [Value.ref 37, Value.int a0] h = exe X d 213 0 [Value.ref 37, Value.int a0, dm, dm, dm, dm, dm, dm] [] h := ev_exe (Nat.le_of_ble_eq_true rfl)
theorem f214_0 : fr 214 0 = some (.iload 1, 1, [], []) := by decide +kernel
theorem f214_1 : fr 214 1 = some (.iconst 1, 1, [], []) := by decide +kernel
theorem f214_2 : fr 214 2 = some (.iconst 100, 2, [], []) := by decide +kernel
theorem f214_4 : fr 214 4 = some (.invokestatic 148, 3, [], []) := by decide +kernel
theorem f214_7 : fr 214 7 = some (.ifCond .ne 12, 3, [0, 1, 2], []) := by decide +kernel
theorem f214_10 : fr 214 10 = some (.iconst (-1), 1, [], []) := by decide +kernel
theorem f214_11 : fr 214 11 = some (.ireturn, 1, [], []) := by decide +kernel
theorem f214_12 : fr 214 12 = some (.aload 0, 1, [], []) := by decide +kernel
theorem f214_13 : fr 214 13 = some (.getfield 11021, 3, [], []) := by decide +kernel
theorem f214_16 : fr 214 16 = some (.ifCond .ne 22, 3, [0, 1, 2], []) := by decide +kernel
theorem f214_19 : fr 214 19 = some (.iconst (-5), 2, [], []) := by decide +kernel
theorem f214_21 : fr 214 21 = some (.ireturn, 1, [], []) := by decide +kernel
theorem f214_22 : fr 214 22 = some (.iload 2, 1, [2], []) := by decide +kernel
theorem f214_23 : fr 214 23 = some (.istore 3, 1, [], []) := by decide +kernel
theorem f214_24 : fr 214 24 = some (.iconst 0, 1, [], []) := by decide +kernel
theorem f214_25 : fr 214 25 = some (.istore 4, 2, [], []) := by decide +kernel
theorem f214_27 : fr 214 27 = some (.iconst 0, 1, [], []) := by decide +kernel
theorem f214_28 : fr 214 28 = some (.istore 5, 2, [], []) := by decide +kernel
theorem f214_30 : fr 214 30 = some (.iload 5, 2, [], []) := by decide +kernel
theorem f214_32 : fr 214 32 = some (.iload 1, 1, [], []) := by decide +kernel
theorem f214_33 : fr 214 33 = some (.if_icmp .ge 71, 3, [], [0, 1, 3, 5]) := by decide +kernel
theorem f214_36 : fr 214 36 = some (.iload 3, 1, [3], []) := by decide +kernel
theorem f214_37 : fr 214 37 = some (.iconst 1103515245, 3, [], []) := by decide +kernel
theorem f214_40 : fr 214 40 = some (.imul, 1, [], []) := by decide +kernel
theorem f214_41 : fr 214 41 = some (.iconst 12345, 3, [], []) := by decide +kernel
theorem f214_44 : fr 214 44 = some (.iadd, 1, [], []) := by decide +kernel
theorem f214_45 : fr 214 45 = some (.istore 3, 1, [], []) := by decide +kernel
theorem f214_46 : fr 214 46 = some (.iload 4, 2, [4], []) := by decide +kernel
theorem f214_48 : fr 214 48 = some (.aload 0, 1, [], []) := by decide +kernel
theorem f214_49 : fr 214 49 = some (.getfield 11022, 3, [], []) := by decide +kernel
theorem f214_52 : fr 214 52 = some (.iload 3, 1, [], []) := by decide +kernel
theorem f214_53 : fr 214 53 = some (.iconst 8, 2, [], []) := by decide +kernel
theorem f214_55 : fr 214 55 = some (.iushr, 1, [], []) := by decide +kernel
theorem f214_56 : fr 214 56 = some (.aload 0, 1, [], []) := by decide +kernel
theorem f214_57 : fr 214 57 = some (.getfield 11021, 3, [], []) := by decide +kernel
theorem f214_60 : fr 214 60 = some (.irem, 1, [], []) := by decide +kernel
theorem f214_61 : fr 214 61 = some (.iaload, 1, [], []) := by decide +kernel
theorem f214_62 : fr 214 62 = some (.iadd, 1, [], []) := by decide +kernel
theorem f214_63 : fr 214 63 = some (.istore 4, 2, [], []) := by decide +kernel
theorem f214_65 : fr 214 65 = some (.iinc 5 1, 3, [], []) := by decide +kernel
theorem f214_68 : fr 214 68 = some (.goto 30, 3, [], []) := by decide +kernel
theorem f214_71 : fr 214 71 = some (.iload 4, 2, [4], []) := by decide +kernel
theorem f214_73 : fr 214 73 = some (.ireturn, 1, [], []) := by decide +kernel
theorem t214_0 {X : XX} {d : Nat} {sz sl : Nat} {sh : Nat → Nat × Nat} {R : Nat → Nat → Option Nat} {I : Nat → Nat → Int32} {J : Nat → Nat → Int64} {l1 : Int32} {l2 : Int32} : exe X d 214 0 [Value.ref 37, Value.int l1, Value.int l2, dm, dm, dm] [] (sz, sl, sh, R, I, J) =
    ((ev X d 148 [Value.int l1, Value.int (1), Value.int (100)] (sz, sl, sh, R, I, J)).bind fun q => exe X d 214 7 [Value.ref 37, Value.int l1, Value.int l2, dm, dm, dm] (q.1.toList ++ []) q.2) :=
  tq ((E_iload (x := l1) rfl f214_0)) (tq ((E_iconst (x := (1)) (by decide) f214_1)) (tq ((E_iconst (x := (100)) (by decide) f214_2)) ((E_callS pn_148 rfl rfl (Nat.le_of_ble_eq_true rfl) (Nat.le_of_ble_eq_true rfl) f214_4))))
theorem t214_7 {X : XX} {d : Nat} {sz sl : Nat} {sh : Nat → Nat × Nat} {R : Nat → Nat → Option Nat} {I : Nat → Nat → Int32} {J : Nat → Nat → Int64} (hS : SF sh R) {l1 : Int32} {l2 : Int32} {s0 : Int32} : exe X d 214 7 [Value.ref 37, Value.int l1, Value.int l2, dm, dm, dm] [Value.int s0] (sz, sl, sh, R, I, J) =
    (if ¬ s0 = 0 then (if ¬ (I 37 21) = 0 then exe X d 214 30 [Value.ref 37, Value.int l1, dm, Value.int l2, Value.int (0), Value.int (0)] [] (sz, sl, sh, R, I, J) else some (some (Value.int (-5)), (sz, sl, sh, R, I, J))) else some (some (Value.int (-1)), (sz, sl, sh, R, I, J))) :=
  tq ((E_if_ne f214_7)) (ite_c (tq ((E_aload (v := Value.ref 37) rfl rfl f214_12)) (tq (tq ((G11021 f214_13)) (if_pos (zS37 hS))) (tq ((E_if_ne f214_16)) (ite_c (tq ((E_iload (x := l2) rfl f214_22)) (tq ((E_istore rfl f214_23)) (tq ((E_iconst (x := (0)) (by decide) f214_24)) (tq ((E_istore rfl f214_25)) (tq ((E_iconst (x := (0)) (by decide) f214_27)) ((E_istore rfl f214_28))))))) (tq ((E_iconst (x := (-5)) (by decide) f214_19)) ((E_iret pr_214 f214_21))))))) (tq ((E_iconst (x := (-1)) (by decide) f214_10)) ((E_iret pr_214 f214_11))))
theorem t214_30 {X : XX} {d : Nat} {sz sl : Nat} {sh : Nat → Nat × Nat} {R : Nat → Nat → Option Nat} {I : Nat → Nat → Int32} {J : Nat → Nat → Int64} (hS : SF sh R) {l1 : Int32} {l3 : Int32} {l4 : Int32} {l5 : Int32} : exe X d 214 30 [Value.ref 37, Value.int l1, dm, Value.int l3, Value.int l4, Value.int l5] [] (sz, sl, sh, R, I, J) =
    (if l1 ≤ l5 then some (some (Value.int l4), (sz, sl, sh, R, I, J)) else (if (I 37 21) = 0 then none else (if inb ((ush ((l3 * (1103515245)) + (12345)) (8)) - (ush ((l3 * (1103515245)) + (12345)) (8)) / (I 37 21) * (I 37 21)) 30 then exe X d 214 30 [Value.ref 37, Value.int l1, dm, Value.int ((l3 * (1103515245)) + (12345)), Value.int (l4 + (I 55 ((ush ((l3 * (1103515245)) + (12345)) (8)) - (ush ((l3 * (1103515245)) + (12345)) (8)) / (I 37 21) * (I 37 21)).toNatClampNeg)), Value.int (l5 + (1))] [] (sz, sl, sh, R, I, J) else none))) :=
  tq ((E_iload (x := l5) rfl f214_30)) (tq ((E_iload (x := l1) rfl f214_32)) (tq ((E_ic_ge f214_33)) (ite_c (tq ((E_iload (x := l4) rfl f214_71)) ((E_iret pr_214 f214_73))) (tq ((E_iload (x := l3) rfl f214_36)) (tq ((E_iconst (x := (1103515245)) (by decide) f214_37)) (tq ((E_imul f214_40)) (tq ((E_iconst (x := (12345)) (by decide) f214_41)) (tq ((E_iadd f214_44)) (tq ((E_istore rfl f214_45)) (tq ((E_iload (x := l4) rfl f214_46)) (tq ((E_aload (v := Value.ref 37) rfl rfl f214_48)) (tq (tq ((G11022 f214_49)) (if_pos (zS37 hS))) (tq (exe_R (zR37_22 hS)) (tq ((E_iload (x := ((l3 * (1103515245)) + (12345))) rfl f214_52)) (tq ((E_iconst (x := (8)) (by decide) f214_53)) (tq ((E_ush f214_55)) (tq ((E_aload (v := Value.ref 37) rfl rfl f214_56)) (tq (tq ((G11021 f214_57)) (if_pos (zS37 hS))) (tq (E_irem' f214_60) (ite_c rfl (tq (tq ((E_iald f214_61)) (ite_ar (zS55 hS))) (ite_c (tq ((E_iadd f214_62)) (tq ((E_istore rfl f214_63)) (tq ((E_iinc (x := l5) (x' := (1)) rfl rfl (by decide) f214_65)) ((E_goto f214_68))))) rfl))))))))))))))))))))))
theorem n214 {X : XX} {d : Nat} {h : HP} {a0 : Int32} {a1 : Int32} : ev X (d + 1) 214 [Value.ref 37, Value.int a0, Value.int a1] h = exe X d 214 0 [Value.ref 37, Value.int a0, Value.int a1, dm, dm, dm] [] h := ev_exe (Nat.le_of_ble_eq_true rfl)
theorem f215_0 : fr 215 0 = some (.aload 0, 1, [], []) := by decide +kernel
theorem f215_1 : fr 215 1 = some (.getfield 11027, 3, [], []) := by decide +kernel
theorem f215_4 : fr 215 4 = some (.ifCond .ne 10, 3, [0], []) := by decide +kernel
theorem f215_7 : fr 215 7 = some (.iconst (-5), 2, [], []) := by decide +kernel
theorem f215_9 : fr 215 9 = some (.ireturn, 1, [], []) := by decide +kernel
theorem f215_10 : fr 215 10 = some (.aload 0, 1, [], []) := by decide +kernel
theorem f215_11 : fr 215 11 = some (.dup, 1, [], []) := by decide +kernel
theorem f215_12 : fr 215 12 = some (.getfield 11027, 3, [], []) := by decide +kernel
theorem f215_15 : fr 215 15 = some (.iconst 1, 1, [], []) := by decide +kernel
theorem f215_16 : fr 215 16 = some (.isub, 1, [], []) := by decide +kernel
theorem f215_17 : fr 215 17 = some (.putfield 11027, 3, [], []) := by decide +kernel
theorem f215_20 : fr 215 20 = some (.aload 0, 1, [], []) := by decide +kernel
theorem f215_21 : fr 215 21 = some (.aload 0, 1, [], []) := by decide +kernel
theorem f215_22 : fr 215 22 = some (.getfield 11023, 3, [], []) := by decide +kernel
theorem f215_25 : fr 215 25 = some (.aload 0, 1, [], []) := by decide +kernel
theorem f215_26 : fr 215 26 = some (.getfield 11027, 3, [], []) := by decide +kernel
theorem f215_29 : fr 215 29 = some (.iaload, 1, [], []) := by decide +kernel
theorem f215_30 : fr 215 30 = some (.aload 0, 1, [], []) := by decide +kernel
theorem f215_31 : fr 215 31 = some (.getfield 11024, 3, [], []) := by decide +kernel
theorem f215_34 : fr 215 34 = some (.aload 0, 1, [], []) := by decide +kernel
theorem f215_35 : fr 215 35 = some (.getfield 11027, 3, [], []) := by decide +kernel
theorem f215_38 : fr 215 38 = some (.iaload, 1, [], []) := by decide +kernel
theorem f215_39 : fr 215 39 = some (.invokevirtual 157, 3, [], []) := by decide +kernel
theorem f215_42 : fr 215 42 = some (.aload 0, 1, [0], []) := by decide +kernel
theorem f215_43 : fr 215 43 = some (.getfield 11027, 3, [], []) := by decide +kernel
theorem f215_46 : fr 215 46 = some (.ireturn, 1, [], []) := by decide +kernel
theorem t215_0 {X : XX} {d : Nat} {sz sl : Nat} {sh : Nat → Nat × Nat} {R : Nat → Nat → Option Nat} {I : Nat → Nat → Int32} {J : Nat → Nat → Int64} (hS : SF sh R)  : exe X d 215 0 [Value.ref 37] [] (sz, sl, sh, R, I, J) =
    (if ¬ (I 37 27) = 0 then (if inb ((I 37 27) - (1)) 40 then (if inb ((I 37 27) - (1)) 40 then ((ev X d 157 [Value.ref 37, Value.int ((u2 I 37 27 ((I 37 27) - (1))) 56 ((I 37 27) - (1)).toNatClampNeg), Value.int ((u2 I 37 27 ((I 37 27) - (1))) 57 ((I 37 27) - (1)).toNatClampNeg)] (sz, sl, sh, R, (u2 I 37 27 ((I 37 27) - (1))), J)).bind fun q => exe X d 215 42 [Value.ref 37] (q.1.toList ++ []) q.2) else none) else none) else some (some (Value.int (-5)), (sz, sl, sh, R, I, J))) :=
  tq ((E_aload (v := Value.ref 37) rfl rfl f215_0)) (tq (tq ((G11027 f215_1)) (if_pos (zS37 hS))) (tq ((E_if_ne f215_4)) (ite_c (tq ((E_aload (v := Value.ref 37) rfl rfl f215_10)) (tq ((E_dup rfl f215_11)) (tq (tq ((G11027 f215_12)) (if_pos (zS37 hS))) (tq ((E_iconst (x := (1)) (by decide) f215_15)) (tq ((E_isub f215_16)) (tq (tq ((P11027 f215_17)) (if_pos (zS37 hS))) (tq ((E_aload (v := Value.ref 37) rfl rfl f215_20)) (tq ((E_aload (v := Value.ref 37) rfl rfl f215_21)) (tq (tq ((G11023 f215_22)) (if_pos (zS37 hS))) (tq (exe_R (zR37_23 hS)) (tq ((E_aload (v := Value.ref 37) rfl rfl f215_25)) (tq (tq (tq ((G11027 f215_26)) (if_pos (zS37 hS))) (exe_i (u2_at0))) (tq (tq ((E_iald f215_29)) (ite_ar (zS56 hS))) (ite_c (tq ((E_aload (v := Value.ref 37) rfl rfl f215_30)) (tq (tq ((G11024 f215_31)) (if_pos (zS37 hS))) (tq (exe_R (zR37_24 hS)) (tq ((E_aload (v := Value.ref 37) rfl rfl f215_34)) (tq (tq (tq ((G11027 f215_35)) (if_pos (zS37 hS))) (exe_i (u2_at0))) (tq (tq ((E_iald f215_38)) (ite_ar (zS57 hS))) (ite_c ((tq ((E_callV pn_157 pc_157 rfl rfl (Nat.le_of_ble_eq_true rfl) f215_39)) (if_pos (zS37 hS)))) rfl))))))) rfl)))))))))))))) (tq ((E_iconst (x := (-5)) (by decide) f215_7)) ((E_iret pr_215 f215_9))))))
theorem t215_42 {X : XX} {d : Nat} {sz sl : Nat} {sh : Nat → Nat × Nat} {R : Nat → Nat → Option Nat} {I : Nat → Nat → Int32} {J : Nat → Nat → Int64} (hS : SF sh R)  : exe X d 215 42 [Value.ref 37] [] (sz, sl, sh, R, I, J) =
    some (some (Value.int (I 37 27)), (sz, sl, sh, R, I, J)) :=
  tq ((E_aload (v := Value.ref 37) rfl rfl f215_42)) (tq (tq ((G11027 f215_43)) (if_pos (zS37 hS))) ((E_iret pr_215 f215_46)))
theorem n215 {X : XX} {d : Nat} {h : HP}  : ev X (d + 1) 215 [Value.ref 37] h = exe X d 215 0 [Value.ref 37] [] h := ev_exe (Nat.le_of_ble_eq_true rfl)
theorem f216_0 : fr 216 0 = some (.aload 0, 1, [], []) := by decide +kernel
theorem f216_1 : fr 216 1 = some (.getfield 11027, 3, [], []) := by decide +kernel
theorem f216_4 : fr 216 4 = some (.aload 0, 1, [], []) := by decide +kernel
theorem f216_5 : fr 216 5 = some (.getfield 11026, 3, [], []) := by decide +kernel
theorem f216_8 : fr 216 8 = some (.if_icmp .ne 14, 3, [0], []) := by decide +kernel
theorem f216_11 : fr 216 11 = some (.iconst (-5), 2, [], []) := by decide +kernel
theorem f216_13 : fr 216 13 = some (.ireturn, 1, [], []) := by decide +kernel
theorem f216_14 : fr 216 14 = some (.aload 0, 1, [], []) := by decide +kernel
theorem f216_15 : fr 216 15 = some (.aload 0, 1, [], []) := by decide +kernel
theorem f216_16 : fr 216 16 = some (.getfield 11023, 3, [], []) := by decide +kernel
theorem f216_19 : fr 216 19 = some (.aload 0, 1, [], []) := by decide +kernel
theorem f216_20 : fr 216 20 = some (.getfield 11027, 3, [], []) := by decide +kernel
theorem f216_23 : fr 216 23 = some (.iaload, 1, [], []) := by decide +kernel
theorem f216_24 : fr 216 24 = some (.aload 0, 1, [], []) := by decide +kernel
theorem f216_25 : fr 216 25 = some (.getfield 11025, 3, [], []) := by decide +kernel
theorem f216_28 : fr 216 28 = some (.aload 0, 1, [], []) := by decide +kernel
theorem f216_29 : fr 216 29 = some (.getfield 11027, 3, [], []) := by decide +kernel
theorem f216_32 : fr 216 32 = some (.iaload, 1, [], []) := by decide +kernel
theorem f216_33 : fr 216 33 = some (.invokevirtual 157, 3, [], []) := by decide +kernel
theorem f216_36 : fr 216 36 = some (.aload 0, 1, [], []) := by decide +kernel
theorem f216_37 : fr 216 37 = some (.dup, 1, [], []) := by decide +kernel
theorem f216_38 : fr 216 38 = some (.getfield 11027, 3, [], []) := by decide +kernel
theorem f216_41 : fr 216 41 = some (.iconst 1, 1, [], []) := by decide +kernel
theorem f216_42 : fr 216 42 = some (.iadd, 1, [], []) := by decide +kernel
theorem f216_43 : fr 216 43 = some (.putfield 11027, 3, [], []) := by decide +kernel
theorem f216_46 : fr 216 46 = some (.aload 0, 1, [], []) := by decide +kernel
theorem f216_47 : fr 216 47 = some (.getfield 11026, 3, [], []) := by decide +kernel
theorem f216_50 : fr 216 50 = some (.aload 0, 1, [0], []) := by decide +kernel
theorem f216_51 : fr 216 51 = some (.getfield 11027, 3, [], []) := by decide +kernel
theorem f216_54 : fr 216 54 = some (.isub, 1, [], []) := by decide +kernel
theorem f216_55 : fr 216 55 = some (.ireturn, 1, [], []) := by decide +kernel
theorem t216_0 {X : XX} {d : Nat} {sz sl : Nat} {sh : Nat → Nat × Nat} {R : Nat → Nat → Option Nat} {I : Nat → Nat → Int32} {J : Nat → Nat → Int64} (hS : SF sh R)  : exe X d 216 0 [Value.ref 37] [] (sz, sl, sh, R, I, J) =
    (if ¬ (I 37 27) = (I 37 26) then (if inb (I 37 27) 40 then (if inb (I 37 27) 40 then ((ev X d 157 [Value.ref 37, Value.int (I 56 (I 37 27).toNatClampNeg), Value.int (I 58 (I 37 27).toNatClampNeg)] (sz, sl, sh, R, I, J)).bind fun q => exe X d 216 36 [Value.ref 37] (q.1.toList ++ []) q.2) else none) else none) else some (some (Value.int (-5)), (sz, sl, sh, R, I, J))) :=
  tq ((E_aload (v := Value.ref 37) rfl rfl f216_0)) (tq (tq ((G11027 f216_1)) (if_pos (zS37 hS))) (tq ((E_aload (v := Value.ref 37) rfl rfl f216_4)) (tq (tq ((G11026 f216_5)) (if_pos (zS37 hS))) (tq ((E_ic_ne f216_8)) (ite_c (tq ((E_aload (v := Value.ref 37) rfl rfl f216_14)) (tq ((E_aload (v := Value.ref 37) rfl rfl f216_15)) (tq (tq ((G11023 f216_16)) (if_pos (zS37 hS))) (tq (exe_R (zR37_23 hS)) (tq ((E_aload (v := Value.ref 37) rfl rfl f216_19)) (tq (tq ((G11027 f216_20)) (if_pos (zS37 hS))) (tq (tq ((E_iald f216_23)) (ite_ar (zS56 hS))) (ite_c (tq ((E_aload (v := Value.ref 37) rfl rfl f216_24)) (tq (tq ((G11025 f216_25)) (if_pos (zS37 hS))) (tq (exe_R (zR37_25 hS)) (tq ((E_aload (v := Value.ref 37) rfl rfl f216_28)) (tq (tq ((G11027 f216_29)) (if_pos (zS37 hS))) (tq (tq ((E_iald f216_32)) (ite_ar (zS58 hS))) (ite_c ((tq ((E_callV pn_157 pc_157 rfl rfl (Nat.le_of_ble_eq_true rfl) f216_33)) (if_pos (zS37 hS)))) rfl))))))) rfl)))))))) (tq ((E_iconst (x := (-5)) (by decide) f216_11)) ((E_iret pr_216 f216_13))))))))
theorem t216_36 {X : XX} {d : Nat} {sz sl : Nat} {sh : Nat → Nat × Nat} {R : Nat → Nat → Option Nat} {I : Nat → Nat → Int32} {J : Nat → Nat → Int64} (hS : SF sh R)  : exe X d 216 36 [Value.ref 37] [] (sz, sl, sh, R, I, J) =
    some (some (Value.int ((I 37 26) - ((I 37 27) + (1)))), (sz, sl, sh, R, (u2 I 37 27 ((I 37 27) + (1))), J)) :=
  tq ((E_aload (v := Value.ref 37) rfl rfl f216_36)) (tq ((E_dup rfl f216_37)) (tq (tq ((G11027 f216_38)) (if_pos (zS37 hS))) (tq ((E_iconst (x := (1)) (by decide) f216_41)) (tq ((E_iadd f216_42)) (tq (tq ((P11027 f216_43)) (if_pos (zS37 hS))) (tq ((E_aload (v := Value.ref 37) rfl rfl f216_46)) (tq (tq (tq ((G11026 f216_47)) (if_pos (zS37 hS))) (exe_i (u2_pj (by decide)))) (tq ((E_aload (v := Value.ref 37) rfl rfl f216_50)) (tq (tq (tq ((G11027 f216_51)) (if_pos (zS37 hS))) (exe_i (u2_at0))) (tq ((E_isub f216_54)) ((E_iret pr_216 f216_55))))))))))))
theorem n216 {X : XX} {d : Nat} {h : HP}  : ev X (d + 1) 216 [Value.ref 37] h = exe X d 216 0 [Value.ref 37] [] h := ev_exe (Nat.le_of_ble_eq_true rfl)
theorem f217_0 : fr 217 0 = some (.iload 1, 1, [], []) := by decide +kernel
theorem f217_1 : fr 217 1 = some (.iconst 0, 1, [], []) := by decide +kernel
theorem f217_2 : fr 217 2 = some (.iconst 7, 2, [], []) := by decide +kernel
theorem f217_4 : fr 217 4 = some (.invokestatic 148, 3, [], []) := by decide +kernel
theorem f217_7 : fr 217 7 = some (.ifCond .ne 12, 3, [0, 1], []) := by decide +kernel
theorem f217_10 : fr 217 10 = some (.iconst (-1), 1, [], []) := by decide +kernel
theorem f217_11 : fr 217 11 = some (.ireturn, 1, [], []) := by decide +kernel
theorem f217_12 : fr 217 12 = some (.aload 0, 1, [], []) := by decide +kernel
theorem f217_13 : fr 217 13 = some (.getfield 11028, 3, [], []) := by decide +kernel
theorem f217_16 : fr 217 16 = some (.iconst 50, 2, [], []) := by decide +kernel
theorem f217_18 : fr 217 18 = some (.if_icmp .ne 24, 3, [0, 1], []) := by decide +kernel
theorem f217_21 : fr 217 21 = some (.iconst (-3), 2, [], []) := by decide +kernel
theorem f217_23 : fr 217 23 = some (.ireturn, 1, [], []) := by decide +kernel
theorem f217_24 : fr 217 24 = some (.aload 0, 1, [], []) := by decide +kernel
theorem f217_25 : fr 217 25 = some (.getfield 11029, 3, [], []) := by decide +kernel
theorem f217_28 : fr 217 28 = some (.aload 0, 1, [], []) := by decide +kernel
theorem f217_29 : fr 217 29 = some (.getfield 11028, 3, [], []) := by decide +kernel
theorem f217_32 : fr 217 32 = some (.iload 1, 1, [1], []) := by decide +kernel
theorem f217_33 : fr 217 33 = some (.iastore, 1, [], []) := by decide +kernel
theorem f217_34 : fr 217 34 = some (.aload 0, 1, [], []) := by decide +kernel
theorem f217_35 : fr 217 35 = some (.dup, 1, [], []) := by decide +kernel
theorem f217_36 : fr 217 36 = some (.getfield 11028, 3, [], []) := by decide +kernel
theorem f217_39 : fr 217 39 = some (.iconst 1, 1, [], []) := by decide +kernel
theorem f217_40 : fr 217 40 = some (.iadd, 1, [], []) := by decide +kernel
theorem f217_41 : fr 217 41 = some (.putfield 11028, 3, [], []) := by decide +kernel
theorem f217_44 : fr 217 44 = some (.aload 0, 1, [0], []) := by decide +kernel
theorem f217_45 : fr 217 45 = some (.getfield 11028, 3, [], []) := by decide +kernel
theorem f217_48 : fr 217 48 = some (.iconst 1, 1, [], []) := by decide +kernel
theorem f217_49 : fr 217 49 = some (.isub, 1, [], []) := by decide +kernel
theorem f217_50 : fr 217 50 = some (.ireturn, 1, [], []) := by decide +kernel
theorem t217_0 {X : XX} {d : Nat} {sz sl : Nat} {sh : Nat → Nat × Nat} {R : Nat → Nat → Option Nat} {I : Nat → Nat → Int32} {J : Nat → Nat → Int64} {l1 : Int32} : exe X d 217 0 [Value.ref 37, Value.int l1] [] (sz, sl, sh, R, I, J) =
    ((ev X d 148 [Value.int l1, Value.int (0), Value.int (7)] (sz, sl, sh, R, I, J)).bind fun q => exe X d 217 7 [Value.ref 37, Value.int l1] (q.1.toList ++ []) q.2) :=
  tq ((E_iload (x := l1) rfl f217_0)) (tq ((E_iconst (x := (0)) (by decide) f217_1)) (tq ((E_iconst (x := (7)) (by decide) f217_2)) ((E_callS pn_148 rfl rfl (Nat.le_of_ble_eq_true rfl) (Nat.le_of_ble_eq_true rfl) f217_4))))
theorem t217_7 {X : XX} {d : Nat} {sz sl : Nat} {sh : Nat → Nat × Nat} {R : Nat → Nat → Option Nat} {I : Nat → Nat → Int32} {J : Nat → Nat → Int64} (hS : SF sh R) {l1 : Int32} {s0 : Int32} : exe X d 217 7 [Value.ref 37, Value.int l1] [Value.int s0] (sz, sl, sh, R, I, J) =
    (if ¬ s0 = 0 then (if ¬ (I 37 28) = (50) then (if inb (I 37 28) 50 then some (some (Value.int (((I 37 28) + (1)) - (1))), (sz, sl, sh, R, (u2 (u2 I 59 (I 37 28).toNatClampNeg l1) 37 28 ((I 37 28) + (1))), J)) else none) else some (some (Value.int (-3)), (sz, sl, sh, R, I, J))) else some (some (Value.int (-1)), (sz, sl, sh, R, I, J))) :=
  tq ((E_if_ne f217_7)) (ite_c (tq ((E_aload (v := Value.ref 37) rfl rfl f217_12)) (tq (tq ((G11028 f217_13)) (if_pos (zS37 hS))) (tq ((E_iconst (x := (50)) (by decide) f217_16)) (tq ((E_ic_ne f217_18)) (ite_c (tq ((E_aload (v := Value.ref 37) rfl rfl f217_24)) (tq (tq ((G11029 f217_25)) (if_pos (zS37 hS))) (tq (exe_R (zR37_29 hS)) (tq ((E_aload (v := Value.ref 37) rfl rfl f217_28)) (tq (tq ((G11028 f217_29)) (if_pos (zS37 hS))) (tq ((E_iload (x := l1) rfl f217_32)) (tq (tq ((E_iast f217_33)) (ite_ar (zS59 hS))) (ite_c (tq ((E_aload (v := Value.ref 37) rfl rfl f217_34)) (tq ((E_dup rfl f217_35)) (tq (tq (tq ((G11028 f217_36)) (if_pos (zS37 hS))) (exe_i (u2_pa (by decide)))) (tq ((E_iconst (x := (1)) (by decide) f217_39)) (tq ((E_iadd f217_40)) (tq (tq ((P11028 f217_41)) (if_pos (zS37 hS))) (tq ((E_aload (v := Value.ref 37) rfl rfl f217_44)) (tq (tq (tq ((G11028 f217_45)) (if_pos (zS37 hS))) (exe_i (u2_at0))) (tq ((E_iconst (x := (1)) (by decide) f217_48)) (tq ((E_isub f217_49)) ((E_iret pr_217 f217_50)))))))))))) rfl)))))))) (tq ((E_iconst (x := (-3)) (by decide) f217_21)) ((E_iret pr_217 f217_23)))))))) (tq ((E_iconst (x := (-1)) (by decide) f217_10)) ((E_iret pr_217 f217_11))))
theorem n217 {X : XX} {d : Nat} {h : HP} {a0 : Int32} : ev X (d + 1) 217 [Value.ref 37, Value.int a0] h = exe X d 217 0 [Value.ref 37, Value.int a0] [] h := ev_exe (Nat.le_of_ble_eq_true rfl)
theorem f218_0 : fr 218 0 = some (.aload 0, 1, [], []) := by decide +kernel
theorem f218_1 : fr 218 1 = some (.iconst 0, 1, [], []) := by decide +kernel
theorem f218_2 : fr 218 2 = some (.putfield 11030, 3, [], []) := by decide +kernel
theorem f218_5 : fr 218 5 = some (.iload 1, 1, [], []) := by decide +kernel
theorem f218_6 : fr 218 6 = some (.iconst 0, 1, [], []) := by decide +kernel
theorem f218_7 : fr 218 7 = some (.aload 0, 1, [], []) := by decide +kernel
theorem f218_8 : fr 218 8 = some (.getfield 11028, 3, [], []) := by decide +kernel
theorem f218_11 : fr 218 11 = some (.iconst 1, 1, [], []) := by decide +kernel
theorem f218_12 : fr 218 12 = some (.isub, 1, [], []) := by decide +kernel
theorem f218_13 : fr 218 13 = some (.invokestatic 148, 3, [], []) := by decide +kernel
theorem f218_16 : fr 218 16 = some (.ifCond .eq 28, 3, [], [0, 1, 2, 3]) := by decide +kernel
theorem f218_19 : fr 218 19 = some (.iload 2, 1, [], []) := by decide +kernel
theorem f218_20 : fr 218 20 = some (.iconst 0, 1, [], []) := by decide +kernel
theorem f218_21 : fr 218 21 = some (.iconst 3, 1, [], []) := by decide +kernel
theorem f218_22 : fr 218 22 = some (.invokestatic 148, 3, [], []) := by decide +kernel
theorem f218_25 : fr 218 25 = some (.ifCond .ne 30, 3, [0, 1, 2, 3], []) := by decide +kernel
theorem f218_28 : fr 218 28 = some (.iconst 0, 1, [], []) := by decide +kernel
theorem f218_29 : fr 218 29 = some (.ireturn, 1, [], []) := by decide +kernel
theorem f218_30 : fr 218 30 = some (.aload 0, 1, [], []) := by decide +kernel
theorem f218_31 : fr 218 31 = some (.iload 1, 1, [], []) := by decide +kernel
theorem f218_32 : fr 218 32 = some (.putfield 11048, 3, [], []) := by decide +kernel
theorem f218_35 : fr 218 35 = some (.aload 0, 1, [], []) := by decide +kernel
theorem f218_36 : fr 218 36 = some (.getfield 11029, 3, [], []) := by decide +kernel
theorem f218_39 : fr 218 39 = some (.iload 1, 1, [1], []) := by decide +kernel
theorem f218_40 : fr 218 40 = some (.iaload, 1, [], []) := by decide +kernel
theorem f218_41 : fr 218 41 = some (.istore 4, 2, [], []) := by decide +kernel
theorem f218_43 : fr 218 43 = some (.iload 2, 1, [], []) := by decide +kernel
theorem f218_44 : fr 218 44 = some (.ifCond .ne 57, 3, [2], []) := by decide +kernel
theorem f218_47 : fr 218 47 = some (.aload 0, 1, [0], []) := by decide +kernel
theorem f218_48 : fr 218 48 = some (.iload 4, 2, [4], []) := by decide +kernel
theorem f218_50 : fr 218 50 = some (.iload 3, 1, [3], []) := by decide +kernel
theorem f218_51 : fr 218 51 = some (.invokevirtual 219, 3, [], []) := by decide +kernel
theorem f218_54 : fr 218 54 = some (.goto 94, 3, [], []) := by decide +kernel
theorem f218_57 : fr 218 57 = some (.iload 2, 1, [], []) := by decide +kernel
theorem f218_58 : fr 218 58 = some (.iconst 1, 1, [], []) := by decide +kernel
theorem f218_59 : fr 218 59 = some (.if_icmp .ne 72, 3, [2], []) := by decide +kernel
theorem f218_62 : fr 218 62 = some (.aload 0, 1, [0], []) := by decide +kernel
theorem f218_63 : fr 218 63 = some (.iload 4, 2, [4], []) := by decide +kernel
theorem f218_65 : fr 218 65 = some (.iload 3, 1, [3], []) := by decide +kernel
theorem f218_66 : fr 218 66 = some (.invokevirtual 222, 3, [], []) := by decide +kernel
theorem f218_69 : fr 218 69 = some (.goto 94, 3, [], []) := by decide +kernel
theorem f218_72 : fr 218 72 = some (.iload 2, 1, [2], []) := by decide +kernel
theorem f218_73 : fr 218 73 = some (.iconst 2, 1, [], []) := by decide +kernel
theorem f218_74 : fr 218 74 = some (.if_icmp .ne 87, 3, [], []) := by decide +kernel
theorem f218_77 : fr 218 77 = some (.aload 0, 1, [0], []) := by decide +kernel
theorem f218_78 : fr 218 78 = some (.iload 4, 2, [4], []) := by decide +kernel
theorem f218_80 : fr 218 80 = some (.iload 3, 1, [3], []) := by decide +kernel
theorem f218_81 : fr 218 81 = some (.invokevirtual 223, 3, [], []) := by decide +kernel
theorem f218_84 : fr 218 84 = some (.goto 94, 3, [], []) := by decide +kernel
theorem f218_87 : fr 218 87 = some (.aload 0, 1, [0], []) := by decide +kernel
theorem f218_88 : fr 218 88 = some (.iload 4, 2, [4], []) := by decide +kernel
theorem f218_90 : fr 218 90 = some (.iload 3, 1, [3], []) := by decide +kernel
theorem f218_91 : fr 218 91 = some (.invokevirtual 224, 3, [], []) := by decide +kernel
theorem f218_94 : fr 218 94 = some (.ireturn, 1, [], []) := by decide +kernel
theorem t218_0 {X : XX} {d : Nat} {sz sl : Nat} {sh : Nat → Nat × Nat} {R : Nat → Nat → Option Nat} {I : Nat → Nat → Int32} {J : Nat → Nat → Int64} (hS : SF sh R) {l1 : Int32} {l2 : Int32} {l3 : Int32} : exe X d 218 0 [Value.ref 37, Value.int l1, Value.int l2, Value.int l3, dm] [] (sz, sl, sh, R, I, J) =
    ((ev X d 148 [Value.int l1, Value.int (0), Value.int ((I 37 28) - (1))] (sz, sl, sh, R, (u2 I 37 30 (0)), J)).bind fun q => exe X d 218 16 [Value.ref 37, Value.int l1, Value.int l2, Value.int l3, dm] (q.1.toList ++ []) q.2) :=
  tq ((E_aload (v := Value.ref 37) rfl rfl f218_0)) (tq ((E_iconst (x := (0)) (by decide) f218_1)) (tq (tq ((P11030 f218_2)) (if_pos (zS37 hS))) (tq ((E_iload (x := l1) rfl f218_5)) (tq ((E_iconst (x := (0)) (by decide) f218_6)) (tq ((E_aload (v := Value.ref 37) rfl rfl f218_7)) (tq (tq (tq ((G11028 f218_8)) (if_pos (zS37 hS))) (exe_i (u2_pj (by decide)))) (tq ((E_iconst (x := (1)) (by decide) f218_11)) (tq ((E_isub f218_12)) ((E_callS pn_148 rfl rfl (Nat.le_of_ble_eq_true rfl) (Nat.le_of_ble_eq_true rfl) f218_13))))))))))
theorem t218_16 {X : XX} {d : Nat} {sz sl : Nat} {sh : Nat → Nat × Nat} {R : Nat → Nat → Option Nat} {I : Nat → Nat → Int32} {J : Nat → Nat → Int64} {l1 : Int32} {l2 : Int32} {l3 : Int32} {s0 : Int32} : exe X d 218 16 [Value.ref 37, Value.int l1, Value.int l2, Value.int l3, dm] [Value.int s0] (sz, sl, sh, R, I, J) =
    (if s0 = 0 then some (some (Value.int (0)), (sz, sl, sh, R, I, J)) else ((ev X d 148 [Value.int l2, Value.int (0), Value.int (3)] (sz, sl, sh, R, I, J)).bind fun q => exe X d 218 25 [Value.ref 37, Value.int l1, Value.int l2, Value.int l3, dm] (q.1.toList ++ []) q.2)) :=
  tq ((E_if_eq f218_16)) (ite_c (tq ((E_iconst (x := (0)) (by decide) f218_28)) ((E_iret pr_218 f218_29))) (tq ((E_iload (x := l2) rfl f218_19)) (tq ((E_iconst (x := (0)) (by decide) f218_20)) (tq ((E_iconst (x := (3)) (by decide) f218_21)) ((E_callS pn_148 rfl rfl (Nat.le_of_ble_eq_true rfl) (Nat.le_of_ble_eq_true rfl) f218_22))))))
theorem t218_25 {X : XX} {d : Nat} {sz sl : Nat} {sh : Nat → Nat × Nat} {R : Nat → Nat → Option Nat} {I : Nat → Nat → Int32} {J : Nat → Nat → Int64} (hS : SF sh R) {l1 : Int32} {l2 : Int32} {l3 : Int32} {s0 : Int32} : exe X d 218 25 [Value.ref 37, Value.int l1, Value.int l2, Value.int l3, dm] [Value.int s0] (sz, sl, sh, R, I, J) =
    (if ¬ s0 = 0 then (if inb l1 50 then (if ¬ l2 = 0 then (if ¬ l2 = (1) then (if ¬ l2 = (2) then ((ev X d 224 [Value.ref 37, Value.int ((u2 I 37 48 l1) 59 l1.toNatClampNeg), Value.int l3] (sz, sl, sh, R, (u2 I 37 48 l1), J)).bind fun q => exe X d 218 94 [dm, dm, dm, dm, dm] (q.1.toList ++ []) q.2) else ((ev X d 223 [Value.ref 37, Value.int ((u2 I 37 48 l1) 59 l1.toNatClampNeg), Value.int l3] (sz, sl, sh, R, (u2 I 37 48 l1), J)).bind fun q => exe X d 218 84 [dm, dm, dm, dm, dm] (q.1.toList ++ []) q.2)) else ((ev X d 222 [Value.ref 37, Value.int ((u2 I 37 48 l1) 59 l1.toNatClampNeg), Value.int l3] (sz, sl, sh, R, (u2 I 37 48 l1), J)).bind fun q => exe X d 218 69 [dm, dm, dm, dm, dm] (q.1.toList ++ []) q.2)) else ((ev X d 219 [Value.ref 37, Value.int ((u2 I 37 48 l1) 59 l1.toNatClampNeg), Value.int l3] (sz, sl, sh, R, (u2 I 37 48 l1), J)).bind fun q => exe X d 218 54 [dm, dm, dm, dm, dm] (q.1.toList ++ []) q.2)) else none) else some (some (Value.int (0)), (sz, sl, sh, R, I, J))) :=
  tq ((E_if_ne f218_25)) (ite_c (tq ((E_aload (v := Value.ref 37) rfl rfl f218_30)) (tq ((E_iload (x := l1) rfl f218_31)) (tq (tq ((P11048 f218_32)) (if_pos (zS37 hS))) (tq ((E_aload (v := Value.ref 37) rfl rfl f218_35)) (tq (tq ((G11029 f218_36)) (if_pos (zS37 hS))) (tq (exe_R (zR37_29 hS)) (tq ((E_iload (x := l1) rfl f218_39)) (tq (tq ((E_iald f218_40)) (ite_ar (zS59 hS))) (ite_c (tq ((E_istore rfl f218_41)) (tq ((E_iload (x := l2) rfl f218_43)) (tq ((E_if_ne f218_44)) (ite_c (tq ((E_iload (x := l2) rfl f218_57)) (tq ((E_iconst (x := (1)) (by decide) f218_58)) (tq ((E_ic_ne f218_59)) (ite_c (tq ((E_iload (x := l2) rfl f218_72)) (tq ((E_iconst (x := (2)) (by decide) f218_73)) (tq ((E_ic_ne f218_74)) (ite_c (tq ((E_aload (v := Value.ref 37) rfl rfl f218_87)) (tq ((E_iload (x := ((u2 I 37 48 l1) 59 l1.toNatClampNeg)) rfl f218_88)) (tq ((E_iload (x := l3) rfl f218_90)) ((tq ((E_callV pn_224 pc_224 rfl rfl (Nat.le_of_ble_eq_true rfl) f218_91)) (if_pos (zS37 hS))))))) (tq ((E_aload (v := Value.ref 37) rfl rfl f218_77)) (tq ((E_iload (x := ((u2 I 37 48 l1) 59 l1.toNatClampNeg)) rfl f218_78)) (tq ((E_iload (x := l3) rfl f218_80)) ((tq ((E_callV pn_223 pc_223 rfl rfl (Nat.le_of_ble_eq_true rfl) f218_81)) (if_pos (zS37 hS))))))))))) (tq ((E_aload (v := Value.ref 37) rfl rfl f218_62)) (tq ((E_iload (x := ((u2 I 37 48 l1) 59 l1.toNatClampNeg)) rfl f218_63)) (tq ((E_iload (x := l3) rfl f218_65)) ((tq ((E_callV pn_222 pc_222 rfl rfl (Nat.le_of_ble_eq_true rfl) f218_66)) (if_pos (zS37 hS))))))))))) (tq ((E_aload (v := Value.ref 37) rfl rfl f218_47)) (tq ((E_iload (x := ((u2 I 37 48 l1) 59 l1.toNatClampNeg)) rfl f218_48)) (tq ((E_iload (x := l3) rfl f218_50)) ((tq ((E_callV pn_219 pc_219 rfl rfl (Nat.le_of_ble_eq_true rfl) f218_51)) (if_pos (zS37 hS))))))))))) rfl))))))))) (tq ((E_iconst (x := (0)) (by decide) f218_28)) ((E_iret pr_218 f218_29))))
theorem t218_54 {X : XX} {d : Nat} {sz sl : Nat} {sh : Nat → Nat × Nat} {R : Nat → Nat → Option Nat} {I : Nat → Nat → Int32} {J : Nat → Nat → Int64} {s0 : Int32} : exe X d 218 54 [dm, dm, dm, dm, dm] [Value.int s0] (sz, sl, sh, R, I, J) =
    exe X d 218 94 [dm, dm, dm, dm, dm] [Value.int s0] (sz, sl, sh, R, I, J) :=
  (E_goto f218_54)
theorem t218_69 {X : XX} {d : Nat} {sz sl : Nat} {sh : Nat → Nat × Nat} {R : Nat → Nat → Option Nat} {I : Nat → Nat → Int32} {J : Nat → Nat → Int64} {s0 : Int32} : exe X d 218 69 [dm, dm, dm, dm, dm] [Value.int s0] (sz, sl, sh, R, I, J) =
    exe X d 218 94 [dm, dm, dm, dm, dm] [Value.int s0] (sz, sl, sh, R, I, J) :=
  (E_goto f218_69)
theorem t218_84 {X : XX} {d : Nat} {sz sl : Nat} {sh : Nat → Nat × Nat} {R : Nat → Nat → Option Nat} {I : Nat → Nat → Int32} {J : Nat → Nat → Int64} {s0 : Int32} : exe X d 218 84 [dm, dm, dm, dm, dm] [Value.int s0] (sz, sl, sh, R, I, J) =
    exe X d 218 94 [dm, dm, dm, dm, dm] [Value.int s0] (sz, sl, sh, R, I, J) :=
  (E_goto f218_84)
theorem t218_94 {X : XX} {d : Nat} {sz sl : Nat} {sh : Nat → Nat × Nat} {R : Nat → Nat → Option Nat} {I : Nat → Nat → Int32} {J : Nat → Nat → Int64} {s0 : Int32} : exe X d 218 94 [dm, dm, dm, dm, dm] [Value.int s0] (sz, sl, sh, R, I, J) =
    some (some (Value.int s0), (sz, sl, sh, R, I, J)) :=
  (E_iret pr_218 f218_94)
theorem n218 {X : XX} {d : Nat} {h : HP} {a0 : Int32} {a1 : Int32} {a2 : Int32} : ev X (d + 1) 218 [Value.ref 37, Value.int a0, Value.int a1, Value.int a2] h = exe X d 218 0 [Value.ref 37, Value.int a0, Value.int a1, Value.int a2, dm] [] h := ev_exe (Nat.le_of_ble_eq_true rfl)
theorem f219_0 : fr 219 0 = some (.iload 1, 1, [], []) := by decide +kernel
theorem f219_1 : fr 219 1 = some (.iconst 1, 1, [], []) := by decide +kernel
theorem f219_2 : fr 219 2 = some (.if_icmp .ne 23, 3, [], []) := by decide +kernel
theorem f219_5 : fr 219 5 = some (.aload 0, 1, [], []) := by decide +kernel
theorem f219_6 : fr 219 6 = some (.iconst 20, 2, [], []) := by decide +kernel
theorem f219_8 : fr 219 8 = some (.invokevirtual 220, 3, [], []) := by decide +kernel
theorem f219_11 : fr 219 11 = some (.aload 0, 1, [0], []) := by decide +kernel
theorem f219_12 : fr 219 12 = some (.iload 1, 1, [1], []) := by decide +kernel
theorem f219_13 : fr 219 13 = some (.invokestatic 221, 3, [], []) := by decide +kernel
theorem f219_16 : fr 219 16 = some (.iload 2, 1, [2], []) := by decide +kernel
theorem f219_17 : fr 219 17 = some (.invokevirtual 219, 3, [], []) := by decide +kernel
theorem f219_20 : fr 219 20 = some (.iconst 3, 1, [], []) := by decide +kernel
theorem f219_21 : fr 219 21 = some (.iadd, 1, [], []) := by decide +kernel
theorem f219_22 : fr 219 22 = some (.ireturn, 1, [], []) := by decide +kernel
theorem f219_23 : fr 219 23 = some (.iload 1, 1, [], []) := by decide +kernel
theorem f219_24 : fr 219 24 = some (.iconst 3, 1, [], []) := by decide +kernel
theorem f219_25 : fr 219 25 = some (.if_icmp .ne 46, 3, [], []) := by decide +kernel
theorem f219_28 : fr 219 28 = some (.aload 0, 1, [], []) := by decide +kernel
theorem f219_29 : fr 219 29 = some (.iconst 41, 2, [], []) := by decide +kernel
theorem f219_31 : fr 219 31 = some (.invokevirtual 220, 3, [], []) := by decide +kernel
theorem f219_34 : fr 219 34 = some (.aload 0, 1, [0], []) := by decide +kernel
theorem f219_35 : fr 219 35 = some (.iload 1, 1, [1], []) := by decide +kernel
theorem f219_36 : fr 219 36 = some (.invokestatic 221, 3, [], []) := by decide +kernel
theorem f219_39 : fr 219 39 = some (.iload 2, 1, [2], []) := by decide +kernel
theorem f219_40 : fr 219 40 = some (.iconst 1, 1, [], []) := by decide +kernel
theorem f219_41 : fr 219 41 = some (.iadd, 1, [], []) := by decide +kernel
theorem f219_42 : fr 219 42 = some (.invokevirtual 219, 3, [], []) := by decide +kernel
theorem f219_45 : fr 219 45 = some (.ireturn, 1, [], []) := by decide +kernel
theorem f219_46 : fr 219 46 = some (.iload 1, 1, [], []) := by decide +kernel
theorem f219_47 : fr 219 47 = some (.iconst 7, 2, [], []) := by decide +kernel
theorem f219_49 : fr 219 49 = some (.if_icmp .ne 70, 3, [], []) := by decide +kernel
theorem f219_52 : fr 219 52 = some (.aload 0, 1, [], []) := by decide +kernel
theorem f219_53 : fr 219 53 = some (.iconst 80, 2, [], []) := by decide +kernel
theorem f219_55 : fr 219 55 = some (.invokevirtual 220, 3, [], []) := by decide +kernel
theorem f219_58 : fr 219 58 = some (.aload 0, 1, [0], []) := by decide +kernel
theorem f219_59 : fr 219 59 = some (.iload 1, 1, [1], []) := by decide +kernel
theorem f219_60 : fr 219 60 = some (.invokestatic 221, 3, [], []) := by decide +kernel
theorem f219_63 : fr 219 63 = some (.iload 2, 1, [2], []) := by decide +kernel
theorem f219_64 : fr 219 64 = some (.invokevirtual 219, 3, [], []) := by decide +kernel
theorem f219_67 : fr 219 67 = some (.iconst 3, 1, [], []) := by decide +kernel
theorem f219_68 : fr 219 68 = some (.imul, 1, [], []) := by decide +kernel
theorem f219_69 : fr 219 69 = some (.ireturn, 1, [], []) := by decide +kernel
theorem f219_70 : fr 219 70 = some (.iload 1, 1, [], []) := by decide +kernel
theorem f219_71 : fr 219 71 = some (.ifCond .le 84, 3, [], [1]) := by decide +kernel
theorem f219_74 : fr 219 74 = some (.aload 0, 1, [0], []) := by decide +kernel
theorem f219_75 : fr 219 75 = some (.iload 1, 1, [1], []) := by decide +kernel
theorem f219_76 : fr 219 76 = some (.invokestatic 221, 3, [], []) := by decide +kernel
theorem f219_79 : fr 219 79 = some (.iload 2, 1, [2], []) := by decide +kernel
theorem f219_80 : fr 219 80 = some (.invokevirtual 219, 3, [], []) := by decide +kernel
theorem f219_83 : fr 219 83 = some (.ireturn, 1, [], []) := by decide +kernel
theorem f219_84 : fr 219 84 = some (.aload 0, 1, [], []) := by decide +kernel
theorem f219_85 : fr 219 85 = some (.iconst 1, 1, [], []) := by decide +kernel
theorem f219_86 : fr 219 86 = some (.invokevirtual 220, 3, [], []) := by decide +kernel
theorem f219_89 : fr 219 89 = some (.iload 2, 1, [2], []) := by decide +kernel
theorem f219_90 : fr 219 90 = some (.aload 0, 1, [0], []) := by decide +kernel
theorem f219_91 : fr 219 91 = some (.getfield 11048, 3, [], []) := by decide +kernel
theorem f219_94 : fr 219 94 = some (.iadd, 1, [], []) := by decide +kernel
theorem f219_95 : fr 219 95 = some (.ireturn, 1, [], []) := by decide +kernel
theorem t219_0 {X : XX} {d : Nat} {sz sl : Nat} {sh : Nat → Nat × Nat} {R : Nat → Nat → Option Nat} {I : Nat → Nat → Int32} {J : Nat → Nat → Int64} (hS : SF sh R) {l1 : Int32} {l2 : Int32} : exe X d 219 0 [Value.ref 37, Value.int l1, Value.int l2] [] (sz, sl, sh, R, I, J) =
    (if ¬ l1 = (1) then (if ¬ l1 = (3) then (if ¬ l1 = (7) then (if l1 ≤ 0 then ((ev X d 220 [Value.ref 37, Value.int (1)] (sz, sl, sh, R, I, J)).bind fun q => exe X d 219 89 [Value.ref 37, dm, Value.int l2] (q.1.toList ++ []) q.2) else ((ev X d 221 [Value.int l1] (sz, sl, sh, R, I, J)).bind fun q => exe X d 219 79 [dm, dm, Value.int l2] (q.1.toList ++ [Value.ref 37]) q.2)) else ((ev X d 220 [Value.ref 37, Value.int (80)] (sz, sl, sh, R, I, J)).bind fun q => exe X d 219 58 [Value.ref 37, Value.int l1, Value.int l2] (q.1.toList ++ []) q.2)) else ((ev X d 220 [Value.ref 37, Value.int (41)] (sz, sl, sh, R, I, J)).bind fun q => exe X d 219 34 [Value.ref 37, Value.int l1, Value.int l2] (q.1.toList ++ []) q.2)) else ((ev X d 220 [Value.ref 37, Value.int (20)] (sz, sl, sh, R, I, J)).bind fun q => exe X d 219 11 [Value.ref 37, Value.int l1, Value.int l2] (q.1.toList ++ []) q.2)) :=
  tq ((E_iload (x := l1) rfl f219_0)) (tq ((E_iconst (x := (1)) (by decide) f219_1)) (tq ((E_ic_ne f219_2)) (ite_c (tq ((E_iload (x := l1) rfl f219_23)) (tq ((E_iconst (x := (3)) (by decide) f219_24)) (tq ((E_ic_ne f219_25)) (ite_c (tq ((E_iload (x := l1) rfl f219_46)) (tq ((E_iconst (x := (7)) (by decide) f219_47)) (tq ((E_ic_ne f219_49)) (ite_c (tq ((E_iload (x := l1) rfl f219_70)) (tq ((E_if_le f219_71)) (ite_c (tq ((E_aload (v := Value.ref 37) rfl rfl f219_84)) (tq ((E_iconst (x := (1)) (by decide) f219_85)) ((tq ((E_callV pn_220 pc_220 rfl rfl (Nat.le_of_ble_eq_true rfl) f219_86)) (if_pos (zS37 hS)))))) (tq ((E_aload (v := Value.ref 37) rfl rfl f219_74)) (tq ((E_iload (x := l1) rfl f219_75)) ((E_callS pn_221 rfl rfl (Nat.le_of_ble_eq_true rfl) (Nat.le_of_ble_eq_true rfl) f219_76))))))) (tq ((E_aload (v := Value.ref 37) rfl rfl f219_52)) (tq ((E_iconst (x := (80)) (by decide) f219_53)) ((tq ((E_callV pn_220 pc_220 rfl rfl (Nat.le_of_ble_eq_true rfl) f219_55)) (if_pos (zS37 hS)))))))))) (tq ((E_aload (v := Value.ref 37) rfl rfl f219_28)) (tq ((E_iconst (x := (41)) (by decide) f219_29)) ((tq ((E_callV pn_220 pc_220 rfl rfl (Nat.le_of_ble_eq_true rfl) f219_31)) (if_pos (zS37 hS)))))))))) (tq ((E_aload (v := Value.ref 37) rfl rfl f219_5)) (tq ((E_iconst (x := (20)) (by decide) f219_6)) ((tq ((E_callV pn_220 pc_220 rfl rfl (Nat.le_of_ble_eq_true rfl) f219_8)) (if_pos (zS37 hS)))))))))
theorem t219_11 {X : XX} {d : Nat} {sz sl : Nat} {sh : Nat → Nat × Nat} {R : Nat → Nat → Option Nat} {I : Nat → Nat → Int32} {J : Nat → Nat → Int64} {l1 : Int32} {l2 : Int32} : exe X d 219 11 [Value.ref 37, Value.int l1, Value.int l2] [] (sz, sl, sh, R, I, J) =
    ((ev X d 221 [Value.int l1] (sz, sl, sh, R, I, J)).bind fun q => exe X d 219 16 [dm, dm, Value.int l2] (q.1.toList ++ [Value.ref 37]) q.2) :=
  tq ((E_aload (v := Value.ref 37) rfl rfl f219_11)) (tq ((E_iload (x := l1) rfl f219_12)) ((E_callS pn_221 rfl rfl (Nat.le_of_ble_eq_true rfl) (Nat.le_of_ble_eq_true rfl) f219_13)))
theorem t219_16 {X : XX} {d : Nat} {sz sl : Nat} {sh : Nat → Nat × Nat} {R : Nat → Nat → Option Nat} {I : Nat → Nat → Int32} {J : Nat → Nat → Int64} {l2 : Int32} {s0 : Int32} {s1 : Value} (k1 : isB s1 = true) : exe X d 219 16 [dm, dm, Value.int l2] [Value.int s0, s1] (sz, sl, sh, R, I, J) =
    (rf (s1) fun p1 => if sh p1 = (18, 0) then ((ev X d 219 [Value.ref p1, Value.int s0, Value.int l2] (sz, sl, sh, R, I, J)).bind fun q => exe X d 219 20 [dm, dm, dm] (q.1.toList ++ []) q.2) else none) :=
  tq ((E_iload (x := l2) rfl f219_16)) ((E_callV pn_219 pc_219 rfl rfl (Nat.le_of_ble_eq_true rfl) f219_17))
theorem t219_20 {X : XX} {d : Nat} {sz sl : Nat} {sh : Nat → Nat × Nat} {R : Nat → Nat → Option Nat} {I : Nat → Nat → Int32} {J : Nat → Nat → Int64} {s0 : Int32} : exe X d 219 20 [dm, dm, dm] [Value.int s0] (sz, sl, sh, R, I, J) =
    some (some (Value.int (s0 + (3))), (sz, sl, sh, R, I, J)) :=
  tq ((E_iconst (x := (3)) (by decide) f219_20)) (tq ((E_iadd f219_21)) ((E_iret pr_219 f219_22)))
theorem t219_34 {X : XX} {d : Nat} {sz sl : Nat} {sh : Nat → Nat × Nat} {R : Nat → Nat → Option Nat} {I : Nat → Nat → Int32} {J : Nat → Nat → Int64} {l1 : Int32} {l2 : Int32} : exe X d 219 34 [Value.ref 37, Value.int l1, Value.int l2] [] (sz, sl, sh, R, I, J) =
    ((ev X d 221 [Value.int l1] (sz, sl, sh, R, I, J)).bind fun q => exe X d 219 39 [dm, dm, Value.int l2] (q.1.toList ++ [Value.ref 37]) q.2) :=
  tq ((E_aload (v := Value.ref 37) rfl rfl f219_34)) (tq ((E_iload (x := l1) rfl f219_35)) ((E_callS pn_221 rfl rfl (Nat.le_of_ble_eq_true rfl) (Nat.le_of_ble_eq_true rfl) f219_36)))
theorem t219_39 {X : XX} {d : Nat} {sz sl : Nat} {sh : Nat → Nat × Nat} {R : Nat → Nat → Option Nat} {I : Nat → Nat → Int32} {J : Nat → Nat → Int64} {l2 : Int32} {s0 : Int32} {s1 : Value} (k1 : isB s1 = true) : exe X d 219 39 [dm, dm, Value.int l2] [Value.int s0, s1] (sz, sl, sh, R, I, J) =
    (rf (s1) fun p1 => if sh p1 = (18, 0) then ((ev X d 219 [Value.ref p1, Value.int s0, Value.int (l2 + (1))] (sz, sl, sh, R, I, J)).bind fun q => exe X d 219 45 [dm, dm, dm] (q.1.toList ++ []) q.2) else none) :=
  tq ((E_iload (x := l2) rfl f219_39)) (tq ((E_iconst (x := (1)) (by decide) f219_40)) (tq ((E_iadd f219_41)) ((E_callV pn_219 pc_219 rfl rfl (Nat.le_of_ble_eq_true rfl) f219_42))))
theorem t219_45 {X : XX} {d : Nat} {sz sl : Nat} {sh : Nat → Nat × Nat} {R : Nat → Nat → Option Nat} {I : Nat → Nat → Int32} {J : Nat → Nat → Int64} {s0 : Int32} : exe X d 219 45 [dm, dm, dm] [Value.int s0] (sz, sl, sh, R, I, J) =
    some (some (Value.int s0), (sz, sl, sh, R, I, J)) :=
  (E_iret pr_219 f219_45)
theorem t219_58 {X : XX} {d : Nat} {sz sl : Nat} {sh : Nat → Nat × Nat} {R : Nat → Nat → Option Nat} {I : Nat → Nat → Int32} {J : Nat → Nat → Int64} {l1 : Int32} {l2 : Int32} : exe X d 219 58 [Value.ref 37, Value.int l1, Value.int l2] [] (sz, sl, sh, R, I, J) =
    ((ev X d 221 [Value.int l1] (sz, sl, sh, R, I, J)).bind fun q => exe X d 219 63 [dm, dm, Value.int l2] (q.1.toList ++ [Value.ref 37]) q.2) :=
  tq ((E_aload (v := Value.ref 37) rfl rfl f219_58)) (tq ((E_iload (x := l1) rfl f219_59)) ((E_callS pn_221 rfl rfl (Nat.le_of_ble_eq_true rfl) (Nat.le_of_ble_eq_true rfl) f219_60)))
theorem t219_63 {X : XX} {d : Nat} {sz sl : Nat} {sh : Nat → Nat × Nat} {R : Nat → Nat → Option Nat} {I : Nat → Nat → Int32} {J : Nat → Nat → Int64} {l2 : Int32} {s0 : Int32} {s1 : Value} (k1 : isB s1 = true) : exe X d 219 63 [dm, dm, Value.int l2] [Value.int s0, s1] (sz, sl, sh, R, I, J) =
    (rf (s1) fun p1 => if sh p1 = (18, 0) then ((ev X d 219 [Value.ref p1, Value.int s0, Value.int l2] (sz, sl, sh, R, I, J)).bind fun q => exe X d 219 67 [dm, dm, dm] (q.1.toList ++ []) q.2) else none) :=
  tq ((E_iload (x := l2) rfl f219_63)) ((E_callV pn_219 pc_219 rfl rfl (Nat.le_of_ble_eq_true rfl) f219_64))
theorem t219_67 {X : XX} {d : Nat} {sz sl : Nat} {sh : Nat → Nat × Nat} {R : Nat → Nat → Option Nat} {I : Nat → Nat → Int32} {J : Nat → Nat → Int64} {s0 : Int32} : exe X d 219 67 [dm, dm, dm] [Value.int s0] (sz, sl, sh, R, I, J) =
    some (some (Value.int (s0 * (3))), (sz, sl, sh, R, I, J)) :=
  tq ((E_iconst (x := (3)) (by decide) f219_67)) (tq ((E_imul f219_68)) ((E_iret pr_219 f219_69)))
theorem t219_79 {X : XX} {d : Nat} {sz sl : Nat} {sh : Nat → Nat × Nat} {R : Nat → Nat → Option Nat} {I : Nat → Nat → Int32} {J : Nat → Nat → Int64} {l2 : Int32} {s0 : Int32} {s1 : Value} (k1 : isB s1 = true) : exe X d 219 79 [dm, dm, Value.int l2] [Value.int s0, s1] (sz, sl, sh, R, I, J) =
    (rf (s1) fun p1 => if sh p1 = (18, 0) then ((ev X d 219 [Value.ref p1, Value.int s0, Value.int l2] (sz, sl, sh, R, I, J)).bind fun q => exe X d 219 83 [dm, dm, dm] (q.1.toList ++ []) q.2) else none) :=
  tq ((E_iload (x := l2) rfl f219_79)) ((E_callV pn_219 pc_219 rfl rfl (Nat.le_of_ble_eq_true rfl) f219_80))
theorem t219_83 {X : XX} {d : Nat} {sz sl : Nat} {sh : Nat → Nat × Nat} {R : Nat → Nat → Option Nat} {I : Nat → Nat → Int32} {J : Nat → Nat → Int64} {s0 : Int32} : exe X d 219 83 [dm, dm, dm] [Value.int s0] (sz, sl, sh, R, I, J) =
    some (some (Value.int s0), (sz, sl, sh, R, I, J)) :=
  (E_iret pr_219 f219_83)
theorem t219_89 {X : XX} {d : Nat} {sz sl : Nat} {sh : Nat → Nat × Nat} {R : Nat → Nat → Option Nat} {I : Nat → Nat → Int32} {J : Nat → Nat → Int64} (hS : SF sh R) {l2 : Int32} : exe X d 219 89 [Value.ref 37, dm, Value.int l2] [] (sz, sl, sh, R, I, J) =
    some (some (Value.int (l2 + (I 37 48))), (sz, sl, sh, R, I, J)) :=
  tq ((E_iload (x := l2) rfl f219_89)) (tq ((E_aload (v := Value.ref 37) rfl rfl f219_90)) (tq (tq ((G11048 f219_91)) (if_pos (zS37 hS))) (tq ((E_iadd f219_94)) ((E_iret pr_219 f219_95)))))
theorem n219 {X : XX} {d : Nat} {h : HP} {a0 : Int32} {a1 : Int32} : ev X (d + 1) 219 [Value.ref 37, Value.int a0, Value.int a1] h = exe X d 219 0 [Value.ref 37, Value.int a0, Value.int a1] [] h := ev_exe (Nat.le_of_ble_eq_true rfl)
theorem f220_0 : fr 220 0 = some (.aload 0, 1, [], []) := by decide +kernel
theorem f220_1 : fr 220 1 = some (.getfield 11030, 3, [], []) := by decide +kernel
theorem f220_4 : fr 220 4 = some (.iconst 24, 2, [], []) := by decide +kernel
theorem f220_6 : fr 220 6 = some (.if_icmp .ge 19, 3, [], [1]) := by decide +kernel
theorem f220_9 : fr 220 9 = some (.aload 0, 1, [], []) := by decide +kernel
theorem f220_10 : fr 220 10 = some (.getfield 11031, 3, [], []) := by decide +kernel
theorem f220_13 : fr 220 13 = some (.aload 0, 1, [], []) := by decide +kernel
theorem f220_14 : fr 220 14 = some (.getfield 11030, 3, [], []) := by decide +kernel
theorem f220_17 : fr 220 17 = some (.iload 1, 1, [1], []) := by decide +kernel
theorem f220_18 : fr 220 18 = some (.iastore, 1, [], []) := by decide +kernel
theorem f220_19 : fr 220 19 = some (.aload 0, 1, [0], []) := by decide +kernel
theorem f220_20 : fr 220 20 = some (.dup, 1, [], []) := by decide +kernel
theorem f220_21 : fr 220 21 = some (.getfield 11030, 3, [], []) := by decide +kernel
theorem f220_24 : fr 220 24 = some (.iconst 1, 1, [], []) := by decide +kernel
theorem f220_25 : fr 220 25 = some (.iadd, 1, [], []) := by decide +kernel
theorem f220_26 : fr 220 26 = some (.putfield 11030, 3, [], []) := by decide +kernel
theorem f220_29 : fr 220 29 = some (.return_, 1, [], []) := by decide +kernel
theorem t220_0 {X : XX} {d : Nat} {sz sl : Nat} {sh : Nat → Nat × Nat} {R : Nat → Nat → Option Nat} {I : Nat → Nat → Int32} {J : Nat → Nat → Int64} (hS : SF sh R) {l1 : Int32} : exe X d 220 0 [Value.ref 37, Value.int l1] [] (sz, sl, sh, R, I, J) =
    (if (24) ≤ (I 37 30) then some (none, (sz, sl, sh, R, (u2 I 37 30 ((I 37 30) + (1))), J)) else (if inb (I 37 30) 24 then some (none, (sz, sl, sh, R, (u2 (u2 I 60 (I 37 30).toNatClampNeg l1) 37 30 ((I 37 30) + (1))), J)) else none)) :=
  tq ((E_aload (v := Value.ref 37) rfl rfl f220_0)) (tq (tq ((G11030 f220_1)) (if_pos (zS37 hS))) (tq ((E_iconst (x := (24)) (by decide) f220_4)) (tq ((E_ic_ge f220_6)) (ite_c (tq ((E_aload (v := Value.ref 37) rfl rfl f220_19)) (tq ((E_dup rfl f220_20)) (tq (tq ((G11030 f220_21)) (if_pos (zS37 hS))) (tq ((E_iconst (x := (1)) (by decide) f220_24)) (tq ((E_iadd f220_25)) (tq (tq ((P11030 f220_26)) (if_pos (zS37 hS))) ((E_vret pr_220 f220_29)))))))) (tq ((E_aload (v := Value.ref 37) rfl rfl f220_9)) (tq (tq ((G11031 f220_10)) (if_pos (zS37 hS))) (tq (exe_R (zR37_31 hS)) (tq ((E_aload (v := Value.ref 37) rfl rfl f220_13)) (tq (tq ((G11030 f220_14)) (if_pos (zS37 hS))) (tq ((E_iload (x := l1) rfl f220_17)) (tq (tq ((E_iast f220_18)) (ite_ar (zS60 hS))) (ite_c (tq ((E_aload (v := Value.ref 37) rfl rfl f220_19)) (tq ((E_dup rfl f220_20)) (tq (tq (tq ((G11030 f220_21)) (if_pos (zS37 hS))) (exe_i (u2_pa (by decide)))) (tq ((E_iconst (x := (1)) (by decide) f220_24)) (tq ((E_iadd f220_25)) (tq (tq ((P11030 f220_26)) (if_pos (zS37 hS))) ((E_vret pr_220 f220_29)))))))) rfl))))))))))))
theorem n220 {X : XX} {d : Nat} {h : HP} {a0 : Int32} : ev X (d + 1) 220 [Value.ref 37, Value.int a0] h = exe X d 220 0 [Value.ref 37, Value.int a0] [] h := ev_exe (Nat.le_of_ble_eq_true rfl)
theorem f221_0 : fr 221 0 = some (.iload 0, 1, [], []) := by decide +kernel
theorem f221_1 : fr 221 1 = some (.ifCond .ne 8, 3, [0], []) := by decide +kernel
theorem f221_4 : fr 221 4 = some (.iconst (-1), 1, [], []) := by decide +kernel
theorem f221_5 : fr 221 5 = some (.goto 38, 3, [], []) := by decide +kernel
theorem f221_8 : fr 221 8 = some (.iload 0, 1, [], []) := by decide +kernel
theorem f221_9 : fr 221 9 = some (.iconst 3, 1, [], []) := by decide +kernel
theorem f221_10 : fr 221 10 = some (.if_icmp .ne 17, 3, [0], []) := by decide +kernel
theorem f221_13 : fr 221 13 = some (.iconst 1, 1, [], []) := by decide +kernel
theorem f221_14 : fr 221 14 = some (.goto 38, 3, [], []) := by decide +kernel
theorem f221_17 : fr 221 17 = some (.iload 0, 1, [], []) := by decide +kernel
theorem f221_18 : fr 221 18 = some (.iconst 4, 1, [], []) := by decide +kernel
theorem f221_19 : fr 221 19 = some (.if_icmp .ne 26, 3, [0], []) := by decide +kernel
theorem f221_22 : fr 221 22 = some (.iconst 2, 1, [], []) := by decide +kernel
theorem f221_23 : fr 221 23 = some (.goto 38, 3, [], []) := by decide +kernel
theorem f221_26 : fr 221 26 = some (.iload 0, 1, [0], []) := by decide +kernel
theorem f221_27 : fr 221 27 = some (.iconst 7, 2, [], []) := by decide +kernel
theorem f221_29 : fr 221 29 = some (.if_icmp .ne 37, 3, [], []) := by decide +kernel
theorem f221_32 : fr 221 32 = some (.iconst 6, 2, [], []) := by decide +kernel
theorem f221_34 : fr 221 34 = some (.goto 38, 3, [], []) := by decide +kernel
theorem f221_37 : fr 221 37 = some (.iconst 0, 1, [], []) := by decide +kernel
theorem f221_38 : fr 221 38 = some (.ireturn, 1, [], []) := by decide +kernel
theorem t221_0 {X : XX} {d : Nat} {sz sl : Nat} {sh : Nat → Nat × Nat} {R : Nat → Nat → Option Nat} {I : Nat → Nat → Int32} {J : Nat → Nat → Int64} {l0 : Int32} : exe X d 221 0 [Value.int l0] [] (sz, sl, sh, R, I, J) =
    (if ¬ l0 = 0 then (if ¬ l0 = (3) then (if ¬ l0 = (4) then (if ¬ l0 = (7) then some (some (Value.int (0)), (sz, sl, sh, R, I, J)) else some (some (Value.int (6)), (sz, sl, sh, R, I, J))) else some (some (Value.int (2)), (sz, sl, sh, R, I, J))) else some (some (Value.int (1)), (sz, sl, sh, R, I, J))) else some (some (Value.int (-1)), (sz, sl, sh, R, I, J))) :=
  tq ((E_iload (x := l0) rfl f221_0)) (tq ((E_if_ne f221_1)) (ite_c (tq ((E_iload (x := l0) rfl f221_8)) (tq ((E_iconst (x := (3)) (by decide) f221_9)) (tq ((E_ic_ne f221_10)) (ite_c (tq ((E_iload (x := l0) rfl f221_17)) (tq ((E_iconst (x := (4)) (by decide) f221_18)) (tq ((E_ic_ne f221_19)) (ite_c (tq ((E_iload (x := l0) rfl f221_26)) (tq ((E_iconst (x := (7)) (by decide) f221_27)) (tq ((E_ic_ne f221_29)) (ite_c (tq ((E_iconst (x := (0)) (by decide) f221_37)) ((E_iret pr_221 f221_38))) (tq ((E_iconst (x := (6)) (by decide) f221_32)) (tq ((E_goto f221_34)) ((E_iret pr_221 f221_38)))))))) (tq ((E_iconst (x := (2)) (by decide) f221_22)) (tq ((E_goto f221_23)) ((E_iret pr_221 f221_38)))))))) (tq ((E_iconst (x := (1)) (by decide) f221_13)) (tq ((E_goto f221_14)) ((E_iret pr_221 f221_38)))))))) (tq ((E_iconst (x := (-1)) (by decide) f221_4)) (tq ((E_goto f221_5)) ((E_iret pr_221 f221_38))))))
theorem n221 {X : XX} {d : Nat} {h : HP} {a0 : Int32} : ev X (d + 1) 221 [Value.int a0] h = exe X d 221 0 [Value.int a0] [] h := ev_exe (Nat.le_of_ble_eq_true rfl)
theorem f222_0 : fr 222 0 = some (.iload 1, 1, [], []) := by decide +kernel
theorem f222_1 : fr 222 1 = some (.iconst 2, 1, [], []) := by decide +kernel
theorem f222_2 : fr 222 2 = some (.if_icmp .ne 22, 3, [], []) := by decide +kernel
theorem f222_5 : fr 222 5 = some (.aload 0, 1, [], []) := by decide +kernel
theorem f222_6 : fr 222 6 = some (.iconst 30, 2, [], []) := by decide +kernel
theorem f222_8 : fr 222 8 = some (.invokevirtual 220, 3, [], []) := by decide +kernel
theorem f222_11 : fr 222 11 = some (.aload 0, 1, [0], []) := by decide +kernel
theorem f222_12 : fr 222 12 = some (.iload 1, 1, [1], []) := by decide +kernel
theorem f222_13 : fr 222 13 = some (.invokestatic 221, 3, [], []) := by decide +kernel
theorem f222_16 : fr 222 16 = some (.iload 2, 1, [2], []) := by decide +kernel
theorem f222_17 : fr 222 17 = some (.invokevirtual 222, 3, [], []) := by decide +kernel
theorem f222_20 : fr 222 20 = some (.ineg, 1, [], []) := by decide +kernel
theorem f222_21 : fr 222 21 = some (.ireturn, 1, [], []) := by decide +kernel
theorem f222_22 : fr 222 22 = some (.iload 1, 1, [], []) := by decide +kernel
theorem f222_23 : fr 222 23 = some (.iconst 6, 2, [], []) := by decide +kernel
theorem f222_25 : fr 222 25 = some (.if_icmp .ne 61, 3, [], []) := by decide +kernel
theorem f222_28 : fr 222 28 = some (.aload 0, 1, [], []) := by decide +kernel
theorem f222_29 : fr 222 29 = some (.iconst 70, 2, [], []) := by decide +kernel
theorem f222_31 : fr 222 31 = some (.invokevirtual 220, 3, [], []) := by decide +kernel
theorem f222_34 : fr 222 34 = some (.aload 0, 1, [], []) := by decide +kernel
theorem f222_35 : fr 222 35 = some (.iload 1, 1, [1], []) := by decide +kernel
theorem f222_36 : fr 222 36 = some (.invokestatic 221, 3, [], []) := by decide +kernel
theorem f222_39 : fr 222 39 = some (.iload 2, 1, [2], []) := by decide +kernel
theorem f222_40 : fr 222 40 = some (.invokevirtual 222, 3, [], []) := by decide +kernel
theorem f222_43 : fr 222 43 = some (.istore 3, 1, [], []) := by decide +kernel
theorem f222_44 : fr 222 44 = some (.iload 3, 1, [3], []) := by decide +kernel
theorem f222_45 : fr 222 45 = some (.aload 0, 1, [], []) := by decide +kernel
theorem f222_46 : fr 222 46 = some (.aload 0, 1, [], []) := by decide +kernel
theorem f222_47 : fr 222 47 = some (.getfield 11029, 3, [], []) := by decide +kernel
theorem f222_50 : fr 222 50 = some (.aload 0, 1, [0], []) := by decide +kernel
theorem f222_51 : fr 222 51 = some (.getfield 11048, 3, [], []) := by decide +kernel
theorem f222_54 : fr 222 54 = some (.iaload, 1, [], []) := by decide +kernel
theorem f222_55 : fr 222 55 = some (.iconst 2, 1, [], []) := by decide +kernel
theorem f222_56 : fr 222 56 = some (.invokevirtual 223, 3, [], []) := by decide +kernel
theorem f222_59 : fr 222 59 = some (.iadd, 1, [], []) := by decide +kernel
theorem f222_60 : fr 222 60 = some (.ireturn, 1, [], []) := by decide +kernel
theorem f222_61 : fr 222 61 = some (.iload 1, 1, [], []) := by decide +kernel
theorem f222_62 : fr 222 62 = some (.ifCond .le 75, 3, [], [1]) := by decide +kernel
theorem f222_65 : fr 222 65 = some (.aload 0, 1, [0], []) := by decide +kernel
theorem f222_66 : fr 222 66 = some (.iload 1, 1, [1], []) := by decide +kernel
theorem f222_67 : fr 222 67 = some (.invokestatic 221, 3, [], []) := by decide +kernel
theorem f222_70 : fr 222 70 = some (.iload 2, 1, [2], []) := by decide +kernel
theorem f222_71 : fr 222 71 = some (.invokevirtual 222, 3, [], []) := by decide +kernel
theorem f222_74 : fr 222 74 = some (.ireturn, 1, [], []) := by decide +kernel
theorem f222_75 : fr 222 75 = some (.aload 0, 1, [], []) := by decide +kernel
theorem f222_76 : fr 222 76 = some (.iconst 10, 2, [], []) := by decide +kernel
theorem f222_78 : fr 222 78 = some (.invokevirtual 220, 3, [], []) := by decide +kernel
theorem f222_81 : fr 222 81 = some (.aload 0, 1, [], []) := by decide +kernel
theorem f222_82 : fr 222 82 = some (.aload 0, 1, [], []) := by decide +kernel
theorem f222_83 : fr 222 83 = some (.getfield 11029, 3, [], []) := by decide +kernel
theorem f222_86 : fr 222 86 = some (.aload 0, 1, [0], []) := by decide +kernel
theorem f222_87 : fr 222 87 = some (.getfield 11048, 3, [], []) := by decide +kernel
theorem f222_90 : fr 222 90 = some (.iaload, 1, [], []) := by decide +kernel
theorem f222_91 : fr 222 91 = some (.iload 2, 1, [2], []) := by decide +kernel
theorem f222_92 : fr 222 92 = some (.invokevirtual 219, 3, [], []) := by decide +kernel
theorem f222_95 : fr 222 95 = some (.iconst 2, 1, [], []) := by decide +kernel
theorem f222_96 : fr 222 96 = some (.imul, 1, [], []) := by decide +kernel
theorem f222_97 : fr 222 97 = some (.ireturn, 1, [], []) := by decide +kernel
theorem t222_0 {X : XX} {d : Nat} {sz sl : Nat} {sh : Nat → Nat × Nat} {R : Nat → Nat → Option Nat} {I : Nat → Nat → Int32} {J : Nat → Nat → Int64} (hS : SF sh R) {l1 : Int32} {l2 : Int32} : exe X d 222 0 [Value.ref 37, Value.int l1, Value.int l2, dm] [] (sz, sl, sh, R, I, J) =
    (if ¬ l1 = (2) then (if ¬ l1 = (6) then (if l1 ≤ 0 then ((ev X d 220 [Value.ref 37, Value.int (10)] (sz, sl, sh, R, I, J)).bind fun q => exe X d 222 81 [Value.ref 37, dm, Value.int l2, dm] (q.1.toList ++ []) q.2) else ((ev X d 221 [Value.int l1] (sz, sl, sh, R, I, J)).bind fun q => exe X d 222 70 [dm, dm, Value.int l2, dm] (q.1.toList ++ [Value.ref 37]) q.2)) else ((ev X d 220 [Value.ref 37, Value.int (70)] (sz, sl, sh, R, I, J)).bind fun q => exe X d 222 34 [Value.ref 37, Value.int l1, Value.int l2, dm] (q.1.toList ++ []) q.2)) else ((ev X d 220 [Value.ref 37, Value.int (30)] (sz, sl, sh, R, I, J)).bind fun q => exe X d 222 11 [Value.ref 37, Value.int l1, Value.int l2, dm] (q.1.toList ++ []) q.2)) :=
  tq ((E_iload (x := l1) rfl f222_0)) (tq ((E_iconst (x := (2)) (by decide) f222_1)) (tq ((E_ic_ne f222_2)) (ite_c (tq ((E_iload (x := l1) rfl f222_22)) (tq ((E_iconst (x := (6)) (by decide) f222_23)) (tq ((E_ic_ne f222_25)) (ite_c (tq ((E_iload (x := l1) rfl f222_61)) (tq ((E_if_le f222_62)) (ite_c (tq ((E_aload (v := Value.ref 37) rfl rfl f222_75)) (tq ((E_iconst (x := (10)) (by decide) f222_76)) ((tq ((E_callV pn_220 pc_220 rfl rfl (Nat.le_of_ble_eq_true rfl) f222_78)) (if_pos (zS37 hS)))))) (tq ((E_aload (v := Value.ref 37) rfl rfl f222_65)) (tq ((E_iload (x := l1) rfl f222_66)) ((E_callS pn_221 rfl rfl (Nat.le_of_ble_eq_true rfl) (Nat.le_of_ble_eq_true rfl) f222_67))))))) (tq ((E_aload (v := Value.ref 37) rfl rfl f222_28)) (tq ((E_iconst (x := (70)) (by decide) f222_29)) ((tq ((E_callV pn_220 pc_220 rfl rfl (Nat.le_of_ble_eq_true rfl) f222_31)) (if_pos (zS37 hS)))))))))) (tq ((E_aload (v := Value.ref 37) rfl rfl f222_5)) (tq ((E_iconst (x := (30)) (by decide) f222_6)) ((tq ((E_callV pn_220 pc_220 rfl rfl (Nat.le_of_ble_eq_true rfl) f222_8)) (if_pos (zS37 hS)))))))))
theorem t222_11 {X : XX} {d : Nat} {sz sl : Nat} {sh : Nat → Nat × Nat} {R : Nat → Nat → Option Nat} {I : Nat → Nat → Int32} {J : Nat → Nat → Int64} {l1 : Int32} {l2 : Int32} : exe X d 222 11 [Value.ref 37, Value.int l1, Value.int l2, dm] [] (sz, sl, sh, R, I, J) =
    ((ev X d 221 [Value.int l1] (sz, sl, sh, R, I, J)).bind fun q => exe X d 222 16 [dm, dm, Value.int l2, dm] (q.1.toList ++ [Value.ref 37]) q.2) :=
  tq ((E_aload (v := Value.ref 37) rfl rfl f222_11)) (tq ((E_iload (x := l1) rfl f222_12)) ((E_callS pn_221 rfl rfl (Nat.le_of_ble_eq_true rfl) (Nat.le_of_ble_eq_true rfl) f222_13)))
theorem t222_16 {X : XX} {d : Nat} {sz sl : Nat} {sh : Nat → Nat × Nat} {R : Nat → Nat → Option Nat} {I : Nat → Nat → Int32} {J : Nat → Nat → Int64} {l2 : Int32} {s0 : Int32} {s1 : Value} (k1 : isB s1 = true) : exe X d 222 16 [dm, dm, Value.int l2, dm] [Value.int s0, s1] (sz, sl, sh, R, I, J) =
    (rf (s1) fun p1 => if sh p1 = (18, 0) then ((ev X d 222 [Value.ref p1, Value.int s0, Value.int l2] (sz, sl, sh, R, I, J)).bind fun q => exe X d 222 20 [dm, dm, dm, dm] (q.1.toList ++ []) q.2) else none) :=
  tq ((E_iload (x := l2) rfl f222_16)) ((E_callV pn_222 pc_222 rfl rfl (Nat.le_of_ble_eq_true rfl) f222_17))
theorem t222_20 {X : XX} {d : Nat} {sz sl : Nat} {sh : Nat → Nat × Nat} {R : Nat → Nat → Option Nat} {I : Nat → Nat → Int32} {J : Nat → Nat → Int64} {s0 : Int32} : exe X d 222 20 [dm, dm, dm, dm] [Value.int s0] (sz, sl, sh, R, I, J) =
    some (some (Value.int (-s0)), (sz, sl, sh, R, I, J)) :=
  tq ((E_ineg f222_20)) ((E_iret pr_222 f222_21))
theorem t222_34 {X : XX} {d : Nat} {sz sl : Nat} {sh : Nat → Nat × Nat} {R : Nat → Nat → Option Nat} {I : Nat → Nat → Int32} {J : Nat → Nat → Int64} {l1 : Int32} {l2 : Int32} : exe X d 222 34 [Value.ref 37, Value.int l1, Value.int l2, dm] [] (sz, sl, sh, R, I, J) =
    ((ev X d 221 [Value.int l1] (sz, sl, sh, R, I, J)).bind fun q => exe X d 222 39 [Value.ref 37, dm, Value.int l2, dm] (q.1.toList ++ [Value.ref 37]) q.2) :=
  tq ((E_aload (v := Value.ref 37) rfl rfl f222_34)) (tq ((E_iload (x := l1) rfl f222_35)) ((E_callS pn_221 rfl rfl (Nat.le_of_ble_eq_true rfl) (Nat.le_of_ble_eq_true rfl) f222_36)))
theorem t222_39 {X : XX} {d : Nat} {sz sl : Nat} {sh : Nat → Nat × Nat} {R : Nat → Nat → Option Nat} {I : Nat → Nat → Int32} {J : Nat → Nat → Int64} {l2 : Int32} {s0 : Int32} {s1 : Value} (k1 : isB s1 = true) : exe X d 222 39 [Value.ref 37, dm, Value.int l2, dm] [Value.int s0, s1] (sz, sl, sh, R, I, J) =
    (rf (s1) fun p1 => if sh p1 = (18, 0) then ((ev X d 222 [Value.ref p1, Value.int s0, Value.int l2] (sz, sl, sh, R, I, J)).bind fun q => exe X d 222 43 [Value.ref 37, dm, dm, dm] (q.1.toList ++ []) q.2) else none) :=
  tq ((E_iload (x := l2) rfl f222_39)) ((E_callV pn_222 pc_222 rfl rfl (Nat.le_of_ble_eq_true rfl) f222_40))
theorem t222_43 {X : XX} {d : Nat} {sz sl : Nat} {sh : Nat → Nat × Nat} {R : Nat → Nat → Option Nat} {I : Nat → Nat → Int32} {J : Nat → Nat → Int64} (hS : SF sh R) {s0 : Int32} : exe X d 222 43 [Value.ref 37, dm, dm, dm] [Value.int s0] (sz, sl, sh, R, I, J) =
    (if inb (I 37 48) 50 then ((ev X d 223 [Value.ref 37, Value.int (I 59 (I 37 48).toNatClampNeg), Value.int (2)] (sz, sl, sh, R, I, J)).bind fun q => exe X d 222 59 [dm, dm, dm, dm] (q.1.toList ++ [Value.int s0]) q.2) else none) :=
  tq ((E_istore rfl f222_43)) (tq ((E_iload (x := s0) rfl f222_44)) (tq ((E_aload (v := Value.ref 37) rfl rfl f222_45)) (tq ((E_aload (v := Value.ref 37) rfl rfl f222_46)) (tq (tq ((G11029 f222_47)) (if_pos (zS37 hS))) (tq (exe_R (zR37_29 hS)) (tq ((E_aload (v := Value.ref 37) rfl rfl f222_50)) (tq (tq ((G11048 f222_51)) (if_pos (zS37 hS))) (tq (tq ((E_iald f222_54)) (ite_ar (zS59 hS))) (ite_c (tq ((E_iconst (x := (2)) (by decide) f222_55)) ((tq ((E_callV pn_223 pc_223 rfl rfl (Nat.le_of_ble_eq_true rfl) f222_56)) (if_pos (zS37 hS))))) rfl)))))))))
theorem t222_59 {X : XX} {d : Nat} {sz sl : Nat} {sh : Nat → Nat × Nat} {R : Nat → Nat → Option Nat} {I : Nat → Nat → Int32} {J : Nat → Nat → Int64} {s0 : Int32} {s1 : Int32} : exe X d 222 59 [dm, dm, dm, dm] [Value.int s0, Value.int s1] (sz, sl, sh, R, I, J) =
    some (some (Value.int (s1 + s0)), (sz, sl, sh, R, I, J)) :=
  tq ((E_iadd f222_59)) ((E_iret pr_222 f222_60))
theorem t222_70 {X : XX} {d : Nat} {sz sl : Nat} {sh : Nat → Nat × Nat} {R : Nat → Nat → Option Nat} {I : Nat → Nat → Int32} {J : Nat → Nat → Int64} {l2 : Int32} {s0 : Int32} {s1 : Value} (k1 : isB s1 = true) : exe X d 222 70 [dm, dm, Value.int l2, dm] [Value.int s0, s1] (sz, sl, sh, R, I, J) =
    (rf (s1) fun p1 => if sh p1 = (18, 0) then ((ev X d 222 [Value.ref p1, Value.int s0, Value.int l2] (sz, sl, sh, R, I, J)).bind fun q => exe X d 222 74 [dm, dm, dm, dm] (q.1.toList ++ []) q.2) else none) :=
  tq ((E_iload (x := l2) rfl f222_70)) ((E_callV pn_222 pc_222 rfl rfl (Nat.le_of_ble_eq_true rfl) f222_71))
theorem t222_74 {X : XX} {d : Nat} {sz sl : Nat} {sh : Nat → Nat × Nat} {R : Nat → Nat → Option Nat} {I : Nat → Nat → Int32} {J : Nat → Nat → Int64} {s0 : Int32} : exe X d 222 74 [dm, dm, dm, dm] [Value.int s0] (sz, sl, sh, R, I, J) =
    some (some (Value.int s0), (sz, sl, sh, R, I, J)) :=
  (E_iret pr_222 f222_74)
theorem t222_81 {X : XX} {d : Nat} {sz sl : Nat} {sh : Nat → Nat × Nat} {R : Nat → Nat → Option Nat} {I : Nat → Nat → Int32} {J : Nat → Nat → Int64} (hS : SF sh R) {l2 : Int32} : exe X d 222 81 [Value.ref 37, dm, Value.int l2, dm] [] (sz, sl, sh, R, I, J) =
    (if inb (I 37 48) 50 then ((ev X d 219 [Value.ref 37, Value.int (I 59 (I 37 48).toNatClampNeg), Value.int l2] (sz, sl, sh, R, I, J)).bind fun q => exe X d 222 95 [dm, dm, dm, dm] (q.1.toList ++ []) q.2) else none) :=
  tq ((E_aload (v := Value.ref 37) rfl rfl f222_81)) (tq ((E_aload (v := Value.ref 37) rfl rfl f222_82)) (tq (tq ((G11029 f222_83)) (if_pos (zS37 hS))) (tq (exe_R (zR37_29 hS)) (tq ((E_aload (v := Value.ref 37) rfl rfl f222_86)) (tq (tq ((G11048 f222_87)) (if_pos (zS37 hS))) (tq (tq ((E_iald f222_90)) (ite_ar (zS59 hS))) (ite_c (tq ((E_iload (x := l2) rfl f222_91)) ((tq ((E_callV pn_219 pc_219 rfl rfl (Nat.le_of_ble_eq_true rfl) f222_92)) (if_pos (zS37 hS))))) rfl)))))))
theorem t222_95 {X : XX} {d : Nat} {sz sl : Nat} {sh : Nat → Nat × Nat} {R : Nat → Nat → Option Nat} {I : Nat → Nat → Int32} {J : Nat → Nat → Int64} {s0 : Int32} : exe X d 222 95 [dm, dm, dm, dm] [Value.int s0] (sz, sl, sh, R, I, J) =
    some (some (Value.int (s0 * (2))), (sz, sl, sh, R, I, J)) :=
  tq ((E_iconst (x := (2)) (by decide) f222_95)) (tq ((E_imul f222_96)) ((E_iret pr_222 f222_97)))
theorem n222 {X : XX} {d : Nat} {h : HP} {a0 : Int32} {a1 : Int32} : ev X (d + 1) 222 [Value.ref 37, Value.int a0, Value.int a1] h = exe X d 222 0 [Value.ref 37, Value.int a0, Value.int a1, dm] [] h := ev_exe (Nat.le_of_ble_eq_true rfl)
theorem f223_0 : fr 223 0 = some (.iload 1, 1, [], []) := by decide +kernel
theorem f223_1 : fr 223 1 = some (.iconst 3, 1, [], []) := by decide +kernel
theorem f223_2 : fr 223 2 = some (.if_icmp .ne 23, 3, [], []) := by decide +kernel
theorem f223_5 : fr 223 5 = some (.aload 0, 1, [], []) := by decide +kernel
theorem f223_6 : fr 223 6 = some (.iconst 40, 2, [], []) := by decide +kernel
theorem f223_8 : fr 223 8 = some (.invokevirtual 220, 3, [], []) := by decide +kernel
theorem f223_11 : fr 223 11 = some (.aload 0, 1, [0], []) := by decide +kernel
theorem f223_12 : fr 223 12 = some (.iload 1, 1, [1], []) := by decide +kernel
theorem f223_13 : fr 223 13 = some (.invokestatic 221, 3, [], []) := by decide +kernel
theorem f223_16 : fr 223 16 = some (.iload 2, 1, [2], []) := by decide +kernel
theorem f223_17 : fr 223 17 = some (.invokevirtual 223, 3, [], []) := by decide +kernel
theorem f223_20 : fr 223 20 = some (.iconst 2, 1, [], []) := by decide +kernel
theorem f223_21 : fr 223 21 = some (.imul, 1, [], []) := by decide +kernel
theorem f223_22 : fr 223 22 = some (.ireturn, 1, [], []) := by decide +kernel
theorem f223_23 : fr 223 23 = some (.iload 1, 1, [], []) := by decide +kernel
theorem f223_24 : fr 223 24 = some (.iconst 5, 1, [], []) := by decide +kernel
theorem f223_25 : fr 223 25 = some (.if_icmp .ne 61, 3, [], []) := by decide +kernel
theorem f223_28 : fr 223 28 = some (.aload 0, 1, [], []) := by decide +kernel
theorem f223_29 : fr 223 29 = some (.iconst 60, 2, [], []) := by decide +kernel
theorem f223_31 : fr 223 31 = some (.invokevirtual 220, 3, [], []) := by decide +kernel
theorem f223_34 : fr 223 34 = some (.aload 0, 1, [], []) := by decide +kernel
theorem f223_35 : fr 223 35 = some (.iload 1, 1, [1], []) := by decide +kernel
theorem f223_36 : fr 223 36 = some (.invokestatic 221, 3, [], []) := by decide +kernel
theorem f223_39 : fr 223 39 = some (.iload 2, 1, [2], []) := by decide +kernel
theorem f223_40 : fr 223 40 = some (.invokevirtual 223, 3, [], []) := by decide +kernel
theorem f223_43 : fr 223 43 = some (.istore 3, 1, [], []) := by decide +kernel
theorem f223_44 : fr 223 44 = some (.iload 3, 1, [3], []) := by decide +kernel
theorem f223_45 : fr 223 45 = some (.aload 0, 1, [], []) := by decide +kernel
theorem f223_46 : fr 223 46 = some (.aload 0, 1, [], []) := by decide +kernel
theorem f223_47 : fr 223 47 = some (.getfield 11029, 3, [], []) := by decide +kernel
theorem f223_50 : fr 223 50 = some (.aload 0, 1, [0], []) := by decide +kernel
theorem f223_51 : fr 223 51 = some (.getfield 11048, 3, [], []) := by decide +kernel
theorem f223_54 : fr 223 54 = some (.iaload, 1, [], []) := by decide +kernel
theorem f223_55 : fr 223 55 = some (.iconst 2, 1, [], []) := by decide +kernel
theorem f223_56 : fr 223 56 = some (.invokevirtual 219, 3, [], []) := by decide +kernel
theorem f223_59 : fr 223 59 = some (.isub, 1, [], []) := by decide +kernel
theorem f223_60 : fr 223 60 = some (.ireturn, 1, [], []) := by decide +kernel
theorem f223_61 : fr 223 61 = some (.iload 1, 1, [], []) := by decide +kernel
theorem f223_62 : fr 223 62 = some (.ifCond .le 75, 3, [], [1]) := by decide +kernel
theorem f223_65 : fr 223 65 = some (.aload 0, 1, [0], []) := by decide +kernel
theorem f223_66 : fr 223 66 = some (.iload 1, 1, [1], []) := by decide +kernel
theorem f223_67 : fr 223 67 = some (.invokestatic 221, 3, [], []) := by decide +kernel
theorem f223_70 : fr 223 70 = some (.iload 2, 1, [2], []) := by decide +kernel
theorem f223_71 : fr 223 71 = some (.invokevirtual 223, 3, [], []) := by decide +kernel
theorem f223_74 : fr 223 74 = some (.ireturn, 1, [], []) := by decide +kernel
theorem f223_75 : fr 223 75 = some (.aload 0, 1, [], []) := by decide +kernel
theorem f223_76 : fr 223 76 = some (.iconst 11, 2, [], []) := by decide +kernel
theorem f223_78 : fr 223 78 = some (.invokevirtual 220, 3, [], []) := by decide +kernel
theorem f223_81 : fr 223 81 = some (.iload 2, 1, [2], []) := by decide +kernel
theorem f223_82 : fr 223 82 = some (.aload 0, 1, [0], []) := by decide +kernel
theorem f223_83 : fr 223 83 = some (.getfield 11048, 3, [], []) := by decide +kernel
theorem f223_86 : fr 223 86 = some (.ixor, 1, [], []) := by decide +kernel
theorem f223_87 : fr 223 87 = some (.ireturn, 1, [], []) := by decide +kernel
theorem t223_0 {X : XX} {d : Nat} {sz sl : Nat} {sh : Nat → Nat × Nat} {R : Nat → Nat → Option Nat} {I : Nat → Nat → Int32} {J : Nat → Nat → Int64} (hS : SF sh R) {l1 : Int32} {l2 : Int32} : exe X d 223 0 [Value.ref 37, Value.int l1, Value.int l2, dm] [] (sz, sl, sh, R, I, J) =
    (if ¬ l1 = (3) then (if ¬ l1 = (5) then (if l1 ≤ 0 then ((ev X d 220 [Value.ref 37, Value.int (11)] (sz, sl, sh, R, I, J)).bind fun q => exe X d 223 81 [Value.ref 37, dm, Value.int l2, dm] (q.1.toList ++ []) q.2) else ((ev X d 221 [Value.int l1] (sz, sl, sh, R, I, J)).bind fun q => exe X d 223 70 [dm, dm, Value.int l2, dm] (q.1.toList ++ [Value.ref 37]) q.2)) else ((ev X d 220 [Value.ref 37, Value.int (60)] (sz, sl, sh, R, I, J)).bind fun q => exe X d 223 34 [Value.ref 37, Value.int l1, Value.int l2, dm] (q.1.toList ++ []) q.2)) else ((ev X d 220 [Value.ref 37, Value.int (40)] (sz, sl, sh, R, I, J)).bind fun q => exe X d 223 11 [Value.ref 37, Value.int l1, Value.int l2, dm] (q.1.toList ++ []) q.2)) :=
  tq ((E_iload (x := l1) rfl f223_0)) (tq ((E_iconst (x := (3)) (by decide) f223_1)) (tq ((E_ic_ne f223_2)) (ite_c (tq ((E_iload (x := l1) rfl f223_23)) (tq ((E_iconst (x := (5)) (by decide) f223_24)) (tq ((E_ic_ne f223_25)) (ite_c (tq ((E_iload (x := l1) rfl f223_61)) (tq ((E_if_le f223_62)) (ite_c (tq ((E_aload (v := Value.ref 37) rfl rfl f223_75)) (tq ((E_iconst (x := (11)) (by decide) f223_76)) ((tq ((E_callV pn_220 pc_220 rfl rfl (Nat.le_of_ble_eq_true rfl) f223_78)) (if_pos (zS37 hS)))))) (tq ((E_aload (v := Value.ref 37) rfl rfl f223_65)) (tq ((E_iload (x := l1) rfl f223_66)) ((E_callS pn_221 rfl rfl (Nat.le_of_ble_eq_true rfl) (Nat.le_of_ble_eq_true rfl) f223_67))))))) (tq ((E_aload (v := Value.ref 37) rfl rfl f223_28)) (tq ((E_iconst (x := (60)) (by decide) f223_29)) ((tq ((E_callV pn_220 pc_220 rfl rfl (Nat.le_of_ble_eq_true rfl) f223_31)) (if_pos (zS37 hS)))))))))) (tq ((E_aload (v := Value.ref 37) rfl rfl f223_5)) (tq ((E_iconst (x := (40)) (by decide) f223_6)) ((tq ((E_callV pn_220 pc_220 rfl rfl (Nat.le_of_ble_eq_true rfl) f223_8)) (if_pos (zS37 hS)))))))))
theorem t223_11 {X : XX} {d : Nat} {sz sl : Nat} {sh : Nat → Nat × Nat} {R : Nat → Nat → Option Nat} {I : Nat → Nat → Int32} {J : Nat → Nat → Int64} {l1 : Int32} {l2 : Int32} : exe X d 223 11 [Value.ref 37, Value.int l1, Value.int l2, dm] [] (sz, sl, sh, R, I, J) =
    ((ev X d 221 [Value.int l1] (sz, sl, sh, R, I, J)).bind fun q => exe X d 223 16 [dm, dm, Value.int l2, dm] (q.1.toList ++ [Value.ref 37]) q.2) :=
  tq ((E_aload (v := Value.ref 37) rfl rfl f223_11)) (tq ((E_iload (x := l1) rfl f223_12)) ((E_callS pn_221 rfl rfl (Nat.le_of_ble_eq_true rfl) (Nat.le_of_ble_eq_true rfl) f223_13)))
theorem t223_16 {X : XX} {d : Nat} {sz sl : Nat} {sh : Nat → Nat × Nat} {R : Nat → Nat → Option Nat} {I : Nat → Nat → Int32} {J : Nat → Nat → Int64} {l2 : Int32} {s0 : Int32} {s1 : Value} (k1 : isB s1 = true) : exe X d 223 16 [dm, dm, Value.int l2, dm] [Value.int s0, s1] (sz, sl, sh, R, I, J) =
    (rf (s1) fun p1 => if sh p1 = (18, 0) then ((ev X d 223 [Value.ref p1, Value.int s0, Value.int l2] (sz, sl, sh, R, I, J)).bind fun q => exe X d 223 20 [dm, dm, dm, dm] (q.1.toList ++ []) q.2) else none) :=
  tq ((E_iload (x := l2) rfl f223_16)) ((E_callV pn_223 pc_223 rfl rfl (Nat.le_of_ble_eq_true rfl) f223_17))
theorem t223_20 {X : XX} {d : Nat} {sz sl : Nat} {sh : Nat → Nat × Nat} {R : Nat → Nat → Option Nat} {I : Nat → Nat → Int32} {J : Nat → Nat → Int64} {s0 : Int32} : exe X d 223 20 [dm, dm, dm, dm] [Value.int s0] (sz, sl, sh, R, I, J) =
    some (some (Value.int (s0 * (2))), (sz, sl, sh, R, I, J)) :=
  tq ((E_iconst (x := (2)) (by decide) f223_20)) (tq ((E_imul f223_21)) ((E_iret pr_223 f223_22)))
theorem t223_34 {X : XX} {d : Nat} {sz sl : Nat} {sh : Nat → Nat × Nat} {R : Nat → Nat → Option Nat} {I : Nat → Nat → Int32} {J : Nat → Nat → Int64} {l1 : Int32} {l2 : Int32} : exe X d 223 34 [Value.ref 37, Value.int l1, Value.int l2, dm] [] (sz, sl, sh, R, I, J) =
    ((ev X d 221 [Value.int l1] (sz, sl, sh, R, I, J)).bind fun q => exe X d 223 39 [Value.ref 37, dm, Value.int l2, dm] (q.1.toList ++ [Value.ref 37]) q.2) :=
  tq ((E_aload (v := Value.ref 37) rfl rfl f223_34)) (tq ((E_iload (x := l1) rfl f223_35)) ((E_callS pn_221 rfl rfl (Nat.le_of_ble_eq_true rfl) (Nat.le_of_ble_eq_true rfl) f223_36)))
theorem t223_39 {X : XX} {d : Nat} {sz sl : Nat} {sh : Nat → Nat × Nat} {R : Nat → Nat → Option Nat} {I : Nat → Nat → Int32} {J : Nat → Nat → Int64} {l2 : Int32} {s0 : Int32} {s1 : Value} (k1 : isB s1 = true) : exe X d 223 39 [Value.ref 37, dm, Value.int l2, dm] [Value.int s0, s1] (sz, sl, sh, R, I, J) =
    (rf (s1) fun p1 => if sh p1 = (18, 0) then ((ev X d 223 [Value.ref p1, Value.int s0, Value.int l2] (sz, sl, sh, R, I, J)).bind fun q => exe X d 223 43 [Value.ref 37, dm, dm, dm] (q.1.toList ++ []) q.2) else none) :=
  tq ((E_iload (x := l2) rfl f223_39)) ((E_callV pn_223 pc_223 rfl rfl (Nat.le_of_ble_eq_true rfl) f223_40))
theorem t223_43 {X : XX} {d : Nat} {sz sl : Nat} {sh : Nat → Nat × Nat} {R : Nat → Nat → Option Nat} {I : Nat → Nat → Int32} {J : Nat → Nat → Int64} (hS : SF sh R) {s0 : Int32} : exe X d 223 43 [Value.ref 37, dm, dm, dm] [Value.int s0] (sz, sl, sh, R, I, J) =
    (if inb (I 37 48) 50 then ((ev X d 219 [Value.ref 37, Value.int (I 59 (I 37 48).toNatClampNeg), Value.int (2)] (sz, sl, sh, R, I, J)).bind fun q => exe X d 223 59 [dm, dm, dm, dm] (q.1.toList ++ [Value.int s0]) q.2) else none) :=
  tq ((E_istore rfl f223_43)) (tq ((E_iload (x := s0) rfl f223_44)) (tq ((E_aload (v := Value.ref 37) rfl rfl f223_45)) (tq ((E_aload (v := Value.ref 37) rfl rfl f223_46)) (tq (tq ((G11029 f223_47)) (if_pos (zS37 hS))) (tq (exe_R (zR37_29 hS)) (tq ((E_aload (v := Value.ref 37) rfl rfl f223_50)) (tq (tq ((G11048 f223_51)) (if_pos (zS37 hS))) (tq (tq ((E_iald f223_54)) (ite_ar (zS59 hS))) (ite_c (tq ((E_iconst (x := (2)) (by decide) f223_55)) ((tq ((E_callV pn_219 pc_219 rfl rfl (Nat.le_of_ble_eq_true rfl) f223_56)) (if_pos (zS37 hS))))) rfl)))))))))
theorem t223_59 {X : XX} {d : Nat} {sz sl : Nat} {sh : Nat → Nat × Nat} {R : Nat → Nat → Option Nat} {I : Nat → Nat → Int32} {J : Nat → Nat → Int64} {s0 : Int32} {s1 : Int32} : exe X d 223 59 [dm, dm, dm, dm] [Value.int s0, Value.int s1] (sz, sl, sh, R, I, J) =
    some (some (Value.int (s1 - s0)), (sz, sl, sh, R, I, J)) :=
  tq ((E_isub f223_59)) ((E_iret pr_223 f223_60))
theorem t223_70 {X : XX} {d : Nat} {sz sl : Nat} {sh : Nat → Nat × Nat} {R : Nat → Nat → Option Nat} {I : Nat → Nat → Int32} {J : Nat → Nat → Int64} {l2 : Int32} {s0 : Int32} {s1 : Value} (k1 : isB s1 = true) : exe X d 223 70 [dm, dm, Value.int l2, dm] [Value.int s0, s1] (sz, sl, sh, R, I, J) =
    (rf (s1) fun p1 => if sh p1 = (18, 0) then ((ev X d 223 [Value.ref p1, Value.int s0, Value.int l2] (sz, sl, sh, R, I, J)).bind fun q => exe X d 223 74 [dm, dm, dm, dm] (q.1.toList ++ []) q.2) else none) :=
  tq ((E_iload (x := l2) rfl f223_70)) ((E_callV pn_223 pc_223 rfl rfl (Nat.le_of_ble_eq_true rfl) f223_71))
theorem t223_74 {X : XX} {d : Nat} {sz sl : Nat} {sh : Nat → Nat × Nat} {R : Nat → Nat → Option Nat} {I : Nat → Nat → Int32} {J : Nat → Nat → Int64} {s0 : Int32} : exe X d 223 74 [dm, dm, dm, dm] [Value.int s0] (sz, sl, sh, R, I, J) =
    some (some (Value.int s0), (sz, sl, sh, R, I, J)) :=
  (E_iret pr_223 f223_74)
theorem t223_81 {X : XX} {d : Nat} {sz sl : Nat} {sh : Nat → Nat × Nat} {R : Nat → Nat → Option Nat} {I : Nat → Nat → Int32} {J : Nat → Nat → Int64} (hS : SF sh R) {l2 : Int32} : exe X d 223 81 [Value.ref 37, dm, Value.int l2, dm] [] (sz, sl, sh, R, I, J) =
    some (some (Value.int (l2 ^^^ (I 37 48))), (sz, sl, sh, R, I, J)) :=
  tq ((E_iload (x := l2) rfl f223_81)) (tq ((E_aload (v := Value.ref 37) rfl rfl f223_82)) (tq (tq ((G11048 f223_83)) (if_pos (zS37 hS))) (tq ((E_ixor f223_86)) ((E_iret pr_223 f223_87)))))
theorem n223 {X : XX} {d : Nat} {h : HP} {a0 : Int32} {a1 : Int32} : ev X (d + 1) 223 [Value.ref 37, Value.int a0, Value.int a1] h = exe X d 223 0 [Value.ref 37, Value.int a0, Value.int a1, dm] [] h := ev_exe (Nat.le_of_ble_eq_true rfl)
theorem f224_0 : fr 224 0 = some (.iload 1, 1, [], []) := by decide +kernel
theorem f224_1 : fr 224 1 = some (.iconst 4, 1, [], []) := by decide +kernel
theorem f224_2 : fr 224 2 = some (.if_icmp .ne 23, 3, [], []) := by decide +kernel
theorem f224_5 : fr 224 5 = some (.aload 0, 1, [], []) := by decide +kernel
theorem f224_6 : fr 224 6 = some (.iconst 50, 2, [], []) := by decide +kernel
theorem f224_8 : fr 224 8 = some (.invokevirtual 220, 3, [], []) := by decide +kernel
theorem f224_11 : fr 224 11 = some (.aload 0, 1, [0], []) := by decide +kernel
theorem f224_12 : fr 224 12 = some (.iload 1, 1, [1], []) := by decide +kernel
theorem f224_13 : fr 224 13 = some (.invokestatic 221, 3, [], []) := by decide +kernel
theorem f224_16 : fr 224 16 = some (.iload 2, 1, [2], []) := by decide +kernel
theorem f224_17 : fr 224 17 = some (.invokevirtual 224, 3, [], []) := by decide +kernel
theorem f224_20 : fr 224 20 = some (.iconst 5, 1, [], []) := by decide +kernel
theorem f224_21 : fr 224 21 = some (.ixor, 1, [], []) := by decide +kernel
theorem f224_22 : fr 224 22 = some (.ireturn, 1, [], []) := by decide +kernel
theorem f224_23 : fr 224 23 = some (.iload 1, 1, [], []) := by decide +kernel
theorem f224_24 : fr 224 24 = some (.iconst 7, 2, [], []) := by decide +kernel
theorem f224_26 : fr 224 26 = some (.if_icmp .ne 47, 3, [], []) := by decide +kernel
theorem f224_29 : fr 224 29 = some (.aload 0, 1, [], []) := by decide +kernel
theorem f224_30 : fr 224 30 = some (.iconst 81, 2, [], []) := by decide +kernel
theorem f224_32 : fr 224 32 = some (.invokevirtual 220, 3, [], []) := by decide +kernel
theorem f224_35 : fr 224 35 = some (.aload 0, 1, [0], []) := by decide +kernel
theorem f224_36 : fr 224 36 = some (.iload 1, 1, [1], []) := by decide +kernel
theorem f224_37 : fr 224 37 = some (.invokestatic 221, 3, [], []) := by decide +kernel
theorem f224_40 : fr 224 40 = some (.iload 2, 1, [2], []) := by decide +kernel
theorem f224_41 : fr 224 41 = some (.invokevirtual 224, 3, [], []) := by decide +kernel
theorem f224_44 : fr 224 44 = some (.iconst 1, 1, [], []) := by decide +kernel
theorem f224_45 : fr 224 45 = some (.isub, 1, [], []) := by decide +kernel
theorem f224_46 : fr 224 46 = some (.ireturn, 1, [], []) := by decide +kernel
theorem f224_47 : fr 224 47 = some (.iload 1, 1, [], []) := by decide +kernel
theorem f224_48 : fr 224 48 = some (.ifCond .le 61, 3, [], [1]) := by decide +kernel
theorem f224_51 : fr 224 51 = some (.aload 0, 1, [0], []) := by decide +kernel
theorem f224_52 : fr 224 52 = some (.iload 1, 1, [1], []) := by decide +kernel
theorem f224_53 : fr 224 53 = some (.invokestatic 221, 3, [], []) := by decide +kernel
theorem f224_56 : fr 224 56 = some (.iload 2, 1, [2], []) := by decide +kernel
theorem f224_57 : fr 224 57 = some (.invokevirtual 224, 3, [], []) := by decide +kernel
theorem f224_60 : fr 224 60 = some (.ireturn, 1, [], []) := by decide +kernel
theorem f224_61 : fr 224 61 = some (.aload 0, 1, [], []) := by decide +kernel
theorem f224_62 : fr 224 62 = some (.iconst 2, 1, [], []) := by decide +kernel
theorem f224_63 : fr 224 63 = some (.invokevirtual 220, 3, [], []) := by decide +kernel
theorem f224_66 : fr 224 66 = some (.aload 0, 1, [], []) := by decide +kernel
theorem f224_67 : fr 224 67 = some (.aload 0, 1, [], []) := by decide +kernel
theorem f224_68 : fr 224 68 = some (.getfield 11029, 3, [], []) := by decide +kernel
theorem f224_71 : fr 224 71 = some (.aload 0, 1, [], []) := by decide +kernel
theorem f224_72 : fr 224 72 = some (.getfield 11048, 3, [], []) := by decide +kernel
theorem f224_75 : fr 224 75 = some (.iaload, 1, [], []) := by decide +kernel
theorem f224_76 : fr 224 76 = some (.iload 2, 1, [2], []) := by decide +kernel
theorem f224_77 : fr 224 77 = some (.invokevirtual 222, 3, [], []) := by decide +kernel
theorem f224_80 : fr 224 80 = some (.istore 3, 1, [], []) := by decide +kernel
theorem f224_81 : fr 224 81 = some (.iload 3, 1, [3], []) := by decide +kernel
theorem f224_82 : fr 224 82 = some (.aload 0, 1, [], []) := by decide +kernel
theorem f224_83 : fr 224 83 = some (.aload 0, 1, [], []) := by decide +kernel
theorem f224_84 : fr 224 84 = some (.getfield 11029, 3, [], []) := by decide +kernel
theorem f224_87 : fr 224 87 = some (.aload 0, 1, [0], []) := by decide +kernel
theorem f224_88 : fr 224 88 = some (.getfield 11048, 3, [], []) := by decide +kernel
theorem f224_91 : fr 224 91 = some (.iaload, 1, [], []) := by decide +kernel
theorem f224_92 : fr 224 92 = some (.iconst 1, 1, [], []) := by decide +kernel
theorem f224_93 : fr 224 93 = some (.invokevirtual 223, 3, [], []) := by decide +kernel
theorem f224_96 : fr 224 96 = some (.isub, 1, [], []) := by decide +kernel
theorem f224_97 : fr 224 97 = some (.ireturn, 1, [], []) := by decide +kernel
theorem t224_0 {X : XX} {d : Nat} {sz sl : Nat} {sh : Nat → Nat × Nat} {R : Nat → Nat → Option Nat} {I : Nat → Nat → Int32} {J : Nat → Nat → Int64} (hS : SF sh R) {l1 : Int32} {l2 : Int32} : exe X d 224 0 [Value.ref 37, Value.int l1, Value.int l2, dm] [] (sz, sl, sh, R, I, J) =
    (if ¬ l1 = (4) then (if ¬ l1 = (7) then (if l1 ≤ 0 then ((ev X d 220 [Value.ref 37, Value.int (2)] (sz, sl, sh, R, I, J)).bind fun q => exe X d 224 66 [Value.ref 37, dm, Value.int l2, dm] (q.1.toList ++ []) q.2) else ((ev X d 221 [Value.int l1] (sz, sl, sh, R, I, J)).bind fun q => exe X d 224 56 [dm, dm, Value.int l2, dm] (q.1.toList ++ [Value.ref 37]) q.2)) else ((ev X d 220 [Value.ref 37, Value.int (81)] (sz, sl, sh, R, I, J)).bind fun q => exe X d 224 35 [Value.ref 37, Value.int l1, Value.int l2, dm] (q.1.toList ++ []) q.2)) else ((ev X d 220 [Value.ref 37, Value.int (50)] (sz, sl, sh, R, I, J)).bind fun q => exe X d 224 11 [Value.ref 37, Value.int l1, Value.int l2, dm] (q.1.toList ++ []) q.2)) :=
  tq ((E_iload (x := l1) rfl f224_0)) (tq ((E_iconst (x := (4)) (by decide) f224_1)) (tq ((E_ic_ne f224_2)) (ite_c (tq ((E_iload (x := l1) rfl f224_23)) (tq ((E_iconst (x := (7)) (by decide) f224_24)) (tq ((E_ic_ne f224_26)) (ite_c (tq ((E_iload (x := l1) rfl f224_47)) (tq ((E_if_le f224_48)) (ite_c (tq ((E_aload (v := Value.ref 37) rfl rfl f224_61)) (tq ((E_iconst (x := (2)) (by decide) f224_62)) ((tq ((E_callV pn_220 pc_220 rfl rfl (Nat.le_of_ble_eq_true rfl) f224_63)) (if_pos (zS37 hS)))))) (tq ((E_aload (v := Value.ref 37) rfl rfl f224_51)) (tq ((E_iload (x := l1) rfl f224_52)) ((E_callS pn_221 rfl rfl (Nat.le_of_ble_eq_true rfl) (Nat.le_of_ble_eq_true rfl) f224_53))))))) (tq ((E_aload (v := Value.ref 37) rfl rfl f224_29)) (tq ((E_iconst (x := (81)) (by decide) f224_30)) ((tq ((E_callV pn_220 pc_220 rfl rfl (Nat.le_of_ble_eq_true rfl) f224_32)) (if_pos (zS37 hS)))))))))) (tq ((E_aload (v := Value.ref 37) rfl rfl f224_5)) (tq ((E_iconst (x := (50)) (by decide) f224_6)) ((tq ((E_callV pn_220 pc_220 rfl rfl (Nat.le_of_ble_eq_true rfl) f224_8)) (if_pos (zS37 hS)))))))))
theorem t224_11 {X : XX} {d : Nat} {sz sl : Nat} {sh : Nat → Nat × Nat} {R : Nat → Nat → Option Nat} {I : Nat → Nat → Int32} {J : Nat → Nat → Int64} {l1 : Int32} {l2 : Int32} : exe X d 224 11 [Value.ref 37, Value.int l1, Value.int l2, dm] [] (sz, sl, sh, R, I, J) =
    ((ev X d 221 [Value.int l1] (sz, sl, sh, R, I, J)).bind fun q => exe X d 224 16 [dm, dm, Value.int l2, dm] (q.1.toList ++ [Value.ref 37]) q.2) :=
  tq ((E_aload (v := Value.ref 37) rfl rfl f224_11)) (tq ((E_iload (x := l1) rfl f224_12)) ((E_callS pn_221 rfl rfl (Nat.le_of_ble_eq_true rfl) (Nat.le_of_ble_eq_true rfl) f224_13)))
theorem t224_16 {X : XX} {d : Nat} {sz sl : Nat} {sh : Nat → Nat × Nat} {R : Nat → Nat → Option Nat} {I : Nat → Nat → Int32} {J : Nat → Nat → Int64} {l2 : Int32} {s0 : Int32} {s1 : Value} (k1 : isB s1 = true) : exe X d 224 16 [dm, dm, Value.int l2, dm] [Value.int s0, s1] (sz, sl, sh, R, I, J) =
    (rf (s1) fun p1 => if sh p1 = (18, 0) then ((ev X d 224 [Value.ref p1, Value.int s0, Value.int l2] (sz, sl, sh, R, I, J)).bind fun q => exe X d 224 20 [dm, dm, dm, dm] (q.1.toList ++ []) q.2) else none) :=
  tq ((E_iload (x := l2) rfl f224_16)) ((E_callV pn_224 pc_224 rfl rfl (Nat.le_of_ble_eq_true rfl) f224_17))
theorem t224_20 {X : XX} {d : Nat} {sz sl : Nat} {sh : Nat → Nat × Nat} {R : Nat → Nat → Option Nat} {I : Nat → Nat → Int32} {J : Nat → Nat → Int64} {s0 : Int32} : exe X d 224 20 [dm, dm, dm, dm] [Value.int s0] (sz, sl, sh, R, I, J) =
    some (some (Value.int (s0 ^^^ (5))), (sz, sl, sh, R, I, J)) :=
  tq ((E_iconst (x := (5)) (by decide) f224_20)) (tq ((E_ixor f224_21)) ((E_iret pr_224 f224_22)))
theorem t224_35 {X : XX} {d : Nat} {sz sl : Nat} {sh : Nat → Nat × Nat} {R : Nat → Nat → Option Nat} {I : Nat → Nat → Int32} {J : Nat → Nat → Int64} {l1 : Int32} {l2 : Int32} : exe X d 224 35 [Value.ref 37, Value.int l1, Value.int l2, dm] [] (sz, sl, sh, R, I, J) =
    ((ev X d 221 [Value.int l1] (sz, sl, sh, R, I, J)).bind fun q => exe X d 224 40 [dm, dm, Value.int l2, dm] (q.1.toList ++ [Value.ref 37]) q.2) :=
  tq ((E_aload (v := Value.ref 37) rfl rfl f224_35)) (tq ((E_iload (x := l1) rfl f224_36)) ((E_callS pn_221 rfl rfl (Nat.le_of_ble_eq_true rfl) (Nat.le_of_ble_eq_true rfl) f224_37)))
theorem t224_40 {X : XX} {d : Nat} {sz sl : Nat} {sh : Nat → Nat × Nat} {R : Nat → Nat → Option Nat} {I : Nat → Nat → Int32} {J : Nat → Nat → Int64} {l2 : Int32} {s0 : Int32} {s1 : Value} (k1 : isB s1 = true) : exe X d 224 40 [dm, dm, Value.int l2, dm] [Value.int s0, s1] (sz, sl, sh, R, I, J) =
    (rf (s1) fun p1 => if sh p1 = (18, 0) then ((ev X d 224 [Value.ref p1, Value.int s0, Value.int l2] (sz, sl, sh, R, I, J)).bind fun q => exe X d 224 44 [dm, dm, dm, dm] (q.1.toList ++ []) q.2) else none) :=
  tq ((E_iload (x := l2) rfl f224_40)) ((E_callV pn_224 pc_224 rfl rfl (Nat.le_of_ble_eq_true rfl) f224_41))
theorem t224_44 {X : XX} {d : Nat} {sz sl : Nat} {sh : Nat → Nat × Nat} {R : Nat → Nat → Option Nat} {I : Nat → Nat → Int32} {J : Nat → Nat → Int64} {s0 : Int32} : exe X d 224 44 [dm, dm, dm, dm] [Value.int s0] (sz, sl, sh, R, I, J) =
    some (some (Value.int (s0 - (1))), (sz, sl, sh, R, I, J)) :=
  tq ((E_iconst (x := (1)) (by decide) f224_44)) (tq ((E_isub f224_45)) ((E_iret pr_224 f224_46)))
theorem t224_56 {X : XX} {d : Nat} {sz sl : Nat} {sh : Nat → Nat × Nat} {R : Nat → Nat → Option Nat} {I : Nat → Nat → Int32} {J : Nat → Nat → Int64} {l2 : Int32} {s0 : Int32} {s1 : Value} (k1 : isB s1 = true) : exe X d 224 56 [dm, dm, Value.int l2, dm] [Value.int s0, s1] (sz, sl, sh, R, I, J) =
    (rf (s1) fun p1 => if sh p1 = (18, 0) then ((ev X d 224 [Value.ref p1, Value.int s0, Value.int l2] (sz, sl, sh, R, I, J)).bind fun q => exe X d 224 60 [dm, dm, dm, dm] (q.1.toList ++ []) q.2) else none) :=
  tq ((E_iload (x := l2) rfl f224_56)) ((E_callV pn_224 pc_224 rfl rfl (Nat.le_of_ble_eq_true rfl) f224_57))
theorem t224_60 {X : XX} {d : Nat} {sz sl : Nat} {sh : Nat → Nat × Nat} {R : Nat → Nat → Option Nat} {I : Nat → Nat → Int32} {J : Nat → Nat → Int64} {s0 : Int32} : exe X d 224 60 [dm, dm, dm, dm] [Value.int s0] (sz, sl, sh, R, I, J) =
    some (some (Value.int s0), (sz, sl, sh, R, I, J)) :=
  (E_iret pr_224 f224_60)
theorem t224_66 {X : XX} {d : Nat} {sz sl : Nat} {sh : Nat → Nat × Nat} {R : Nat → Nat → Option Nat} {I : Nat → Nat → Int32} {J : Nat → Nat → Int64} (hS : SF sh R) {l2 : Int32} : exe X d 224 66 [Value.ref 37, dm, Value.int l2, dm] [] (sz, sl, sh, R, I, J) =
    (if inb (I 37 48) 50 then ((ev X d 222 [Value.ref 37, Value.int (I 59 (I 37 48).toNatClampNeg), Value.int l2] (sz, sl, sh, R, I, J)).bind fun q => exe X d 224 80 [Value.ref 37, dm, dm, dm] (q.1.toList ++ []) q.2) else none) :=
  tq ((E_aload (v := Value.ref 37) rfl rfl f224_66)) (tq ((E_aload (v := Value.ref 37) rfl rfl f224_67)) (tq (tq ((G11029 f224_68)) (if_pos (zS37 hS))) (tq (exe_R (zR37_29 hS)) (tq ((E_aload (v := Value.ref 37) rfl rfl f224_71)) (tq (tq ((G11048 f224_72)) (if_pos (zS37 hS))) (tq (tq ((E_iald f224_75)) (ite_ar (zS59 hS))) (ite_c (tq ((E_iload (x := l2) rfl f224_76)) ((tq ((E_callV pn_222 pc_222 rfl rfl (Nat.le_of_ble_eq_true rfl) f224_77)) (if_pos (zS37 hS))))) rfl)))))))
theorem t224_80 {X : XX} {d : Nat} {sz sl : Nat} {sh : Nat → Nat × Nat} {R : Nat → Nat → Option Nat} {I : Nat → Nat → Int32} {J : Nat → Nat → Int64} (hS : SF sh R) {s0 : Int32} : exe X d 224 80 [Value.ref 37, dm, dm, dm] [Value.int s0] (sz, sl, sh, R, I, J) =
    (if inb (I 37 48) 50 then ((ev X d 223 [Value.ref 37, Value.int (I 59 (I 37 48).toNatClampNeg), Value.int (1)] (sz, sl, sh, R, I, J)).bind fun q => exe X d 224 96 [dm, dm, dm, dm] (q.1.toList ++ [Value.int s0]) q.2) else none) :=
  tq ((E_istore rfl f224_80)) (tq ((E_iload (x := s0) rfl f224_81)) (tq ((E_aload (v := Value.ref 37) rfl rfl f224_82)) (tq ((E_aload (v := Value.ref 37) rfl rfl f224_83)) (tq (tq ((G11029 f224_84)) (if_pos (zS37 hS))) (tq (exe_R (zR37_29 hS)) (tq ((E_aload (v := Value.ref 37) rfl rfl f224_87)) (tq (tq ((G11048 f224_88)) (if_pos (zS37 hS))) (tq (tq ((E_iald f224_91)) (ite_ar (zS59 hS))) (ite_c (tq ((E_iconst (x := (1)) (by decide) f224_92)) ((tq ((E_callV pn_223 pc_223 rfl rfl (Nat.le_of_ble_eq_true rfl) f224_93)) (if_pos (zS37 hS))))) rfl)))))))))
theorem t224_96 {X : XX} {d : Nat} {sz sl : Nat} {sh : Nat → Nat × Nat} {R : Nat → Nat → Option Nat} {I : Nat → Nat → Int32} {J : Nat → Nat → Int64} {s0 : Int32} {s1 : Int32} : exe X d 224 96 [dm, dm, dm, dm] [Value.int s0, Value.int s1] (sz, sl, sh, R, I, J) =
    some (some (Value.int (s1 - s0)), (sz, sl, sh, R, I, J)) :=
  tq ((E_isub f224_96)) ((E_iret pr_224 f224_97))
theorem n224 {X : XX} {d : Nat} {h : HP} {a0 : Int32} {a1 : Int32} : ev X (d + 1) 224 [Value.ref 37, Value.int a0, Value.int a1] h = exe X d 224 0 [Value.ref 37, Value.int a0, Value.int a1, dm] [] h := ev_exe (Nat.le_of_ble_eq_true rfl)
theorem f225_0 : fr 225 0 = some (.iload 1, 1, [], []) := by decide +kernel
theorem f225_1 : fr 225 1 = some (.iconst 0, 1, [], []) := by decide +kernel
theorem f225_2 : fr 225 2 = some (.aload 0, 1, [], []) := by decide +kernel
theorem f225_3 : fr 225 3 = some (.getfield 11030, 3, [], []) := by decide +kernel
theorem f225_6 : fr 225 6 = some (.iconst 24, 2, [], []) := by decide +kernel
theorem f225_8 : fr 225 8 = some (.if_icmp .ge 18, 3, [], []) := by decide +kernel
theorem f225_11 : fr 225 11 = some (.aload 0, 1, [], []) := by decide +kernel
theorem f225_12 : fr 225 12 = some (.getfield 11030, 3, [], []) := by decide +kernel
theorem f225_15 : fr 225 15 = some (.goto 20, 3, [], []) := by decide +kernel
theorem f225_18 : fr 225 18 = some (.iconst 24, 2, [], []) := by decide +kernel
theorem f225_20 : fr 225 20 = some (.iconst 1, 1, [], []) := by decide +kernel
theorem f225_21 : fr 225 21 = some (.isub, 1, [], []) := by decide +kernel
theorem f225_22 : fr 225 22 = some (.invokestatic 148, 3, [], []) := by decide +kernel
theorem f225_25 : fr 225 25 = some (.ifCond .eq 37, 3, [], [0, 1]) := by decide +kernel
theorem f225_28 : fr 225 28 = some (.aload 0, 1, [0], []) := by decide +kernel
theorem f225_29 : fr 225 29 = some (.getfield 11031, 3, [], []) := by decide +kernel
theorem f225_32 : fr 225 32 = some (.iload 1, 1, [1], []) := by decide +kernel
theorem f225_33 : fr 225 33 = some (.iaload, 1, [], []) := by decide +kernel
theorem f225_34 : fr 225 34 = some (.goto 38, 3, [], []) := by decide +kernel
theorem f225_37 : fr 225 37 = some (.iconst (-1), 1, [], []) := by decide +kernel
theorem f225_38 : fr 225 38 = some (.ireturn, 1, [], []) := by decide +kernel
theorem t225_0 {X : XX} {d : Nat} {sz sl : Nat} {sh : Nat → Nat × Nat} {R : Nat → Nat → Option Nat} {I : Nat → Nat → Int32} {J : Nat → Nat → Int64} (hS : SF sh R) {l1 : Int32} : exe X d 225 0 [Value.ref 37, Value.int l1] [] (sz, sl, sh, R, I, J) =
    (if (24) ≤ (I 37 30) then ((ev X d 148 [Value.int l1, Value.int (0), Value.int ((24) - (1))] (sz, sl, sh, R, I, J)).bind fun q => exe X d 225 25 [Value.ref 37, Value.int l1] (q.1.toList ++ []) q.2) else ((ev X d 148 [Value.int l1, Value.int (0), Value.int ((I 37 30) - (1))] (sz, sl, sh, R, I, J)).bind fun q => exe X d 225 25 [Value.ref 37, Value.int l1] (q.1.toList ++ []) q.2)) :=
  tq ((E_iload (x := l1) rfl f225_0)) (tq ((E_iconst (x := (0)) (by decide) f225_1)) (tq ((E_aload (v := Value.ref 37) rfl rfl f225_2)) (tq (tq ((G11030 f225_3)) (if_pos (zS37 hS))) (tq ((E_iconst (x := (24)) (by decide) f225_6)) (tq ((E_ic_ge f225_8)) (ite_c (tq ((E_iconst (x := (24)) (by decide) f225_18)) (tq ((E_iconst (x := (1)) (by decide) f225_20)) (tq ((E_isub f225_21)) ((E_callS pn_148 rfl rfl (Nat.le_of_ble_eq_true rfl) (Nat.le_of_ble_eq_true rfl) f225_22))))) (tq ((E_aload (v := Value.ref 37) rfl rfl f225_11)) (tq (tq ((G11030 f225_12)) (if_pos (zS37 hS))) (tq ((E_goto f225_15)) (tq ((E_iconst (x := (1)) (by decide) f225_20)) (tq ((E_isub f225_21)) ((E_callS pn_148 rfl rfl (Nat.le_of_ble_eq_true rfl) (Nat.le_of_ble_eq_true rfl) f225_22)))))))))))))
theorem t225_25 {X : XX} {d : Nat} {sz sl : Nat} {sh : Nat → Nat × Nat} {R : Nat → Nat → Option Nat} {I : Nat → Nat → Int32} {J : Nat → Nat → Int64} (hS : SF sh R) {l1 : Int32} {s0 : Int32} : exe X d 225 25 [Value.ref 37, Value.int l1] [Value.int s0] (sz, sl, sh, R, I, J) =
    (if s0 = 0 then some (some (Value.int (-1)), (sz, sl, sh, R, I, J)) else (if inb l1 24 then some (some (Value.int (I 60 l1.toNatClampNeg)), (sz, sl, sh, R, I, J)) else none)) :=
  tq ((E_if_eq f225_25)) (ite_c (tq ((E_iconst (x := (-1)) (by decide) f225_37)) ((E_iret pr_225 f225_38))) (tq ((E_aload (v := Value.ref 37) rfl rfl f225_28)) (tq (tq ((G11031 f225_29)) (if_pos (zS37 hS))) (tq (exe_R (zR37_31 hS)) (tq ((E_iload (x := l1) rfl f225_32)) (tq (tq ((E_iald f225_33)) (ite_ar (zS60 hS))) (ite_c (tq ((E_goto f225_34)) ((E_iret pr_225 f225_38))) rfl)))))))
theorem n225 {X : XX} {d : Nat} {h : HP} {a0 : Int32} : ev X (d + 1) 225 [Value.ref 37, Value.int a0] h = exe X d 225 0 [Value.ref 37, Value.int a0] [] h := ev_exe (Nat.le_of_ble_eq_true rfl)
theorem f226_0 : fr 226 0 = some (.iload 1, 1, [], []) := by decide +kernel
theorem f226_1 : fr 226 1 = some (.invokestatic 160, 3, [], []) := by decide +kernel
theorem f226_4 : fr 226 4 = some (.ifCond .eq 21, 3, [], [0, 1, 2]) := by decide +kernel
theorem f226_7 : fr 226 7 = some (.iload 2, 1, [], []) := by decide +kernel
theorem f226_8 : fr 226 8 = some (.iconst (-1), 1, [], []) := by decide +kernel
theorem f226_9 : fr 226 9 = some (.aload 0, 1, [], []) := by decide +kernel
theorem f226_10 : fr 226 10 = some (.getfield 11028, 3, [], []) := by decide +kernel
theorem f226_13 : fr 226 13 = some (.iconst 1, 1, [], []) := by decide +kernel
theorem f226_14 : fr 226 14 = some (.isub, 1, [], []) := by decide +kernel
theorem f226_15 : fr 226 15 = some (.invokestatic 148, 3, [], []) := by decide +kernel
theorem f226_18 : fr 226 18 = some (.ifCond .ne 23, 3, [0, 1, 2], []) := by decide +kernel
theorem f226_21 : fr 226 21 = some (.iconst (-1), 1, [], []) := by decide +kernel
theorem f226_22 : fr 226 22 = some (.ireturn, 1, [], []) := by decide +kernel
theorem f226_23 : fr 226 23 = some (.aload 0, 1, [0], []) := by decide +kernel
theorem f226_24 : fr 226 24 = some (.getfield 11032, 3, [], []) := by decide +kernel
theorem f226_27 : fr 226 27 = some (.iload 1, 1, [1], []) := by decide +kernel
theorem f226_28 : fr 226 28 = some (.iload 2, 1, [2], []) := by decide +kernel
theorem f226_29 : fr 226 29 = some (.iastore, 1, [], []) := by decide +kernel
theorem f226_30 : fr 226 30 = some (.iconst 1, 1, [], []) := by decide +kernel
theorem f226_31 : fr 226 31 = some (.ireturn, 1, [], []) := by decide +kernel
theorem t226_0 {X : XX} {d : Nat} {sz sl : Nat} {sh : Nat → Nat × Nat} {R : Nat → Nat → Option Nat} {I : Nat → Nat → Int32} {J : Nat → Nat → Int64} {l1 : Int32} {l2 : Int32} : exe X d 226 0 [Value.ref 37, Value.int l1, Value.int l2] [] (sz, sl, sh, R, I, J) =
    ((ev X d 160 [Value.int l1] (sz, sl, sh, R, I, J)).bind fun q => exe X d 226 4 [Value.ref 37, Value.int l1, Value.int l2] (q.1.toList ++ []) q.2) :=
  tq ((E_iload (x := l1) rfl f226_0)) ((E_callS pn_160 rfl rfl (Nat.le_of_ble_eq_true rfl) (Nat.le_of_ble_eq_true rfl) f226_1))
theorem t226_4 {X : XX} {d : Nat} {sz sl : Nat} {sh : Nat → Nat × Nat} {R : Nat → Nat → Option Nat} {I : Nat → Nat → Int32} {J : Nat → Nat → Int64} (hS : SF sh R) {l1 : Int32} {l2 : Int32} {s0 : Int32} : exe X d 226 4 [Value.ref 37, Value.int l1, Value.int l2] [Value.int s0] (sz, sl, sh, R, I, J) =
    (if s0 = 0 then some (some (Value.int (-1)), (sz, sl, sh, R, I, J)) else ((ev X d 148 [Value.int l2, Value.int (-1), Value.int ((I 37 28) - (1))] (sz, sl, sh, R, I, J)).bind fun q => exe X d 226 18 [Value.ref 37, Value.int l1, Value.int l2] (q.1.toList ++ []) q.2)) :=
  tq ((E_if_eq f226_4)) (ite_c (tq ((E_iconst (x := (-1)) (by decide) f226_21)) ((E_iret pr_226 f226_22))) (tq ((E_iload (x := l2) rfl f226_7)) (tq ((E_iconst (x := (-1)) (by decide) f226_8)) (tq ((E_aload (v := Value.ref 37) rfl rfl f226_9)) (tq (tq ((G11028 f226_10)) (if_pos (zS37 hS))) (tq ((E_iconst (x := (1)) (by decide) f226_13)) (tq ((E_isub f226_14)) ((E_callS pn_148 rfl rfl (Nat.le_of_ble_eq_true rfl) (Nat.le_of_ble_eq_true rfl) f226_15)))))))))
theorem t226_18 {X : XX} {d : Nat} {sz sl : Nat} {sh : Nat → Nat × Nat} {R : Nat → Nat → Option Nat} {I : Nat → Nat → Int32} {J : Nat → Nat → Int64} (hS : SF sh R) {l1 : Int32} {l2 : Int32} {s0 : Int32} : exe X d 226 18 [Value.ref 37, Value.int l1, Value.int l2] [Value.int s0] (sz, sl, sh, R, I, J) =
    (if ¬ s0 = 0 then (if inb l1 6 then some (some (Value.int (1)), (sz, sl, sh, R, (u2 I 61 l1.toNatClampNeg l2), J)) else none) else some (some (Value.int (-1)), (sz, sl, sh, R, I, J))) :=
  tq ((E_if_ne f226_18)) (ite_c (tq ((E_aload (v := Value.ref 37) rfl rfl f226_23)) (tq (tq ((G11032 f226_24)) (if_pos (zS37 hS))) (tq (exe_R (zR37_32 hS)) (tq ((E_iload (x := l1) rfl f226_27)) (tq ((E_iload (x := l2) rfl f226_28)) (tq (tq ((E_iast f226_29)) (ite_ar (zS61 hS))) (ite_c (tq ((E_iconst (x := (1)) (by decide) f226_30)) ((E_iret pr_226 f226_31))) rfl))))))) (tq ((E_iconst (x := (-1)) (by decide) f226_21)) ((E_iret pr_226 f226_22))))
theorem n226 {X : XX} {d : Nat} {h : HP} {a0 : Int32} {a1 : Int32} : ev X (d + 1) 226 [Value.ref 37, Value.int a0, Value.int a1] h = exe X d 226 0 [Value.ref 37, Value.int a0, Value.int a1] [] h := ev_exe (Nat.le_of_ble_eq_true rfl)
theorem f227_0 : fr 227 0 = some (.iload 1, 1, [], []) := by decide +kernel
theorem f227_1 : fr 227 1 = some (.invokestatic 160, 3, [], []) := by decide +kernel
theorem f227_4 : fr 227 4 = some (.ifCond .eq 22, 3, [], [0, 1, 2, 3]) := by decide +kernel
theorem f227_7 : fr 227 7 = some (.iload 2, 1, [], []) := by decide +kernel
theorem f227_8 : fr 227 8 = some (.iconst 0, 1, [], []) := by decide +kernel
theorem f227_9 : fr 227 9 = some (.iconst 4, 1, [], []) := by decide +kernel
theorem f227_10 : fr 227 10 = some (.invokestatic 148, 3, [], []) := by decide +kernel
theorem f227_13 : fr 227 13 = some (.ifCond .eq 22, 3, [], [0, 1, 2, 3]) := by decide +kernel
theorem f227_16 : fr 227 16 = some (.iload 3, 1, [], []) := by decide +kernel
theorem f227_17 : fr 227 17 = some (.iconst 60, 2, [], []) := by decide +kernel
theorem f227_19 : fr 227 19 = some (.if_icmp .le 24, 3, [0, 1, 2, 3], []) := by decide +kernel
theorem f227_22 : fr 227 22 = some (.iconst (-1), 1, [], []) := by decide +kernel
theorem f227_23 : fr 227 23 = some (.ireturn, 1, [], []) := by decide +kernel
theorem f227_24 : fr 227 24 = some (.iload 3, 1, [], []) := by decide +kernel
theorem f227_25 : fr 227 25 = some (.ifCond .ge 31, 3, [0, 1, 2, 3], []) := by decide +kernel
theorem f227_28 : fr 227 28 = some (.iconst (-14), 2, [], []) := by decide +kernel
theorem f227_30 : fr 227 30 = some (.ireturn, 1, [], []) := by decide +kernel
theorem f227_31 : fr 227 31 = some (.aload 0, 1, [], []) := by decide +kernel
theorem f227_32 : fr 227 32 = some (.getfield 11032, 3, [], []) := by decide +kernel
theorem f227_35 : fr 227 35 = some (.iload 1, 1, [], []) := by decide +kernel
theorem f227_36 : fr 227 36 = some (.iconst (-2), 2, [], []) := by decide +kernel
theorem f227_38 : fr 227 38 = some (.iastore, 1, [], []) := by decide +kernel
theorem f227_39 : fr 227 39 = some (.aload 0, 1, [], []) := by decide +kernel
theorem f227_40 : fr 227 40 = some (.getfield 11033, 3, [], []) := by decide +kernel
theorem f227_43 : fr 227 43 = some (.iload 1, 1, [], []) := by decide +kernel
theorem f227_44 : fr 227 44 = some (.iload 2, 1, [2], []) := by decide +kernel
theorem f227_45 : fr 227 45 = some (.iastore, 1, [], []) := by decide +kernel
theorem f227_46 : fr 227 46 = some (.aload 0, 1, [], []) := by decide +kernel
theorem f227_47 : fr 227 47 = some (.getfield 11034, 3, [], []) := by decide +kernel
theorem f227_50 : fr 227 50 = some (.iload 1, 1, [], []) := by decide +kernel
theorem f227_51 : fr 227 51 = some (.iload 3, 1, [3], []) := by decide +kernel
theorem f227_52 : fr 227 52 = some (.iastore, 1, [], []) := by decide +kernel
theorem f227_53 : fr 227 53 = some (.iconst 0, 1, [], []) := by decide +kernel
theorem f227_54 : fr 227 54 = some (.istore 4, 2, [], []) := by decide +kernel
theorem f227_56 : fr 227 56 = some (.iload 4, 2, [], []) := by decide +kernel
theorem f227_58 : fr 227 58 = some (.iconst 60, 2, [], []) := by decide +kernel
theorem f227_60 : fr 227 60 = some (.if_icmp .ge 82, 3, [], [0, 1, 4]) := by decide +kernel
theorem f227_63 : fr 227 63 = some (.aload 0, 1, [], []) := by decide +kernel
theorem f227_64 : fr 227 64 = some (.getfield 11035, 3, [], []) := by decide +kernel
theorem f227_67 : fr 227 67 = some (.iconst 60, 2, [], []) := by decide +kernel
theorem f227_69 : fr 227 69 = some (.iload 1, 1, [], []) := by decide +kernel
theorem f227_70 : fr 227 70 = some (.imul, 1, [], []) := by decide +kernel
theorem f227_71 : fr 227 71 = some (.iload 4, 2, [], []) := by decide +kernel
theorem f227_73 : fr 227 73 = some (.iadd, 1, [], []) := by decide +kernel
theorem f227_74 : fr 227 74 = some (.jsr_w 0, 1, [], []) := by decide +kernel
theorem f227_75 : fr 227 75 = some (.lastore, 1, [], []) := by decide +kernel
theorem f227_76 : fr 227 76 = some (.iinc 4 1, 3, [], []) := by decide +kernel
theorem f227_79 : fr 227 79 = some (.goto 56, 3, [], []) := by decide +kernel
theorem f227_82 : fr 227 82 = some (.iconst 1, 1, [], []) := by decide +kernel
theorem f227_83 : fr 227 83 = some (.ireturn, 1, [], []) := by decide +kernel
theorem t227_0 {X : XX} {d : Nat} {sz sl : Nat} {sh : Nat → Nat × Nat} {R : Nat → Nat → Option Nat} {I : Nat → Nat → Int32} {J : Nat → Nat → Int64} {l1 : Int32} {l2 : Int32} {l3 : Int32} : exe X d 227 0 [Value.ref 37, Value.int l1, Value.int l2, Value.int l3, dm] [] (sz, sl, sh, R, I, J) =
    ((ev X d 160 [Value.int l1] (sz, sl, sh, R, I, J)).bind fun q => exe X d 227 4 [Value.ref 37, Value.int l1, Value.int l2, Value.int l3, dm] (q.1.toList ++ []) q.2) :=
  tq ((E_iload (x := l1) rfl f227_0)) ((E_callS pn_160 rfl rfl (Nat.le_of_ble_eq_true rfl) (Nat.le_of_ble_eq_true rfl) f227_1))
theorem t227_4 {X : XX} {d : Nat} {sz sl : Nat} {sh : Nat → Nat × Nat} {R : Nat → Nat → Option Nat} {I : Nat → Nat → Int32} {J : Nat → Nat → Int64} {l1 : Int32} {l2 : Int32} {l3 : Int32} {s0 : Int32} : exe X d 227 4 [Value.ref 37, Value.int l1, Value.int l2, Value.int l3, dm] [Value.int s0] (sz, sl, sh, R, I, J) =
    (if s0 = 0 then some (some (Value.int (-1)), (sz, sl, sh, R, I, J)) else ((ev X d 148 [Value.int l2, Value.int (0), Value.int (4)] (sz, sl, sh, R, I, J)).bind fun q => exe X d 227 13 [Value.ref 37, Value.int l1, Value.int l2, Value.int l3, dm] (q.1.toList ++ []) q.2)) :=
  tq ((E_if_eq f227_4)) (ite_c (tq ((E_iconst (x := (-1)) (by decide) f227_22)) ((E_iret pr_227 f227_23))) (tq ((E_iload (x := l2) rfl f227_7)) (tq ((E_iconst (x := (0)) (by decide) f227_8)) (tq ((E_iconst (x := (4)) (by decide) f227_9)) ((E_callS pn_148 rfl rfl (Nat.le_of_ble_eq_true rfl) (Nat.le_of_ble_eq_true rfl) f227_10))))))
theorem t227_13 {X : XX} {d : Nat} {sz sl : Nat} {sh : Nat → Nat × Nat} {R : Nat → Nat → Option Nat} {I : Nat → Nat → Int32} {J : Nat → Nat → Int64} (hS : SF sh R) {l1 : Int32} {l2 : Int32} {l3 : Int32} {s0 : Int32} : exe X d 227 13 [Value.ref 37, Value.int l1, Value.int l2, Value.int l3, dm] [Value.int s0] (sz, sl, sh, R, I, J) =
    (if s0 = 0 then some (some (Value.int (-1)), (sz, sl, sh, R, I, J)) else (if l3 ≤ (60) then (if 0 ≤ l3 then (if inb l1 6 then (if inb l1 6 then (if inb l1 6 then exe X d 227 56 [Value.ref 37, Value.int l1, dm, dm, Value.int (0)] [] (sz, sl, sh, R, (u2 (u2 (u2 I 61 l1.toNatClampNeg (-2)) 62 l1.toNatClampNeg l2) 63 l1.toNatClampNeg l3), J) else none) else none) else none) else some (some (Value.int (-14)), (sz, sl, sh, R, I, J))) else some (some (Value.int (-1)), (sz, sl, sh, R, I, J)))) :=
  tq ((E_if_eq f227_13)) (ite_c (tq ((E_iconst (x := (-1)) (by decide) f227_22)) ((E_iret pr_227 f227_23))) (tq ((E_iload (x := l3) rfl f227_16)) (tq ((E_iconst (x := (60)) (by decide) f227_17)) (tq ((E_ic_le f227_19)) (ite_c (tq ((E_iload (x := l3) rfl f227_24)) (tq ((E_if_ge f227_25)) (ite_c (tq ((E_aload (v := Value.ref 37) rfl rfl f227_31)) (tq (tq ((G11032 f227_32)) (if_pos (zS37 hS))) (tq (exe_R (zR37_32 hS)) (tq ((E_iload (x := l1) rfl f227_35)) (tq ((E_iconst (x := (-2)) (by decide) f227_36)) (tq (tq ((E_iast f227_38)) (ite_ar (zS61 hS))) (ite_c (tq ((E_aload (v := Value.ref 37) rfl rfl f227_39)) (tq (tq ((G11033 f227_40)) (if_pos (zS37 hS))) (tq (exe_R (zR37_33 hS)) (tq ((E_iload (x := l1) rfl f227_43)) (tq ((E_iload (x := l2) rfl f227_44)) (tq (tq ((E_iast f227_45)) (ite_ar (zS62 hS))) (ite_c (tq ((E_aload (v := Value.ref 37) rfl rfl f227_46)) (tq (tq ((G11034 f227_47)) (if_pos (zS37 hS))) (tq (exe_R (zR37_34 hS)) (tq ((E_iload (x := l1) rfl f227_50)) (tq ((E_iload (x := l3) rfl f227_51)) (tq (tq ((E_iast f227_52)) (ite_ar (zS63 hS))) (ite_c (tq ((E_iconst (x := (0)) (by decide) f227_53)) ((E_istore rfl f227_54))) rfl))))))) rfl))))))) rfl))))))) (tq ((E_iconst (x := (-14)) (by decide) f227_28)) ((E_iret pr_227 f227_30)))))) (tq ((E_iconst (x := (-1)) (by decide) f227_22)) ((E_iret pr_227 f227_23))))))))
theorem t227_56 {X : XX} {d : Nat} {sz sl : Nat} {sh : Nat → Nat × Nat} {R : Nat → Nat → Option Nat} {I : Nat → Nat → Int32} {J : Nat → Nat → Int64} (hS : SF sh R) {l1 : Int32} {l4 : Int32} : exe X d 227 56 [Value.ref 37, Value.int l1, dm, dm, Value.int l4] [] (sz, sl, sh, R, I, J) =
    (if (60) ≤ l4 then some (some (Value.int (1)), (sz, sl, sh, R, I, J)) else (if inb (((60) * l1) + l4) 360 then exe X d 227 56 [Value.ref 37, Value.int l1, dm, dm, Value.int (l4 + (1))] [] (sz, sl, sh, R, I, (u2 J 64 (((60) * l1) + l4).toNatClampNeg (0))) else none)) :=
  tq ((E_iload (x := l4) rfl f227_56)) (tq ((E_iconst (x := (60)) (by decide) f227_58)) (tq ((E_ic_ge f227_60)) (ite_c (tq ((E_iconst (x := (1)) (by decide) f227_82)) ((E_iret pr_227 f227_83))) (tq ((E_aload (v := Value.ref 37) rfl rfl f227_63)) (tq (tq ((G11035 f227_64)) (if_pos (zS37 hS))) (tq (exe_R (zR37_35 hS)) (tq ((E_iconst (x := (60)) (by decide) f227_67)) (tq ((E_iload (x := l1) rfl f227_69)) (tq ((E_imul f227_70)) (tq ((E_iload (x := l4) rfl f227_71)) (tq ((E_iadd f227_73)) (tq ((E_lconst (x := (0)) (by decide) f227_74)) (tq (tq ((E_last f227_75)) (ite_ar (zS64 hS))) (ite_c (tq ((E_iinc (x := l4) (x' := (1)) rfl rfl (by decide) f227_76)) ((E_goto f227_79))) rfl))))))))))))))
theorem n227 {X : XX} {d : Nat} {h : HP} {a0 : Int32} {a1 : Int32} {a2 : Int32} : ev X (d + 1) 227 [Value.ref 37, Value.int a0, Value.int a1, Value.int a2] h = exe X d 227 0 [Value.ref 37, Value.int a0, Value.int a1, Value.int a2, dm] [] h := ev_exe (Nat.le_of_ble_eq_true rfl)
theorem f228_0 : fr 228 0 = some (.aload 0, 1, [], []) := by decide +kernel
theorem f228_1 : fr 228 1 = some (.iload 1, 1, [], []) := by decide +kernel
theorem f228_2 : fr 228 2 = some (.iload 2, 1, [], []) := by decide +kernel
theorem f228_3 : fr 228 3 = some (.invokevirtual 229, 3, [], []) := by decide +kernel
theorem f228_6 : fr 228 6 = some (.istore 5, 2, [], []) := by decide +kernel
theorem f228_8 : fr 228 8 = some (.iload 5, 2, [], []) := by decide +kernel
theorem f228_10 : fr 228 10 = some (.ifCond .eq 16, 3, [0, 1, 2, 3], [5]) := by decide +kernel
theorem f228_13 : fr 228 13 = some (.iload 5, 2, [5], []) := by decide +kernel
theorem f228_15 : fr 228 15 = some (.ireturn, 1, [], []) := by decide +kernel
theorem f228_16 : fr 228 16 = some (.aload 0, 1, [], []) := by decide +kernel
theorem f228_17 : fr 228 17 = some (.getfield 11035, 3, [], []) := by decide +kernel
theorem f228_20 : fr 228 20 = some (.iconst 60, 2, [], []) := by decide +kernel
theorem f228_22 : fr 228 22 = some (.iload 1, 1, [], []) := by decide +kernel
theorem f228_23 : fr 228 23 = some (.imul, 1, [], []) := by decide +kernel
theorem f228_24 : fr 228 24 = some (.iload 2, 1, [2], []) := by decide +kernel
theorem f228_25 : fr 228 25 = some (.iadd, 1, [], []) := by decide +kernel
theorem f228_26 : fr 228 26 = some (.aload 0, 1, [0], []) := by decide +kernel
theorem f228_27 : fr 228 27 = some (.getfield 11033, 3, [], []) := by decide +kernel
theorem f228_30 : fr 228 30 = some (.iload 1, 1, [1], []) := by decide +kernel
theorem f228_31 : fr 228 31 = some (.iaload, 1, [], []) := by decide +kernel
theorem f228_32 : fr 228 32 = some (.lload 3, 1, [3], []) := by decide +kernel
theorem f228_33 : fr 228 33 = some (.invokestatic 230, 3, [], []) := by decide +kernel
theorem f228_36 : fr 228 36 = some (.lastore, 1, [], []) := by decide +kernel
theorem f228_37 : fr 228 37 = some (.iconst 1, 1, [], []) := by decide +kernel
theorem f228_38 : fr 228 38 = some (.ireturn, 1, [], []) := by decide +kernel
theorem t228_0 {X : XX} {d : Nat} {sz sl : Nat} {sh : Nat → Nat × Nat} {R : Nat → Nat → Option Nat} {I : Nat → Nat → Int32} {J : Nat → Nat → Int64} (hS : SF sh R) {l1 : Int32} {l2 : Int32} {l3 : Int64} : exe X d 228 0 [Value.ref 37, Value.int l1, Value.int l2, Value.long l3, dm, dm] [] (sz, sl, sh, R, I, J) =
    ((ev X d 229 [Value.ref 37, Value.int l1, Value.int l2] (sz, sl, sh, R, I, J)).bind fun q => exe X d 228 6 [Value.ref 37, Value.int l1, Value.int l2, Value.long l3, dm, dm] (q.1.toList ++ []) q.2) :=
  tq ((E_aload (v := Value.ref 37) rfl rfl f228_0)) (tq ((E_iload (x := l1) rfl f228_1)) (tq ((E_iload (x := l2) rfl f228_2)) ((tq ((E_callV pn_229 pc_229 rfl rfl (Nat.le_of_ble_eq_true rfl) f228_3)) (if_pos (zS37 hS))))))
theorem t228_6 {X : XX} {d : Nat} {sz sl : Nat} {sh : Nat → Nat × Nat} {R : Nat → Nat → Option Nat} {I : Nat → Nat → Int32} {J : Nat → Nat → Int64} (hS : SF sh R) {l1 : Int32} {l2 : Int32} {l3 : Int64} {s0 : Int32} : exe X d 228 6 [Value.ref 37, Value.int l1, Value.int l2, Value.long l3, dm, dm] [Value.int s0] (sz, sl, sh, R, I, J) =
    (if s0 = 0 then (if inb l1 6 then ((ev X d 230 [Value.int (I 62 l1.toNatClampNeg), Value.long l3] (sz, sl, sh, R, I, J)).bind fun q => exe X d 228 36 [dm, dm, dm, dm, dm, dm] (q.1.toList ++ [Value.int (((60) * l1) + l2), Value.ref 64]) q.2) else none) else some (some (Value.int s0), (sz, sl, sh, R, I, J))) :=
  tq ((E_istore rfl f228_6)) (tq ((E_iload (x := s0) rfl f228_8)) (tq ((E_if_eq f228_10)) (ite_c (tq ((E_aload (v := Value.ref 37) rfl rfl f228_16)) (tq (tq ((G11035 f228_17)) (if_pos (zS37 hS))) (tq (exe_R (zR37_35 hS)) (tq ((E_iconst (x := (60)) (by decide) f228_20)) (tq ((E_iload (x := l1) rfl f228_22)) (tq ((E_imul f228_23)) (tq ((E_iload (x := l2) rfl f228_24)) (tq ((E_iadd f228_25)) (tq ((E_aload (v := Value.ref 37) rfl rfl f228_26)) (tq (tq ((G11033 f228_27)) (if_pos (zS37 hS))) (tq (exe_R (zR37_33 hS)) (tq ((E_iload (x := l1) rfl f228_30)) (tq (tq ((E_iald f228_31)) (ite_ar (zS62 hS))) (ite_c (tq ((E_lload (x := l3) rfl f228_32)) ((E_callS pn_230 rfl rfl (Nat.le_of_ble_eq_true rfl) (Nat.le_of_ble_eq_true rfl) f228_33))) rfl)))))))))))))) (tq ((E_iload (x := s0) rfl f228_13)) ((E_iret pr_228 f228_15))))))
theorem t228_36 {X : XX} {d : Nat} {sz sl : Nat} {sh : Nat → Nat × Nat} {R : Nat → Nat → Option Nat} {I : Nat → Nat → Int32} {J : Nat → Nat → Int64} {s0 : Int64} {s1 : Int32} {s2 : Value} (k2 : isB s2 = true) : exe X d 228 36 [dm, dm, dm, dm, dm, dm] [Value.long s0, Value.int s1, s2] (sz, sl, sh, R, I, J) =
    (rf (s2) fun p1 => (if (sh p1).1 = 1 ∧ inb s1 (sh p1).2 then some (some (Value.int (1)), (sz, sl, sh, R, I, (u2 J p1 s1.toNatClampNeg s0))) else none)) :=
  tq ((E_last f228_36)) (rf_c fun p1 => ite_c (tq ((E_iconst (x := (1)) (by decide) f228_37)) ((E_iret pr_228 f228_38))) rfl)
theorem n228 {X : XX} {d : Nat} {h : HP} {a0 : Int32} {a1 : Int32} {a2 : Int64} : ev X (d + 1) 228 [Value.ref 37, Value.int a0, Value.int a1, Value.long a2] h = exe X d 228 0 [Value.ref 37, Value.int a0, Value.int a1, Value.long a2, dm, dm] [] h := ev_exe (Nat.le_of_ble_eq_true rfl)
theorem f229_0 : fr 229 0 = some (.iload 1, 1, [], []) := by decide +kernel
theorem f229_1 : fr 229 1 = some (.invokestatic 160, 3, [], []) := by decide +kernel
theorem f229_4 : fr 229 4 = some (.ifCond .ne 9, 3, [0, 1, 2], []) := by decide +kernel
theorem f229_7 : fr 229 7 = some (.iconst (-1), 1, [], []) := by decide +kernel
theorem f229_8 : fr 229 8 = some (.ireturn, 1, [], []) := by decide +kernel
theorem f229_9 : fr 229 9 = some (.aload 0, 1, [], []) := by decide +kernel
theorem f229_10 : fr 229 10 = some (.getfield 11032, 3, [], []) := by decide +kernel
theorem f229_13 : fr 229 13 = some (.iload 1, 1, [], []) := by decide +kernel
theorem f229_14 : fr 229 14 = some (.iaload, 1, [], []) := by decide +kernel
theorem f229_15 : fr 229 15 = some (.iconst (-1), 1, [], []) := by decide +kernel
theorem f229_16 : fr 229 16 = some (.if_icmp .ne 24, 3, [0, 1, 2], []) := by decide +kernel
theorem f229_19 : fr 229 19 = some (.iconst (-11), 2, [], []) := by decide +kernel
theorem f229_21 : fr 229 21 = some (.goto 62, 3, [], []) := by decide +kernel
theorem f229_24 : fr 229 24 = some (.aload 0, 1, [], []) := by decide +kernel
theorem f229_25 : fr 229 25 = some (.getfield 11032, 3, [], []) := by decide +kernel
theorem f229_28 : fr 229 28 = some (.iload 1, 1, [], []) := by decide +kernel
theorem f229_29 : fr 229 29 = some (.iaload, 1, [], []) := by decide +kernel
theorem f229_30 : fr 229 30 = some (.iconst (-2), 2, [], []) := by decide +kernel
theorem f229_32 : fr 229 32 = some (.if_icmp .eq 40, 3, [0, 1, 2], []) := by decide +kernel
theorem f229_35 : fr 229 35 = some (.iconst (-12), 2, [], []) := by decide +kernel
theorem f229_37 : fr 229 37 = some (.goto 62, 3, [], []) := by decide +kernel
theorem f229_40 : fr 229 40 = some (.iload 2, 1, [2], []) := by decide +kernel
theorem f229_41 : fr 229 41 = some (.iconst 0, 1, [], []) := by decide +kernel
theorem f229_42 : fr 229 42 = some (.aload 0, 1, [0], []) := by decide +kernel
theorem f229_43 : fr 229 43 = some (.getfield 11034, 3, [], []) := by decide +kernel
theorem f229_46 : fr 229 46 = some (.iload 1, 1, [1], []) := by decide +kernel
theorem f229_47 : fr 229 47 = some (.iaload, 1, [], []) := by decide +kernel
theorem f229_48 : fr 229 48 = some (.iconst 1, 1, [], []) := by decide +kernel
theorem f229_49 : fr 229 49 = some (.isub, 1, [], []) := by decide +kernel
theorem f229_50 : fr 229 50 = some (.invokestatic 148, 3, [], []) := by decide +kernel
theorem f229_53 : fr 229 53 = some (.ifCond .eq 60, 3, [], []) := by decide +kernel
theorem f229_56 : fr 229 56 = some (.iconst 0, 1, [], []) := by decide +kernel
theorem f229_57 : fr 229 57 = some (.goto 62, 3, [], []) := by decide +kernel
theorem f229_60 : fr 229 60 = some (.iconst (-13), 2, [], []) := by decide +kernel
theorem f229_62 : fr 229 62 = some (.ireturn, 1, [], []) := by decide +kernel
theorem t229_0 {X : XX} {d : Nat} {sz sl : Nat} {sh : Nat → Nat × Nat} {R : Nat → Nat → Option Nat} {I : Nat → Nat → Int32} {J : Nat → Nat → Int64} {l1 : Int32} {l2 : Int32} : exe X d 229 0 [Value.ref 37, Value.int l1, Value.int l2] [] (sz, sl, sh, R, I, J) =
    ((ev X d 160 [Value.int l1] (sz, sl, sh, R, I, J)).bind fun q => exe X d 229 4 [Value.ref 37, Value.int l1, Value.int l2] (q.1.toList ++ []) q.2) :=
  tq ((E_iload (x := l1) rfl f229_0)) ((E_callS pn_160 rfl rfl (Nat.le_of_ble_eq_true rfl) (Nat.le_of_ble_eq_true rfl) f229_1))
theorem t229_4 {X : XX} {d : Nat} {sz sl : Nat} {sh : Nat → Nat × Nat} {R : Nat → Nat → Option Nat} {I : Nat → Nat → Int32} {J : Nat → Nat → Int64} (hS : SF sh R) {l1 : Int32} {l2 : Int32} {s0 : Int32} : exe X d 229 4 [Value.ref 37, Value.int l1, Value.int l2] [Value.int s0] (sz, sl, sh, R, I, J) =
    (if ¬ s0 = 0 then (if inb l1 6 then (if ¬ (I 61 l1.toNatClampNeg) = (-1) then (if inb l1 6 then (if (I 61 l1.toNatClampNeg) = (-2) then (if inb l1 6 then ((ev X d 148 [Value.int l2, Value.int (0), Value.int ((I 63 l1.toNatClampNeg) - (1))] (sz, sl, sh, R, I, J)).bind fun q => exe X d 229 53 [dm, dm, dm] (q.1.toList ++ []) q.2) else none) else some (some (Value.int (-12)), (sz, sl, sh, R, I, J))) else none) else some (some (Value.int (-11)), (sz, sl, sh, R, I, J))) else none) else some (some (Value.int (-1)), (sz, sl, sh, R, I, J))) :=
  tq ((E_if_ne f229_4)) (ite_c (tq ((E_aload (v := Value.ref 37) rfl rfl f229_9)) (tq (tq ((G11032 f229_10)) (if_pos (zS37 hS))) (tq (exe_R (zR37_32 hS)) (tq ((E_iload (x := l1) rfl f229_13)) (tq (tq ((E_iald f229_14)) (ite_ar (zS61 hS))) (ite_c (tq ((E_iconst (x := (-1)) (by decide) f229_15)) (tq ((E_ic_ne f229_16)) (ite_c (tq ((E_aload (v := Value.ref 37) rfl rfl f229_24)) (tq (tq ((G11032 f229_25)) (if_pos (zS37 hS))) (tq (exe_R (zR37_32 hS)) (tq ((E_iload (x := l1) rfl f229_28)) (tq (tq ((E_iald f229_29)) (ite_ar (zS61 hS))) (ite_c (tq ((E_iconst (x := (-2)) (by decide) f229_30)) (tq ((E_ic_eq f229_32)) (ite_c (tq ((E_iload (x := l2) rfl f229_40)) (tq ((E_iconst (x := (0)) (by decide) f229_41)) (tq ((E_aload (v := Value.ref 37) rfl rfl f229_42)) (tq (tq ((G11034 f229_43)) (if_pos (zS37 hS))) (tq (exe_R (zR37_34 hS)) (tq ((E_iload (x := l1) rfl f229_46)) (tq (tq ((E_iald f229_47)) (ite_ar (zS63 hS))) (ite_c (tq ((E_iconst (x := (1)) (by decide) f229_48)) (tq ((E_isub f229_49)) ((E_callS pn_148 rfl rfl (Nat.le_of_ble_eq_true rfl) (Nat.le_of_ble_eq_true rfl) f229_50)))) rfl)))))))) (tq ((E_iconst (x := (-12)) (by decide) f229_35)) (tq ((E_goto f229_37)) ((E_iret pr_229 f229_62))))))) rfl)))))) (tq ((E_iconst (x := (-11)) (by decide) f229_19)) (tq ((E_goto f229_21)) ((E_iret pr_229 f229_62))))))) rfl)))))) (tq ((E_iconst (x := (-1)) (by decide) f229_7)) ((E_iret pr_229 f229_8))))
theorem t229_53 {X : XX} {d : Nat} {sz sl : Nat} {sh : Nat → Nat × Nat} {R : Nat → Nat → Option Nat} {I : Nat → Nat → Int32} {J : Nat → Nat → Int64} {s0 : Int32} : exe X d 229 53 [dm, dm, dm] [Value.int s0] (sz, sl, sh, R, I, J) =
    (if s0 = 0 then some (some (Value.int (-13)), (sz, sl, sh, R, I, J)) else some (some (Value.int (0)), (sz, sl, sh, R, I, J))) :=
  tq ((E_if_eq f229_53)) (ite_c (tq ((E_iconst (x := (-13)) (by decide) f229_60)) ((E_iret pr_229 f229_62))) (tq ((E_iconst (x := (0)) (by decide) f229_56)) (tq ((E_goto f229_57)) ((E_iret pr_229 f229_62)))))
theorem n229 {X : XX} {d : Nat} {h : HP} {a0 : Int32} {a1 : Int32} : ev X (d + 1) 229 [Value.ref 37, Value.int a0, Value.int a1] h = exe X d 229 0 [Value.ref 37, Value.int a0, Value.int a1] [] h := ev_exe (Nat.le_of_ble_eq_true rfl)
theorem f230_0 : fr 230 0 = some (.iload 0, 1, [], []) := by decide +kernel
theorem f230_1 : fr 230 1 = some (.ifCond .ne 11, 3, [0], []) := by decide +kernel
theorem f230_4 : fr 230 4 = some (.lload 1, 1, [1], []) := by decide +kernel
theorem f230_5 : fr 230 5 = some (.l2i, 1, [], []) := by decide +kernel
theorem f230_6 : fr 230 6 = some (.i2b, 1, [], []) := by decide +kernel
theorem f230_7 : fr 230 7 = some (.i2l, 1, [], []) := by decide +kernel
theorem f230_8 : fr 230 8 = some (.goto 54, 3, [], []) := by decide +kernel
theorem f230_11 : fr 230 11 = some (.iload 0, 1, [], []) := by decide +kernel
theorem f230_12 : fr 230 12 = some (.iconst 1, 1, [], []) := by decide +kernel
theorem f230_13 : fr 230 13 = some (.if_icmp .ne 23, 3, [0], []) := by decide +kernel
theorem f230_16 : fr 230 16 = some (.lload 1, 1, [1], []) := by decide +kernel
theorem f230_17 : fr 230 17 = some (.l2i, 1, [], []) := by decide +kernel
theorem f230_18 : fr 230 18 = some (.i2s, 1, [], []) := by decide +kernel
theorem f230_19 : fr 230 19 = some (.i2l, 1, [], []) := by decide +kernel
theorem f230_20 : fr 230 20 = some (.goto 54, 3, [], []) := by decide +kernel
theorem f230_23 : fr 230 23 = some (.iload 0, 1, [], []) := by decide +kernel
theorem f230_24 : fr 230 24 = some (.iconst 2, 1, [], []) := by decide +kernel
theorem f230_25 : fr 230 25 = some (.if_icmp .ne 34, 3, [0], []) := by decide +kernel
theorem f230_28 : fr 230 28 = some (.lload 1, 1, [1], []) := by decide +kernel
theorem f230_29 : fr 230 29 = some (.l2i, 1, [], []) := by decide +kernel
theorem f230_30 : fr 230 30 = some (.i2l, 1, [], []) := by decide +kernel
theorem f230_31 : fr 230 31 = some (.goto 54, 3, [], []) := by decide +kernel
theorem f230_34 : fr 230 34 = some (.iload 0, 1, [0], []) := by decide +kernel
theorem f230_35 : fr 230 35 = some (.iconst 3, 1, [], []) := by decide +kernel
theorem f230_36 : fr 230 36 = some (.if_icmp .ne 43, 3, [], []) := by decide +kernel
theorem f230_39 : fr 230 39 = some (.lload 1, 1, [1], []) := by decide +kernel
theorem f230_40 : fr 230 40 = some (.goto 54, 3, [], []) := by decide +kernel
theorem f230_43 : fr 230 43 = some (.lload 1, 1, [1], []) := by decide +kernel
theorem f230_44 : fr 230 44 = some (.jsr_w 0, 1, [], []) := by decide +kernel
theorem f230_45 : fr 230 45 = some (.lcmp, 1, [], []) := by decide +kernel
theorem f230_46 : fr 230 46 = some (.ifCond .eq 53, 3, [], []) := by decide +kernel
theorem f230_49 : fr 230 49 = some (.jsr_w 1, 1, [], []) := by decide +kernel
theorem f230_50 : fr 230 50 = some (.goto 54, 3, [], []) := by decide +kernel
theorem f230_53 : fr 230 53 = some (.jsr_w 0, 1, [], []) := by decide +kernel
theorem f230_54 : fr 230 54 = some (.lreturn, 1, [], []) := by decide +kernel
theorem t230_0 {X : XX} {d : Nat} {sz sl : Nat} {sh : Nat → Nat × Nat} {R : Nat → Nat → Option Nat} {I : Nat → Nat → Int32} {J : Nat → Nat → Int64} {l0 : Int32} {l1 : Int64} : exe X d 230 0 [Value.int l0, Value.long l1, dm] [] (sz, sl, sh, R, I, J) =
    (if ¬ l0 = 0 then (if ¬ l0 = (1) then (if ¬ l0 = (2) then (if ¬ l0 = (3) then (if (lg_cmp l1 (0)) = 0 then some (some (Value.long (0)), (sz, sl, sh, R, I, J)) else some (some (Value.long (1)), (sz, sl, sh, R, I, J))) else some (some (Value.long l1), (sz, sl, sh, R, I, J))) else some (some (Value.long (Int32.toInt64 (Int64.toInt32 l1))), (sz, sl, sh, R, I, J))) else some (some (Value.long (Int32.toInt64 ((Int32.toInt16 (Int64.toInt32 l1)).toInt32))), (sz, sl, sh, R, I, J))) else some (some (Value.long (Int32.toInt64 ((Int32.toInt8 (Int64.toInt32 l1)).toInt32))), (sz, sl, sh, R, I, J))) :=
  tq ((E_iload (x := l0) rfl f230_0)) (tq ((E_if_ne f230_1)) (ite_c (tq ((E_iload (x := l0) rfl f230_11)) (tq ((E_iconst (x := (1)) (by decide) f230_12)) (tq ((E_ic_ne f230_13)) (ite_c (tq ((E_iload (x := l0) rfl f230_23)) (tq ((E_iconst (x := (2)) (by decide) f230_24)) (tq ((E_ic_ne f230_25)) (ite_c (tq ((E_iload (x := l0) rfl f230_34)) (tq ((E_iconst (x := (3)) (by decide) f230_35)) (tq ((E_ic_ne f230_36)) (ite_c (tq ((E_lload (x := l1) rfl f230_43)) (tq ((E_lconst (x := (0)) (by decide) f230_44)) (tq ((E_lcmp f230_45)) (tq ((E_if_eq f230_46)) (ite_c (tq ((E_lconst (x := (0)) (by decide) f230_53)) ((E_lret pr_230 f230_54))) (tq ((E_lconst (x := (1)) (by decide) f230_49)) (tq ((E_goto f230_50)) ((E_lret pr_230 f230_54))))))))) (tq ((E_lload (x := l1) rfl f230_39)) (tq ((E_goto f230_40)) ((E_lret pr_230 f230_54)))))))) (tq ((E_lload (x := l1) rfl f230_28)) (tq ((E_l2i f230_29)) (tq ((E_i2l f230_30)) (tq ((E_goto f230_31)) ((E_lret pr_230 f230_54)))))))))) (tq ((E_lload (x := l1) rfl f230_16)) (tq ((E_l2i f230_17)) (tq ((E_i2s f230_18)) (tq ((E_i2l f230_19)) (tq ((E_goto f230_20)) ((E_lret pr_230 f230_54))))))))))) (tq ((E_lload (x := l1) rfl f230_4)) (tq ((E_l2i f230_5)) (tq ((E_i2b f230_6)) (tq ((E_i2l f230_7)) (tq ((E_goto f230_8)) ((E_lret pr_230 f230_54)))))))))
theorem n230 {X : XX} {d : Nat} {h : HP} {a0 : Int32} {a1 : Int64} : ev X (d + 1) 230 [Value.int a0, Value.long a1] h = exe X d 230 0 [Value.int a0, Value.long a1, dm] [] h := ev_exe (Nat.le_of_ble_eq_true rfl)
theorem f231_0 : fr 231 0 = some (.aload 0, 1, [], []) := by decide +kernel
theorem f231_1 : fr 231 1 = some (.iload 1, 1, [], []) := by decide +kernel
theorem f231_2 : fr 231 2 = some (.iload 2, 1, [], []) := by decide +kernel
theorem f231_3 : fr 231 3 = some (.invokevirtual 229, 3, [], []) := by decide +kernel
theorem f231_6 : fr 231 6 = some (.istore 3, 1, [], []) := by decide +kernel
theorem f231_7 : fr 231 7 = some (.iload 3, 1, [3], []) := by decide +kernel
theorem f231_8 : fr 231 8 = some (.ifCond .eq 17, 3, [0, 1, 2], []) := by decide +kernel
theorem f231_11 : fr 231 11 = some (.jsr_w (-9223372036854775808), 3, [], []) := by decide +kernel
theorem f231_14 : fr 231 14 = some (.goto 28, 3, [], []) := by decide +kernel
theorem f231_17 : fr 231 17 = some (.aload 0, 1, [0], []) := by decide +kernel
theorem f231_18 : fr 231 18 = some (.getfield 11035, 3, [], []) := by decide +kernel
theorem f231_21 : fr 231 21 = some (.iconst 60, 2, [], []) := by decide +kernel
theorem f231_23 : fr 231 23 = some (.iload 1, 1, [1], []) := by decide +kernel
theorem f231_24 : fr 231 24 = some (.imul, 1, [], []) := by decide +kernel
theorem f231_25 : fr 231 25 = some (.iload 2, 1, [2], []) := by decide +kernel
theorem f231_26 : fr 231 26 = some (.iadd, 1, [], []) := by decide +kernel
theorem f231_27 : fr 231 27 = some (.laload, 1, [], []) := by decide +kernel
theorem f231_28 : fr 231 28 = some (.lreturn, 1, [], []) := by decide +kernel
theorem t231_0 {X : XX} {d : Nat} {sz sl : Nat} {sh : Nat → Nat × Nat} {R : Nat → Nat → Option Nat} {I : Nat → Nat → Int32} {J : Nat → Nat → Int64} (hS : SF sh R) {l1 : Int32} {l2 : Int32} : exe X d 231 0 [Value.ref 37, Value.int l1, Value.int l2, dm] [] (sz, sl, sh, R, I, J) =
    ((ev X d 229 [Value.ref 37, Value.int l1, Value.int l2] (sz, sl, sh, R, I, J)).bind fun q => exe X d 231 6 [Value.ref 37, Value.int l1, Value.int l2, dm] (q.1.toList ++ []) q.2) :=
  tq ((E_aload (v := Value.ref 37) rfl rfl f231_0)) (tq ((E_iload (x := l1) rfl f231_1)) (tq ((E_iload (x := l2) rfl f231_2)) ((tq ((E_callV pn_229 pc_229 rfl rfl (Nat.le_of_ble_eq_true rfl) f231_3)) (if_pos (zS37 hS))))))
theorem t231_6 {X : XX} {d : Nat} {sz sl : Nat} {sh : Nat → Nat × Nat} {R : Nat → Nat → Option Nat} {I : Nat → Nat → Int32} {J : Nat → Nat → Int64} (hS : SF sh R) {l1 : Int32} {l2 : Int32} {s0 : Int32} : exe X d 231 6 [Value.ref 37, Value.int l1, Value.int l2, dm] [Value.int s0] (sz, sl, sh, R, I, J) =
    (if s0 = 0 then (if inb (((60) * l1) + l2) 360 then some (some (Value.long (J 64 (((60) * l1) + l2).toNatClampNeg)), (sz, sl, sh, R, I, J)) else none) else some (some (Value.long (-9223372036854775808)), (sz, sl, sh, R, I, J))) :=
  tq ((E_istore rfl f231_6)) (tq ((E_iload (x := s0) rfl f231_7)) (tq ((E_if_eq f231_8)) (ite_c (tq ((E_aload (v := Value.ref 37) rfl rfl f231_17)) (tq (tq ((G11035 f231_18)) (if_pos (zS37 hS))) (tq (exe_R (zR37_35 hS)) (tq ((E_iconst (x := (60)) (by decide) f231_21)) (tq ((E_iload (x := l1) rfl f231_23)) (tq ((E_imul f231_24)) (tq ((E_iload (x := l2) rfl f231_25)) (tq ((E_iadd f231_26)) (tq (tq ((E_lald f231_27)) (ite_ar (zS64 hS))) (ite_c ((E_lret pr_231 f231_28)) rfl)))))))))) (tq ((E_lconst (x := (-9223372036854775808)) (by decide) f231_11)) (tq ((E_goto f231_14)) ((E_lret pr_231 f231_28)))))))
theorem n231 {X : XX} {d : Nat} {h : HP} {a0 : Int32} {a1 : Int32} : ev X (d + 1) 231 [Value.ref 37, Value.int a0, Value.int a1] h = exe X d 231 0 [Value.ref 37, Value.int a0, Value.int a1, dm] [] h := ev_exe (Nat.le_of_ble_eq_true rfl)
theorem f232_0 : fr 232 0 = some (.iload 1, 1, [], []) := by decide +kernel
theorem f232_1 : fr 232 1 = some (.invokestatic 160, 3, [], []) := by decide +kernel
theorem f232_4 : fr 232 4 = some (.ifCond .eq 14, 3, [], [0, 1, 2, 3, 4, 5]) := by decide +kernel
theorem f232_7 : fr 232 7 = some (.iload 3, 1, [], []) := by decide +kernel
theorem f232_8 : fr 232 8 = some (.invokestatic 160, 3, [], []) := by decide +kernel
theorem f232_11 : fr 232 11 = some (.ifCond .ne 16, 3, [0, 1, 2, 3, 4, 5], []) := by decide +kernel
theorem f232_14 : fr 232 14 = some (.iconst (-1), 1, [], []) := by decide +kernel
theorem f232_15 : fr 232 15 = some (.ireturn, 1, [], []) := by decide +kernel
theorem f232_16 : fr 232 16 = some (.aload 0, 1, [], []) := by decide +kernel
theorem f232_17 : fr 232 17 = some (.getfield 11032, 3, [], []) := by decide +kernel
theorem f232_20 : fr 232 20 = some (.iload 1, 1, [], []) := by decide +kernel
theorem f232_21 : fr 232 21 = some (.iaload, 1, [], []) := by decide +kernel
theorem f232_22 : fr 232 22 = some (.iconst (-1), 1, [], []) := by decide +kernel
theorem f232_23 : fr 232 23 = some (.if_icmp .eq 36, 3, [], [0, 1, 2, 3, 4, 5]) := by decide +kernel
theorem f232_26 : fr 232 26 = some (.aload 0, 1, [], []) := by decide +kernel
theorem f232_27 : fr 232 27 = some (.getfield 11032, 3, [], []) := by decide +kernel
theorem f232_30 : fr 232 30 = some (.iload 3, 1, [], []) := by decide +kernel
theorem f232_31 : fr 232 31 = some (.iaload, 1, [], []) := by decide +kernel
theorem f232_32 : fr 232 32 = some (.iconst (-1), 1, [], []) := by decide +kernel
theorem f232_33 : fr 232 33 = some (.if_icmp .ne 39, 3, [0, 1, 2, 3, 4, 5], []) := by decide +kernel
theorem f232_36 : fr 232 36 = some (.iconst (-11), 2, [], []) := by decide +kernel
theorem f232_38 : fr 232 38 = some (.ireturn, 1, [], []) := by decide +kernel
theorem f232_39 : fr 232 39 = some (.aload 0, 1, [], []) := by decide +kernel
theorem f232_40 : fr 232 40 = some (.getfield 11032, 3, [], []) := by decide +kernel
theorem f232_43 : fr 232 43 = some (.iload 1, 1, [], []) := by decide +kernel
theorem f232_44 : fr 232 44 = some (.iaload, 1, [], []) := by decide +kernel
theorem f232_45 : fr 232 45 = some (.iconst (-2), 2, [], []) := by decide +kernel
theorem f232_47 : fr 232 47 = some (.if_icmp .ne 76, 3, [], [0, 1, 2, 3, 4, 5]) := by decide +kernel
theorem f232_50 : fr 232 50 = some (.aload 0, 1, [], []) := by decide +kernel
theorem f232_51 : fr 232 51 = some (.getfield 11032, 3, [], []) := by decide +kernel
theorem f232_54 : fr 232 54 = some (.iload 3, 1, [], []) := by decide +kernel
theorem f232_55 : fr 232 55 = some (.iaload, 1, [], []) := by decide +kernel
theorem f232_56 : fr 232 56 = some (.iconst (-2), 2, [], []) := by decide +kernel
theorem f232_58 : fr 232 58 = some (.if_icmp .ne 76, 3, [], [0, 1, 2, 3, 4, 5]) := by decide +kernel
theorem f232_61 : fr 232 61 = some (.aload 0, 1, [], []) := by decide +kernel
theorem f232_62 : fr 232 62 = some (.getfield 11033, 3, [], []) := by decide +kernel
theorem f232_65 : fr 232 65 = some (.iload 1, 1, [], []) := by decide +kernel
theorem f232_66 : fr 232 66 = some (.iaload, 1, [], []) := by decide +kernel
theorem f232_67 : fr 232 67 = some (.aload 0, 1, [], []) := by decide +kernel
theorem f232_68 : fr 232 68 = some (.getfield 11033, 3, [], []) := by decide +kernel
theorem f232_71 : fr 232 71 = some (.iload 3, 1, [], []) := by decide +kernel
theorem f232_72 : fr 232 72 = some (.iaload, 1, [], []) := by decide +kernel
theorem f232_73 : fr 232 73 = some (.if_icmp .eq 79, 3, [0, 1, 2, 3, 4, 5], []) := by decide +kernel
theorem f232_76 : fr 232 76 = some (.iconst (-12), 2, [], []) := by decide +kernel
theorem f232_78 : fr 232 78 = some (.ireturn, 1, [], []) := by decide +kernel
theorem f232_79 : fr 232 79 = some (.iload 5, 2, [], []) := by decide +kernel
theorem f232_81 : fr 232 81 = some (.ifCond .lt 141, 3, [], [0, 1, 2, 3, 4, 5]) := by decide +kernel
theorem f232_84 : fr 232 84 = some (.iload 2, 1, [], []) := by decide +kernel
theorem f232_85 : fr 232 85 = some (.ifCond .lt 141, 3, [], [0, 1, 2, 3, 4, 5]) := by decide +kernel
theorem f232_88 : fr 232 88 = some (.iload 4, 2, [], []) := by decide +kernel
theorem f232_90 : fr 232 90 = some (.ifCond .lt 141, 3, [], [0, 1, 2, 3, 4, 5]) := by decide +kernel
theorem f232_93 : fr 232 93 = some (.iload 2, 1, [], []) := by decide +kernel
theorem f232_94 : fr 232 94 = some (.aload 0, 1, [], []) := by decide +kernel
theorem f232_95 : fr 232 95 = some (.getfield 11034, 3, [], []) := by decide +kernel
theorem f232_98 : fr 232 98 = some (.iload 1, 1, [], []) := by decide +kernel
theorem f232_99 : fr 232 99 = some (.iaload, 1, [], []) := by decide +kernel
theorem f232_100 : fr 232 100 = some (.if_icmp .gt 141, 3, [], [0, 1, 2, 3, 4, 5]) := by decide +kernel
theorem f232_103 : fr 232 103 = some (.iload 4, 2, [], []) := by decide +kernel
theorem f232_105 : fr 232 105 = some (.aload 0, 1, [], []) := by decide +kernel
theorem f232_106 : fr 232 106 = some (.getfield 11034, 3, [], []) := by decide +kernel
theorem f232_109 : fr 232 109 = some (.iload 3, 1, [], []) := by decide +kernel
theorem f232_110 : fr 232 110 = some (.iaload, 1, [], []) := by decide +kernel
theorem f232_111 : fr 232 111 = some (.if_icmp .gt 141, 3, [], [0, 1, 2, 3, 4, 5]) := by decide +kernel
theorem f232_114 : fr 232 114 = some (.iload 5, 2, [], []) := by decide +kernel
theorem f232_116 : fr 232 116 = some (.aload 0, 1, [], []) := by decide +kernel
theorem f232_117 : fr 232 117 = some (.getfield 11034, 3, [], []) := by decide +kernel
theorem f232_120 : fr 232 120 = some (.iload 1, 1, [], []) := by decide +kernel
theorem f232_121 : fr 232 121 = some (.iaload, 1, [], []) := by decide +kernel
theorem f232_122 : fr 232 122 = some (.iload 2, 1, [], []) := by decide +kernel
theorem f232_123 : fr 232 123 = some (.isub, 1, [], []) := by decide +kernel
theorem f232_124 : fr 232 124 = some (.if_icmp .gt 141, 3, [], [0, 1, 2, 3, 4, 5]) := by decide +kernel
theorem f232_127 : fr 232 127 = some (.iload 5, 2, [], []) := by decide +kernel
theorem f232_129 : fr 232 129 = some (.aload 0, 1, [], []) := by decide +kernel
theorem f232_130 : fr 232 130 = some (.getfield 11034, 3, [], []) := by decide +kernel
theorem f232_133 : fr 232 133 = some (.iload 3, 1, [], []) := by decide +kernel
theorem f232_134 : fr 232 134 = some (.iaload, 1, [], []) := by decide +kernel
theorem f232_135 : fr 232 135 = some (.iload 4, 2, [], []) := by decide +kernel
theorem f232_137 : fr 232 137 = some (.isub, 1, [], []) := by decide +kernel
theorem f232_138 : fr 232 138 = some (.if_icmp .le 144, 3, [0, 1, 2, 3, 4, 5], []) := by decide +kernel
theorem f232_141 : fr 232 141 = some (.iconst (-13), 2, [], []) := by decide +kernel
theorem f232_143 : fr 232 143 = some (.ireturn, 1, [], []) := by decide +kernel
theorem f232_144 : fr 232 144 = some (.iconst 0, 1, [], []) := by decide +kernel
theorem f232_145 : fr 232 145 = some (.istore 6, 2, [], []) := by decide +kernel
theorem f232_147 : fr 232 147 = some (.iload 6, 2, [], []) := by decide +kernel
theorem f232_149 : fr 232 149 = some (.iload 5, 2, [], []) := by decide +kernel
theorem f232_151 : fr 232 151 = some (.if_icmp .ge 181, 3, [], [1, 2, 6]) := by decide +kernel
theorem f232_154 : fr 232 154 = some (.aload 0, 1, [], []) := by decide +kernel
theorem f232_155 : fr 232 155 = some (.getfield 11049, 3, [], []) := by decide +kernel
theorem f232_158 : fr 232 158 = some (.iload 6, 2, [], []) := by decide +kernel
theorem f232_160 : fr 232 160 = some (.aload 0, 1, [], []) := by decide +kernel
theorem f232_161 : fr 232 161 = some (.getfield 11035, 3, [], []) := by decide +kernel
theorem f232_164 : fr 232 164 = some (.iconst 60, 2, [], []) := by decide +kernel
theorem f232_166 : fr 232 166 = some (.iload 1, 1, [], []) := by decide +kernel
theorem f232_167 : fr 232 167 = some (.imul, 1, [], []) := by decide +kernel
theorem f232_168 : fr 232 168 = some (.iload 2, 1, [], []) := by decide +kernel
theorem f232_169 : fr 232 169 = some (.iadd, 1, [], []) := by decide +kernel
theorem f232_170 : fr 232 170 = some (.iload 6, 2, [], []) := by decide +kernel
theorem f232_172 : fr 232 172 = some (.iadd, 1, [], []) := by decide +kernel
theorem f232_173 : fr 232 173 = some (.laload, 1, [], []) := by decide +kernel
theorem f232_174 : fr 232 174 = some (.lastore, 1, [], []) := by decide +kernel
theorem f232_175 : fr 232 175 = some (.iinc 6 1, 3, [], []) := by decide +kernel
theorem f232_178 : fr 232 178 = some (.goto 147, 3, [], []) := by decide +kernel
theorem f232_181 : fr 232 181 = some (.iconst 0, 1, [], []) := by decide +kernel
theorem f232_182 : fr 232 182 = some (.istore 6, 2, [], []) := by decide +kernel
theorem f232_184 : fr 232 184 = some (.iload 6, 2, [], []) := by decide +kernel
theorem f232_186 : fr 232 186 = some (.iload 5, 2, [], []) := by decide +kernel
theorem f232_188 : fr 232 188 = some (.if_icmp .ge 219, 3, [], [0, 3, 4, 6]) := by decide +kernel
theorem f232_191 : fr 232 191 = some (.aload 0, 1, [], []) := by decide +kernel
theorem f232_192 : fr 232 192 = some (.getfield 11035, 3, [], []) := by decide +kernel
theorem f232_195 : fr 232 195 = some (.iconst 60, 2, [], []) := by decide +kernel
theorem f232_197 : fr 232 197 = some (.iload 3, 1, [], []) := by decide +kernel
theorem f232_198 : fr 232 198 = some (.imul, 1, [], []) := by decide +kernel
theorem f232_199 : fr 232 199 = some (.iload 4, 2, [], []) := by decide +kernel
theorem f232_201 : fr 232 201 = some (.iadd, 1, [], []) := by decide +kernel
theorem f232_202 : fr 232 202 = some (.iload 6, 2, [], []) := by decide +kernel
theorem f232_204 : fr 232 204 = some (.iadd, 1, [], []) := by decide +kernel
theorem f232_205 : fr 232 205 = some (.aload 0, 1, [], []) := by decide +kernel
theorem f232_206 : fr 232 206 = some (.getfield 11049, 3, [], []) := by decide +kernel
theorem f232_209 : fr 232 209 = some (.iload 6, 2, [], []) := by decide +kernel
theorem f232_211 : fr 232 211 = some (.laload, 1, [], []) := by decide +kernel
theorem f232_212 : fr 232 212 = some (.lastore, 1, [], []) := by decide +kernel
theorem f232_213 : fr 232 213 = some (.iinc 6 1, 3, [], []) := by decide +kernel
theorem f232_216 : fr 232 216 = some (.goto 184, 3, [], []) := by decide +kernel
theorem f232_219 : fr 232 219 = some (.iload 5, 2, [5], []) := by decide +kernel
theorem f232_221 : fr 232 221 = some (.ireturn, 1, [], []) := by decide +kernel
theorem t232_0 {X : XX} {d : Nat} {sz sl : Nat} {sh : Nat → Nat × Nat} {R : Nat → Nat → Option Nat} {I : Nat → Nat → Int32} {J : Nat → Nat → Int64} {l1 : Int32} {l2 : Int32} {l3 : Int32} {l4 : Int32} {l5 : Int32} : exe X d 232 0 [Value.ref 37, Value.int l1, Value.int l2, Value.int l3, Value.int l4, Value.int l5, dm] [] (sz, sl, sh, R, I, J) =
    ((ev X d 160 [Value.int l1] (sz, sl, sh, R, I, J)).bind fun q => exe X d 232 4 [Value.ref 37, Value.int l1, Value.int l2, Value.int l3, Value.int l4, Value.int l5, dm] (q.1.toList ++ []) q.2) :=
  tq ((E_iload (x := l1) rfl f232_0)) ((E_callS pn_160 rfl rfl (Nat.le_of_ble_eq_true rfl) (Nat.le_of_ble_eq_true rfl) f232_1))
theorem t232_4 {X : XX} {d : Nat} {sz sl : Nat} {sh : Nat → Nat × Nat} {R : Nat → Nat → Option Nat} {I : Nat → Nat → Int32} {J : Nat → Nat → Int64} {l1 : Int32} {l2 : Int32} {l3 : Int32} {l4 : Int32} {l5 : Int32} {s0 : Int32} : exe X d 232 4 [Value.ref 37, Value.int l1, Value.int l2, Value.int l3, Value.int l4, Value.int l5, dm] [Value.int s0] (sz, sl, sh, R, I, J) =
    (if s0 = 0 then some (some (Value.int (-1)), (sz, sl, sh, R, I, J)) else ((ev X d 160 [Value.int l3] (sz, sl, sh, R, I, J)).bind fun q => exe X d 232 11 [Value.ref 37, Value.int l1, Value.int l2, Value.int l3, Value.int l4, Value.int l5, dm] (q.1.toList ++ []) q.2)) :=
  tq ((E_if_eq f232_4)) (ite_c (tq ((E_iconst (x := (-1)) (by decide) f232_14)) ((E_iret pr_232 f232_15))) (tq ((E_iload (x := l3) rfl f232_7)) ((E_callS pn_160 rfl rfl (Nat.le_of_ble_eq_true rfl) (Nat.le_of_ble_eq_true rfl) f232_8))))
theorem t232_11 {X : XX} {d : Nat} {sz sl : Nat} {sh : Nat → Nat × Nat} {R : Nat → Nat → Option Nat} {I : Nat → Nat → Int32} {J : Nat → Nat → Int64} (hS : SF sh R) {l1 : Int32} {l2 : Int32} {l3 : Int32} {l4 : Int32} {l5 : Int32} {s0 : Int32} : exe X d 232 11 [Value.ref 37, Value.int l1, Value.int l2, Value.int l3, Value.int l4, Value.int l5, dm] [Value.int s0] (sz, sl, sh, R, I, J) =
    (if ¬ s0 = 0 then (if inb l1 6 then (if (I 61 l1.toNatClampNeg) = (-1) then some (some (Value.int (-11)), (sz, sl, sh, R, I, J)) else (if inb l3 6 then (if ¬ (I 61 l3.toNatClampNeg) = (-1) then (if inb l1 6 then (if ¬ (I 61 l1.toNatClampNeg) = (-2) then some (some (Value.int (-12)), (sz, sl, sh, R, I, J)) else (if inb l3 6 then (if ¬ (I 61 l3.toNatClampNeg) = (-2) then some (some (Value.int (-12)), (sz, sl, sh, R, I, J)) else (if inb l1 6 then (if inb l3 6 then (if (I 62 l1.toNatClampNeg) = (I 62 l3.toNatClampNeg) then (if l5 < 0 then some (some (Value.int (-13)), (sz, sl, sh, R, I, J)) else (if l2 < 0 then some (some (Value.int (-13)), (sz, sl, sh, R, I, J)) else (if l4 < 0 then some (some (Value.int (-13)), (sz, sl, sh, R, I, J)) else (if inb l1 6 then (if (I 63 l1.toNatClampNeg) < l2 then some (some (Value.int (-13)), (sz, sl, sh, R, I, J)) else (if inb l3 6 then (if (I 63 l3.toNatClampNeg) < l4 then some (some (Value.int (-13)), (sz, sl, sh, R, I, J)) else (if inb l1 6 then (if ((I 63 l1.toNatClampNeg) - l2) < l5 then some (some (Value.int (-13)), (sz, sl, sh, R, I, J)) else (if inb l3 6 then (if l5 ≤ ((I 63 l3.toNatClampNeg) - l4) then exe X d 232 147 [Value.ref 37, Value.int l1, Value.int l2, Value.int l3, Value.int l4, Value.int l5, Value.int (0)] [] (sz, sl, sh, R, I, J) else some (some (Value.int (-13)), (sz, sl, sh, R, I, J))) else none)) else none)) else none)) else none)))) else some (some (Value.int (-12)), (sz, sl, sh, R, I, J))) else none) else none)) else none)) else none) else some (some (Value.int (-11)), (sz, sl, sh, R, I, J))) else none)) else none) else some (some (Value.int (-1)), (sz, sl, sh, R, I, J))) :=
  tq ((E_if_ne f232_11)) (ite_c (tq ((E_aload (v := Value.ref 37) rfl rfl f232_16)) (tq (tq ((G11032 f232_17)) (if_pos (zS37 hS))) (tq (exe_R (zR37_32 hS)) (tq ((E_iload (x := l1) rfl f232_20)) (tq (tq ((E_iald f232_21)) (ite_ar (zS61 hS))) (ite_c (tq ((E_iconst (x := (-1)) (by decide) f232_22)) (tq ((E_ic_eq f232_23)) (ite_c (tq ((E_iconst (x := (-11)) (by decide) f232_36)) ((E_iret pr_232 f232_38))) (tq ((E_aload (v := Value.ref 37) rfl rfl f232_26)) (tq (tq ((G11032 f232_27)) (if_pos (zS37 hS))) (tq (exe_R (zR37_32 hS)) (tq ((E_iload (x := l3) rfl f232_30)) (tq (tq ((E_iald f232_31)) (ite_ar (zS61 hS))) (ite_c (tq ((E_iconst (x := (-1)) (by decide) f232_32)) (tq ((E_ic_ne f232_33)) (ite_c (tq ((E_aload (v := Value.ref 37) rfl rfl f232_39)) (tq (tq ((G11032 f232_40)) (if_pos (zS37 hS))) (tq (exe_R (zR37_32 hS)) (tq ((E_iload (x := l1) rfl f232_43)) (tq (tq ((E_iald f232_44)) (ite_ar (zS61 hS))) (ite_c (tq ((E_iconst (x := (-2)) (by decide) f232_45)) (tq ((E_ic_ne f232_47)) (ite_c (tq ((E_iconst (x := (-12)) (by decide) f232_76)) ((E_iret pr_232 f232_78))) (tq ((E_aload (v := Value.ref 37) rfl rfl f232_50)) (tq (tq ((G11032 f232_51)) (if_pos (zS37 hS))) (tq (exe_R (zR37_32 hS)) (tq ((E_iload (x := l3) rfl f232_54)) (tq (tq ((E_iald f232_55)) (ite_ar (zS61 hS))) (ite_c (tq ((E_iconst (x := (-2)) (by decide) f232_56)) (tq ((E_ic_ne f232_58)) (ite_c (tq ((E_iconst (x := (-12)) (by decide) f232_76)) ((E_iret pr_232 f232_78))) (tq ((E_aload (v := Value.ref 37) rfl rfl f232_61)) (tq (tq ((G11033 f232_62)) (if_pos (zS37 hS))) (tq (exe_R (zR37_33 hS)) (tq ((E_iload (x := l1) rfl f232_65)) (tq (tq ((E_iald f232_66)) (ite_ar (zS62 hS))) (ite_c (tq ((E_aload (v := Value.ref 37) rfl rfl f232_67)) (tq (tq ((G11033 f232_68)) (if_pos (zS37 hS))) (tq (exe_R (zR37_33 hS)) (tq ((E_iload (x := l3) rfl f232_71)) (tq (tq ((E_iald f232_72)) (ite_ar (zS62 hS))) (ite_c (tq ((E_ic_eq f232_73)) (ite_c (tq ((E_iload (x := l5) rfl f232_79)) (tq ((E_if_lt f232_81)) (ite_c (tq ((E_iconst (x := (-13)) (by decide) f232_141)) ((E_iret pr_232 f232_143))) (tq ((E_iload (x := l2) rfl f232_84)) (tq ((E_if_lt f232_85)) (ite_c (tq ((E_iconst (x := (-13)) (by decide) f232_141)) ((E_iret pr_232 f232_143))) (tq ((E_iload (x := l4) rfl f232_88)) (tq ((E_if_lt f232_90)) (ite_c (tq ((E_iconst (x := (-13)) (by decide) f232_141)) ((E_iret pr_232 f232_143))) (tq ((E_iload (x := l2) rfl f232_93)) (tq ((E_aload (v := Value.ref 37) rfl rfl f232_94)) (tq (tq ((G11034 f232_95)) (if_pos (zS37 hS))) (tq (exe_R (zR37_34 hS)) (tq ((E_iload (x := l1) rfl f232_98)) (tq (tq ((E_iald f232_99)) (ite_ar (zS63 hS))) (ite_c (tq ((E_ic_gt f232_100)) (ite_c (tq ((E_iconst (x := (-13)) (by decide) f232_141)) ((E_iret pr_232 f232_143))) (tq ((E_iload (x := l4) rfl f232_103)) (tq ((E_aload (v := Value.ref 37) rfl rfl f232_105)) (tq (tq ((G11034 f232_106)) (if_pos (zS37 hS))) (tq (exe_R (zR37_34 hS)) (tq ((E_iload (x := l3) rfl f232_109)) (tq (tq ((E_iald f232_110)) (ite_ar (zS63 hS))) (ite_c (tq ((E_ic_gt f232_111)) (ite_c (tq ((E_iconst (x := (-13)) (by decide) f232_141)) ((E_iret pr_232 f232_143))) (tq ((E_iload (x := l5) rfl f232_114)) (tq ((E_aload (v := Value.ref 37) rfl rfl f232_116)) (tq (tq ((G11034 f232_117)) (if_pos (zS37 hS))) (tq (exe_R (zR37_34 hS)) (tq ((E_iload (x := l1) rfl f232_120)) (tq (tq ((E_iald f232_121)) (ite_ar (zS63 hS))) (ite_c (tq ((E_iload (x := l2) rfl f232_122)) (tq ((E_isub f232_123)) (tq ((E_ic_gt f232_124)) (ite_c (tq ((E_iconst (x := (-13)) (by decide) f232_141)) ((E_iret pr_232 f232_143))) (tq ((E_iload (x := l5) rfl f232_127)) (tq ((E_aload (v := Value.ref 37) rfl rfl f232_129)) (tq (tq ((G11034 f232_130)) (if_pos (zS37 hS))) (tq (exe_R (zR37_34 hS)) (tq ((E_iload (x := l3) rfl f232_133)) (tq (tq ((E_iald f232_134)) (ite_ar (zS63 hS))) (ite_c (tq ((E_iload (x := l4) rfl f232_135)) (tq ((E_isub f232_137)) (tq ((E_ic_le f232_138)) (ite_c (tq ((E_iconst (x := (0)) (by decide) f232_144)) ((E_istore rfl f232_145))) (tq ((E_iconst (x := (-13)) (by decide) f232_141)) ((E_iret pr_232 f232_143))))))) rfl))))))))))) rfl))))))))) rfl))))))))) rfl)))))))))))))))) (tq ((E_iconst (x := (-12)) (by decide) f232_76)) ((E_iret pr_232 f232_78))))) rfl)))))) rfl))))))))) rfl))))))))) rfl)))))) (tq ((E_iconst (x := (-11)) (by decide) f232_36)) ((E_iret pr_232 f232_38)))))) rfl))))))))) rfl)))))) (tq ((E_iconst (x := (-1)) (by decide) f232_14)) ((E_iret pr_232 f232_15))))
theorem t232_147 {X : XX} {d : Nat} {sz sl : Nat} {sh : Nat → Nat × Nat} {R : Nat → Nat → Option Nat} {I : Nat → Nat → Int32} {J : Nat → Nat → Int64} (hS : SF sh R) {l1 : Int32} {l2 : Int32} {l3 : Int32} {l4 : Int32} {l5 : Int32} {l6 : Int32} : exe X d 232 147 [Value.ref 37, Value.int l1, Value.int l2, Value.int l3, Value.int l4, Value.int l5, Value.int l6] [] (sz, sl, sh, R, I, J) =
    (if l5 ≤ l6 then exe X d 232 184 [Value.ref 37, dm, dm, Value.int l3, Value.int l4, Value.int l5, Value.int (0)] [] (sz, sl, sh, R, I, J) else (if inb ((((60) * l1) + l2) + l6) 360 then (if inb l6 60 then exe X d 232 147 [Value.ref 37, Value.int l1, Value.int l2, Value.int l3, Value.int l4, Value.int l5, Value.int (l6 + (1))] [] (sz, sl, sh, R, I, (u2 J 70 l6.toNatClampNeg (J 64 ((((60) * l1) + l2) + l6).toNatClampNeg))) else none) else none)) :=
  tq ((E_iload (x := l6) rfl f232_147)) (tq ((E_iload (x := l5) rfl f232_149)) (tq ((E_ic_ge f232_151)) (ite_c (tq ((E_iconst (x := (0)) (by decide) f232_181)) ((E_istore rfl f232_182))) (tq ((E_aload (v := Value.ref 37) rfl rfl f232_154)) (tq (tq ((G11049 f232_155)) (if_pos (zS37 hS))) (tq (exe_R (zR37_49 hS)) (tq ((E_iload (x := l6) rfl f232_158)) (tq ((E_aload (v := Value.ref 37) rfl rfl f232_160)) (tq (tq ((G11035 f232_161)) (if_pos (zS37 hS))) (tq (exe_R (zR37_35 hS)) (tq ((E_iconst (x := (60)) (by decide) f232_164)) (tq ((E_iload (x := l1) rfl f232_166)) (tq ((E_imul f232_167)) (tq ((E_iload (x := l2) rfl f232_168)) (tq ((E_iadd f232_169)) (tq ((E_iload (x := l6) rfl f232_170)) (tq ((E_iadd f232_172)) (tq (tq ((E_lald f232_173)) (ite_ar (zS64 hS))) (ite_c (tq (tq ((E_last f232_174)) (ite_ar (zS70 hS))) (ite_c (tq ((E_iinc (x := l6) (x' := (1)) rfl rfl (by decide) f232_175)) ((E_goto f232_178))) rfl)) rfl)))))))))))))))))))
theorem t232_184 {X : XX} {d : Nat} {sz sl : Nat} {sh : Nat → Nat × Nat} {R : Nat → Nat → Option Nat} {I : Nat → Nat → Int32} {J : Nat → Nat → Int64} (hS : SF sh R) {l3 : Int32} {l4 : Int32} {l5 : Int32} {l6 : Int32} : exe X d 232 184 [Value.ref 37, dm, dm, Value.int l3, Value.int l4, Value.int l5, Value.int l6] [] (sz, sl, sh, R, I, J) =
    (if l5 ≤ l6 then some (some (Value.int l5), (sz, sl, sh, R, I, J)) else (if inb l6 60 then (if inb ((((60) * l3) + l4) + l6) 360 then exe X d 232 184 [Value.ref 37, dm, dm, Value.int l3, Value.int l4, Value.int l5, Value.int (l6 + (1))] [] (sz, sl, sh, R, I, (u2 J 64 ((((60) * l3) + l4) + l6).toNatClampNeg (J 70 l6.toNatClampNeg))) else none) else none)) :=
  tq ((E_iload (x := l6) rfl f232_184)) (tq ((E_iload (x := l5) rfl f232_186)) (tq ((E_ic_ge f232_188)) (ite_c (tq ((E_iload (x := l5) rfl f232_219)) ((E_iret pr_232 f232_221))) (tq ((E_aload (v := Value.ref 37) rfl rfl f232_191)) (tq (tq ((G11035 f232_192)) (if_pos (zS37 hS))) (tq (exe_R (zR37_35 hS)) (tq ((E_iconst (x := (60)) (by decide) f232_195)) (tq ((E_iload (x := l3) rfl f232_197)) (tq ((E_imul f232_198)) (tq ((E_iload (x := l4) rfl f232_199)) (tq ((E_iadd f232_201)) (tq ((E_iload (x := l6) rfl f232_202)) (tq ((E_iadd f232_204)) (tq ((E_aload (v := Value.ref 37) rfl rfl f232_205)) (tq (tq ((G11049 f232_206)) (if_pos (zS37 hS))) (tq (exe_R (zR37_49 hS)) (tq ((E_iload (x := l6) rfl f232_209)) (tq (tq ((E_lald f232_211)) (ite_ar (zS70 hS))) (ite_c (tq (tq ((E_last f232_212)) (ite_ar (zS64 hS))) (ite_c (tq ((E_iinc (x := l6) (x' := (1)) rfl rfl (by decide) f232_213)) ((E_goto f232_216))) rfl)) rfl)))))))))))))))))))
theorem n232 {X : XX} {d : Nat} {h : HP} {a0 : Int32} {a1 : Int32} {a2 : Int32} {a3 : Int32} {a4 : Int32} : ev X (d + 1) 232 [Value.ref 37, Value.int a0, Value.int a1, Value.int a2, Value.int a3, Value.int a4] h = exe X d 232 0 [Value.ref 37, Value.int a0, Value.int a1, Value.int a2, Value.int a3, Value.int a4, dm] [] h := ev_exe (Nat.le_of_ble_eq_true rfl)
theorem f233_0 : fr 233 0 = some (.iload 1, 1, [], []) := by decide +kernel
theorem f233_1 : fr 233 1 = some (.invokestatic 160, 3, [], []) := by decide +kernel
theorem f233_4 : fr 233 4 = some (.ifCond .eq 17, 3, [], [0, 1, 2]) := by decide +kernel
theorem f233_7 : fr 233 7 = some (.iload 2, 1, [], []) := by decide +kernel
theorem f233_8 : fr 233 8 = some (.iconst 0, 1, [], []) := by decide +kernel
theorem f233_9 : fr 233 9 = some (.iconst 7, 2, [], []) := by decide +kernel
theorem f233_11 : fr 233 11 = some (.invokestatic 148, 3, [], []) := by decide +kernel
theorem f233_14 : fr 233 14 = some (.ifCond .ne 19, 3, [0, 1, 2], []) := by decide +kernel
theorem f233_17 : fr 233 17 = some (.iconst (-1), 1, [], []) := by decide +kernel
theorem f233_18 : fr 233 18 = some (.ireturn, 1, [], []) := by decide +kernel
theorem f233_19 : fr 233 19 = some (.aload 0, 1, [], []) := by decide +kernel
theorem f233_20 : fr 233 20 = some (.getfield 11032, 3, [], []) := by decide +kernel
theorem f233_23 : fr 233 23 = some (.iload 1, 1, [], []) := by decide +kernel
theorem f233_24 : fr 233 24 = some (.iaload, 1, [], []) := by decide +kernel
theorem f233_25 : fr 233 25 = some (.iconst (-1), 1, [], []) := by decide +kernel
theorem f233_26 : fr 233 26 = some (.if_icmp .ne 32, 3, [0, 1, 2], []) := by decide +kernel
theorem f233_29 : fr 233 29 = some (.iconst (-11), 2, [], []) := by decide +kernel
theorem f233_31 : fr 233 31 = some (.ireturn, 1, [], []) := by decide +kernel
theorem f233_32 : fr 233 32 = some (.aload 0, 1, [], []) := by decide +kernel
theorem f233_33 : fr 233 33 = some (.getfield 11032, 3, [], []) := by decide +kernel
theorem f233_36 : fr 233 36 = some (.iload 1, 1, [], []) := by decide +kernel
theorem f233_37 : fr 233 37 = some (.iaload, 1, [], []) := by decide +kernel
theorem f233_38 : fr 233 38 = some (.ifCond .lt 73, 3, [], [0, 1, 2]) := by decide +kernel
theorem f233_41 : fr 233 41 = some (.aload 0, 1, [], []) := by decide +kernel
theorem f233_42 : fr 233 42 = some (.getfield 11029, 3, [], []) := by decide +kernel
theorem f233_45 : fr 233 45 = some (.aload 0, 1, [], []) := by decide +kernel
theorem f233_46 : fr 233 46 = some (.getfield 11032, 3, [], []) := by decide +kernel
theorem f233_49 : fr 233 49 = some (.iload 1, 1, [], []) := by decide +kernel
theorem f233_50 : fr 233 50 = some (.iaload, 1, [], []) := by decide +kernel
theorem f233_51 : fr 233 51 = some (.iaload, 1, [], []) := by decide +kernel
theorem f233_52 : fr 233 52 = some (.iload 2, 1, [2], []) := by decide +kernel
theorem f233_53 : fr 233 53 = some (.invokestatic 234, 3, [], []) := by decide +kernel
theorem f233_56 : fr 233 56 = some (.ifCond .eq 73, 3, [], [0, 1]) := by decide +kernel
theorem f233_59 : fr 233 59 = some (.aload 0, 1, [], []) := by decide +kernel
theorem f233_60 : fr 233 60 = some (.getfield 11029, 3, [], []) := by decide +kernel
theorem f233_63 : fr 233 63 = some (.aload 0, 1, [0], []) := by decide +kernel
theorem f233_64 : fr 233 64 = some (.getfield 11032, 3, [], []) := by decide +kernel
theorem f233_67 : fr 233 67 = some (.iload 1, 1, [1], []) := by decide +kernel
theorem f233_68 : fr 233 68 = some (.iaload, 1, [], []) := by decide +kernel
theorem f233_69 : fr 233 69 = some (.iaload, 1, [], []) := by decide +kernel
theorem f233_70 : fr 233 70 = some (.goto 75, 3, [], []) := by decide +kernel
theorem f233_73 : fr 233 73 = some (.iconst (-12), 2, [], []) := by decide +kernel
theorem f233_75 : fr 233 75 = some (.ireturn, 1, [], []) := by decide +kernel
theorem t233_0 {X : XX} {d : Nat} {sz sl : Nat} {sh : Nat → Nat × Nat} {R : Nat → Nat → Option Nat} {I : Nat → Nat → Int32} {J : Nat → Nat → Int64} {l1 : Int32} {l2 : Int32} : exe X d 233 0 [Value.ref 37, Value.int l1, Value.int l2] [] (sz, sl, sh, R, I, J) =
    ((ev X d 160 [Value.int l1] (sz, sl, sh, R, I, J)).bind fun q => exe X d 233 4 [Value.ref 37, Value.int l1, Value.int l2] (q.1.toList ++ []) q.2) :=
  tq ((E_iload (x := l1) rfl f233_0)) ((E_callS pn_160 rfl rfl (Nat.le_of_ble_eq_true rfl) (Nat.le_of_ble_eq_true rfl) f233_1))
theorem t233_4 {X : XX} {d : Nat} {sz sl : Nat} {sh : Nat → Nat × Nat} {R : Nat → Nat → Option Nat} {I : Nat → Nat → Int32} {J : Nat → Nat → Int64} {l1 : Int32} {l2 : Int32} {s0 : Int32} : exe X d 233 4 [Value.ref 37, Value.int l1, Value.int l2] [Value.int s0] (sz, sl, sh, R, I, J) =
    (if s0 = 0 then some (some (Value.int (-1)), (sz, sl, sh, R, I, J)) else ((ev X d 148 [Value.int l2, Value.int (0), Value.int (7)] (sz, sl, sh, R, I, J)).bind fun q => exe X d 233 14 [Value.ref 37, Value.int l1, Value.int l2] (q.1.toList ++ []) q.2)) :=
  tq ((E_if_eq f233_4)) (ite_c (tq ((E_iconst (x := (-1)) (by decide) f233_17)) ((E_iret pr_233 f233_18))) (tq ((E_iload (x := l2) rfl f233_7)) (tq ((E_iconst (x := (0)) (by decide) f233_8)) (tq ((E_iconst (x := (7)) (by decide) f233_9)) ((E_callS pn_148 rfl rfl (Nat.le_of_ble_eq_true rfl) (Nat.le_of_ble_eq_true rfl) f233_11))))))
theorem t233_14 {X : XX} {d : Nat} {sz sl : Nat} {sh : Nat → Nat × Nat} {R : Nat → Nat → Option Nat} {I : Nat → Nat → Int32} {J : Nat → Nat → Int64} (hS : SF sh R) {l1 : Int32} {l2 : Int32} {s0 : Int32} : exe X d 233 14 [Value.ref 37, Value.int l1, Value.int l2] [Value.int s0] (sz, sl, sh, R, I, J) =
    (if ¬ s0 = 0 then (if inb l1 6 then (if ¬ (I 61 l1.toNatClampNeg) = (-1) then (if inb l1 6 then (if (I 61 l1.toNatClampNeg) < 0 then some (some (Value.int (-12)), (sz, sl, sh, R, I, J)) else (if inb l1 6 then (if inb (I 61 l1.toNatClampNeg) 50 then ((ev X d 234 [Value.int (I 59 (I 61 l1.toNatClampNeg).toNatClampNeg), Value.int l2] (sz, sl, sh, R, I, J)).bind fun q => exe X d 233 56 [Value.ref 37, Value.int l1, dm] (q.1.toList ++ []) q.2) else none) else none)) else none) else some (some (Value.int (-11)), (sz, sl, sh, R, I, J))) else none) else some (some (Value.int (-1)), (sz, sl, sh, R, I, J))) :=
  tq ((E_if_ne f233_14)) (ite_c (tq ((E_aload (v := Value.ref 37) rfl rfl f233_19)) (tq (tq ((G11032 f233_20)) (if_pos (zS37 hS))) (tq (exe_R (zR37_32 hS)) (tq ((E_iload (x := l1) rfl f233_23)) (tq (tq ((E_iald f233_24)) (ite_ar (zS61 hS))) (ite_c (tq ((E_iconst (x := (-1)) (by decide) f233_25)) (tq ((E_ic_ne f233_26)) (ite_c (tq ((E_aload (v := Value.ref 37) rfl rfl f233_32)) (tq (tq ((G11032 f233_33)) (if_pos (zS37 hS))) (tq (exe_R (zR37_32 hS)) (tq ((E_iload (x := l1) rfl f233_36)) (tq (tq ((E_iald f233_37)) (ite_ar (zS61 hS))) (ite_c (tq ((E_if_lt f233_38)) (ite_c (tq ((E_iconst (x := (-12)) (by decide) f233_73)) ((E_iret pr_233 f233_75))) (tq ((E_aload (v := Value.ref 37) rfl rfl f233_41)) (tq (tq ((G11029 f233_42)) (if_pos (zS37 hS))) (tq (exe_R (zR37_29 hS)) (tq ((E_aload (v := Value.ref 37) rfl rfl f233_45)) (tq (tq ((G11032 f233_46)) (if_pos (zS37 hS))) (tq (exe_R (zR37_32 hS)) (tq ((E_iload (x := l1) rfl f233_49)) (tq (tq ((E_iald f233_50)) (ite_ar (zS61 hS))) (ite_c (tq (tq ((E_iald f233_51)) (ite_ar (zS59 hS))) (ite_c (tq ((E_iload (x := l2) rfl f233_52)) ((E_callS pn_234 rfl rfl (Nat.le_of_ble_eq_true rfl) (Nat.le_of_ble_eq_true rfl) f233_53))) rfl)) rfl))))))))))) rfl)))))) (tq ((E_iconst (x := (-11)) (by decide) f233_29)) ((E_iret pr_233 f233_31)))))) rfl)))))) (tq ((E_iconst (x := (-1)) (by decide) f233_17)) ((E_iret pr_233 f233_18))))
theorem t233_56 {X : XX} {d : Nat} {sz sl : Nat} {sh : Nat → Nat × Nat} {R : Nat → Nat → Option Nat} {I : Nat → Nat → Int32} {J : Nat → Nat → Int64} (hS : SF sh R) {l1 : Int32} {s0 : Int32} : exe X d 233 56 [Value.ref 37, Value.int l1, dm] [Value.int s0] (sz, sl, sh, R, I, J) =
    (if s0 = 0 then some (some (Value.int (-12)), (sz, sl, sh, R, I, J)) else (if inb l1 6 then (if inb (I 61 l1.toNatClampNeg) 50 then some (some (Value.int (I 59 (I 61 l1.toNatClampNeg).toNatClampNeg)), (sz, sl, sh, R, I, J)) else none) else none)) :=
  tq ((E_if_eq f233_56)) (ite_c (tq ((E_iconst (x := (-12)) (by decide) f233_73)) ((E_iret pr_233 f233_75))) (tq ((E_aload (v := Value.ref 37) rfl rfl f233_59)) (tq (tq ((G11029 f233_60)) (if_pos (zS37 hS))) (tq (exe_R (zR37_29 hS)) (tq ((E_aload (v := Value.ref 37) rfl rfl f233_63)) (tq (tq ((G11032 f233_64)) (if_pos (zS37 hS))) (tq (exe_R (zR37_32 hS)) (tq ((E_iload (x := l1) rfl f233_67)) (tq (tq ((E_iald f233_68)) (ite_ar (zS61 hS))) (ite_c (tq (tq ((E_iald f233_69)) (ite_ar (zS59 hS))) (ite_c (tq ((E_goto f233_70)) ((E_iret pr_233 f233_75))) rfl)) rfl))))))))))
theorem n233 {X : XX} {d : Nat} {h : HP} {a0 : Int32} {a1 : Int32} : ev X (d + 1) 233 [Value.ref 37, Value.int a0, Value.int a1] h = exe X d 233 0 [Value.ref 37, Value.int a0, Value.int a1] [] h := ev_exe (Nat.le_of_ble_eq_true rfl)
theorem f234_0 : fr 234 0 = some (.iload 0, 1, [0], []) := by decide +kernel
theorem f234_1 : fr 234 1 = some (.istore 2, 1, [], []) := by decide +kernel
theorem f234_2 : fr 234 2 = some (.iload 2, 1, [], []) := by decide +kernel
theorem f234_3 : fr 234 3 = some (.ifCond .lt 19, 3, [], []) := by decide +kernel
theorem f234_6 : fr 234 6 = some (.iload 2, 1, [], []) := by decide +kernel
theorem f234_7 : fr 234 7 = some (.iload 1, 1, [], []) := by decide +kernel
theorem f234_8 : fr 234 8 = some (.if_icmp .eq 19, 3, [], []) := by decide +kernel
theorem f234_11 : fr 234 11 = some (.iload 2, 1, [2], []) := by decide +kernel
theorem f234_12 : fr 234 12 = some (.invokestatic 221, 3, [], []) := by decide +kernel
theorem f234_15 : fr 234 15 = some (.istore 2, 1, [], []) := by decide +kernel
theorem f234_16 : fr 234 16 = some (.goto 2, 3, [], []) := by decide +kernel
theorem f234_19 : fr 234 19 = some (.iload 2, 1, [2], []) := by decide +kernel
theorem f234_20 : fr 234 20 = some (.iload 1, 1, [1], []) := by decide +kernel
theorem f234_21 : fr 234 21 = some (.if_icmp .ne 28, 3, [], []) := by decide +kernel
theorem f234_24 : fr 234 24 = some (.iconst 1, 1, [], []) := by decide +kernel
theorem f234_25 : fr 234 25 = some (.goto 29, 3, [], []) := by decide +kernel
theorem f234_28 : fr 234 28 = some (.iconst 0, 1, [], []) := by decide +kernel
theorem f234_29 : fr 234 29 = some (.ireturn, 1, [], []) := by decide +kernel
theorem t234_0 {X : XX} {d : Nat} {sz sl : Nat} {sh : Nat → Nat × Nat} {R : Nat → Nat → Option Nat} {I : Nat → Nat → Int32} {J : Nat → Nat → Int64} {l0 : Int32} {l1 : Int32} : exe X d 234 0 [Value.int l0, Value.int l1, dm] [] (sz, sl, sh, R, I, J) =
    exe X d 234 2 [dm, Value.int l1, Value.int l0] [] (sz, sl, sh, R, I, J) :=
  tq ((E_iload (x := l0) rfl f234_0)) ((E_istore rfl f234_1))
theorem t234_2 {X : XX} {d : Nat} {sz sl : Nat} {sh : Nat → Nat × Nat} {R : Nat → Nat → Option Nat} {I : Nat → Nat → Int32} {J : Nat → Nat → Int64} {l1 : Int32} {l2 : Int32} : exe X d 234 2 [dm, Value.int l1, Value.int l2] [] (sz, sl, sh, R, I, J) =
    (if l2 < 0 then exe X d 234 19 [dm, Value.int l1, Value.int l2] [] (sz, sl, sh, R, I, J) else (if l2 = l1 then exe X d 234 19 [dm, Value.int l1, Value.int l2] [] (sz, sl, sh, R, I, J) else ((ev X d 221 [Value.int l2] (sz, sl, sh, R, I, J)).bind fun q => exe X d 234 15 [dm, Value.int l1, dm] (q.1.toList ++ []) q.2))) :=
  tq ((E_iload (x := l2) rfl f234_2)) (tq ((E_if_lt f234_3)) (ite_c (rfl) (tq ((E_iload (x := l2) rfl f234_6)) (tq ((E_iload (x := l1) rfl f234_7)) (tq ((E_ic_eq f234_8)) (ite_c (rfl) (tq ((E_iload (x := l2) rfl f234_11)) ((E_callS pn_221 rfl rfl (Nat.le_of_ble_eq_true rfl) (Nat.le_of_ble_eq_true rfl) f234_12)))))))))
theorem t234_15 {X : XX} {d : Nat} {sz sl : Nat} {sh : Nat → Nat × Nat} {R : Nat → Nat → Option Nat} {I : Nat → Nat → Int32} {J : Nat → Nat → Int64} {l1 : Int32} {s0 : Int32} : exe X d 234 15 [dm, Value.int l1, dm] [Value.int s0] (sz, sl, sh, R, I, J) =
    exe X d 234 2 [dm, Value.int l1, Value.int s0] [] (sz, sl, sh, R, I, J) :=
  tq ((E_istore rfl f234_15)) ((E_goto f234_16))
theorem t234_19 {X : XX} {d : Nat} {sz sl : Nat} {sh : Nat → Nat × Nat} {R : Nat → Nat → Option Nat} {I : Nat → Nat → Int32} {J : Nat → Nat → Int64} {l1 : Int32} {l2 : Int32} : exe X d 234 19 [dm, Value.int l1, Value.int l2] [] (sz, sl, sh, R, I, J) =
    (if ¬ l2 = l1 then some (some (Value.int (0)), (sz, sl, sh, R, I, J)) else some (some (Value.int (1)), (sz, sl, sh, R, I, J))) :=
  tq ((E_iload (x := l2) rfl f234_19)) (tq ((E_iload (x := l1) rfl f234_20)) (tq ((E_ic_ne f234_21)) (ite_c (tq ((E_iconst (x := (0)) (by decide) f234_28)) (tq (E_zret pr_234 f234_29) (if_pos (by decide)))) (tq ((E_iconst (x := (1)) (by decide) f234_24)) (tq ((E_goto f234_25)) (tq (E_zret pr_234 f234_29) (if_pos (by decide))))))))
theorem n234 {X : XX} {d : Nat} {h : HP} {a0 : Int32} {a1 : Int32} : ev X (d + 1) 234 [Value.int a0, Value.int a1] h = exe X d 234 0 [Value.int a0, Value.int a1, dm] [] h := ev_exe (Nat.le_of_ble_eq_true rfl)
theorem f235_0 : fr 235 0 = some (.iload 1, 1, [1], []) := by decide +kernel
theorem f235_1 : fr 235 1 = some (.lookupswitch 88 #[(0, 48), (1, 53), (2, 58), (3, 63), (4, 68), (5, 73), (6, 78), (7, 83)], 47, [], []) := by decide +kernel
theorem f235_48 : fr 235 48 = some (.aload 0, 1, [0], []) := by decide +kernel
theorem f235_49 : fr 235 49 = some (.getfield 11000, 3, [], []) := by decide +kernel
theorem f235_52 : fr 235 52 = some (.ireturn, 1, [], []) := by decide +kernel
theorem f235_53 : fr 235 53 = some (.aload 0, 1, [0], []) := by decide +kernel
theorem f235_54 : fr 235 54 = some (.getfield 11012, 3, [], []) := by decide +kernel
theorem f235_57 : fr 235 57 = some (.ireturn, 1, [], []) := by decide +kernel
theorem f235_58 : fr 235 58 = some (.aload 0, 1, [0], []) := by decide +kernel
theorem f235_59 : fr 235 59 = some (.getfield 11013, 3, [], []) := by decide +kernel
theorem f235_62 : fr 235 62 = some (.ireturn, 1, [], []) := by decide +kernel
theorem f235_63 : fr 235 63 = some (.aload 0, 1, [0], []) := by decide +kernel
theorem f235_64 : fr 235 64 = some (.getfield 11009, 3, [], []) := by decide +kernel
theorem f235_67 : fr 235 67 = some (.ireturn, 1, [], []) := by decide +kernel
theorem f235_68 : fr 235 68 = some (.aload 0, 1, [0], []) := by decide +kernel
theorem f235_69 : fr 235 69 = some (.getfield 11021, 3, [], []) := by decide +kernel
theorem f235_72 : fr 235 72 = some (.ireturn, 1, [], []) := by decide +kernel
theorem f235_73 : fr 235 73 = some (.aload 0, 1, [0], []) := by decide +kernel
theorem f235_74 : fr 235 74 = some (.getfield 11027, 3, [], []) := by decide +kernel
theorem f235_77 : fr 235 77 = some (.ireturn, 1, [], []) := by decide +kernel
theorem f235_78 : fr 235 78 = some (.aload 0, 1, [0], []) := by decide +kernel
theorem f235_79 : fr 235 79 = some (.getfield 11028, 3, [], []) := by decide +kernel
theorem f235_82 : fr 235 82 = some (.ireturn, 1, [], []) := by decide +kernel
theorem f235_83 : fr 235 83 = some (.aload 0, 1, [0], []) := by decide +kernel
theorem f235_84 : fr 235 84 = some (.getfield 11030, 3, [], []) := by decide +kernel
theorem f235_87 : fr 235 87 = some (.ireturn, 1, [], []) := by decide +kernel
theorem f235_88 : fr 235 88 = some (.iconst (-1), 1, [0], []) := by decide +kernel
theorem f235_89 : fr 235 89 = some (.ireturn, 1, [], []) := by decide +kernel
theorem t235_0 {X : XX} {d : Nat} {sz sl : Nat} {sh : Nat → Nat × Nat} {R : Nat → Nat → Option Nat} {I : Nat → Nat → Int32} {J : Nat → Nat → Int64} (hS : SF sh R) {l1 : Int32} : exe X d 235 0 [Value.ref 37, Value.int l1] [] (sz, sl, sh, R, I, J) =
    (if l1 = (0) then some (some (Value.int (I 37 0)), (sz, sl, sh, R, I, J)) else (if l1 = (1) then some (some (Value.int (I 37 12)), (sz, sl, sh, R, I, J)) else (if l1 = (2) then some (some (Value.int (I 37 13)), (sz, sl, sh, R, I, J)) else (if l1 = (3) then some (some (Value.int (I 37 9)), (sz, sl, sh, R, I, J)) else (if l1 = (4) then some (some (Value.int (I 37 21)), (sz, sl, sh, R, I, J)) else (if l1 = (5) then some (some (Value.int (I 37 27)), (sz, sl, sh, R, I, J)) else (if l1 = (6) then some (some (Value.int (I 37 28)), (sz, sl, sh, R, I, J)) else (if l1 = (7) then some (some (Value.int (I 37 30)), (sz, sl, sh, R, I, J)) else some (some (Value.int (-1)), (sz, sl, sh, R, I, J)))))))))) :=
  tq ((E_iload (x := l1) rfl f235_0)) (tq ((E_sw f235_1)) (sw_c (by decide) (tq ((E_aload (v := Value.ref 37) rfl rfl f235_48)) (tq (tq ((G11000 f235_49)) (if_pos (zS37 hS))) ((E_iret pr_235 f235_52)))) (sw_c (by decide) (tq ((E_aload (v := Value.ref 37) rfl rfl f235_53)) (tq (tq ((G11012 f235_54)) (if_pos (zS37 hS))) ((E_iret pr_235 f235_57)))) (sw_c (by decide) (tq ((E_aload (v := Value.ref 37) rfl rfl f235_58)) (tq (tq ((G11013 f235_59)) (if_pos (zS37 hS))) ((E_iret pr_235 f235_62)))) (sw_c (by decide) (tq ((E_aload (v := Value.ref 37) rfl rfl f235_63)) (tq (tq ((G11009 f235_64)) (if_pos (zS37 hS))) ((E_iret pr_235 f235_67)))) (sw_c (by decide) (tq ((E_aload (v := Value.ref 37) rfl rfl f235_68)) (tq (tq ((G11021 f235_69)) (if_pos (zS37 hS))) ((E_iret pr_235 f235_72)))) (sw_c (by decide) (tq ((E_aload (v := Value.ref 37) rfl rfl f235_73)) (tq (tq ((G11027 f235_74)) (if_pos (zS37 hS))) ((E_iret pr_235 f235_77)))) (sw_c (by decide) (tq ((E_aload (v := Value.ref 37) rfl rfl f235_78)) (tq (tq ((G11028 f235_79)) (if_pos (zS37 hS))) ((E_iret pr_235 f235_82)))) (sw_c (by decide) (tq ((E_aload (v := Value.ref 37) rfl rfl f235_83)) (tq (tq ((G11030 f235_84)) (if_pos (zS37 hS))) ((E_iret pr_235 f235_87)))) (tq ((E_iconst (x := (-1)) (by decide) f235_88)) ((E_iret pr_235 f235_89))))))))))))
theorem n235 {X : XX} {d : Nat} {h : HP} {a0 : Int32} : ev X (d + 1) 235 [Value.ref 37, Value.int a0] h = exe X d 235 0 [Value.ref 37, Value.int a0] [] h := ev_exe (Nat.le_of_ble_eq_true rfl)
