theorem f25_0 : fr 25 0 = some (.aload 0, 1, [], []) := by decide +kernel
theorem f25_1 : fr 25 1 = some (.iload 1, 1, [1], []) := by decide +kernel
theorem f25_2 : fr 25 2 = some (.invokevirtual 12, 3, [], []) := by decide +kernel
theorem f25_5 : fr 25 5 = some (.astore 5, 2, [], []) := by decide +kernel
theorem f25_7 : fr 25 7 = some (.aload 0, 1, [0], []) := by decide +kernel
theorem f25_8 : fr 25 8 = some (.iload 2, 1, [2], []) := by decide +kernel
theorem f25_9 : fr 25 9 = some (.invokevirtual 26, 3, [], []) := by decide +kernel
theorem f25_12 : fr 25 12 = some (.astore 6, 2, [], []) := by decide +kernel
theorem f25_14 : fr 25 14 = some (.aload 5, 2, [], []) := by decide +kernel
theorem f25_16 : fr 25 16 = some (.ifnull 35, 3, [], [3, 4, 5, 6]) := by decide +kernel
theorem f25_19 : fr 25 19 = some (.aload 6, 2, [], []) := by decide +kernel
theorem f25_21 : fr 25 21 = some (.ifnull 35, 3, [], [3, 4, 5, 6]) := by decide +kernel
theorem f25_24 : fr 25 24 = some (.iload 4, 2, [], []) := by decide +kernel
theorem f25_26 : fr 25 26 = some (.iconst 1, 1, [], []) := by decide +kernel
theorem f25_27 : fr 25 27 = some (.iconst 8, 2, [], []) := by decide +kernel
theorem f25_29 : fr 25 29 = some (.invokestatic 10, 3, [], []) := by decide +kernel
theorem f25_32 : fr 25 32 = some (.ifCond .ne 37, 3, [3, 4, 5, 6], []) := by decide +kernel
theorem f25_35 : fr 25 35 = some (.iconst (-1), 1, [], []) := by decide +kernel
theorem f25_36 : fr 25 36 = some (.ireturn, 1, [], []) := by decide +kernel
theorem f25_37 : fr 25 37 = some (.aload 6, 2, [], []) := by decide +kernel
theorem f25_39 : fr 25 39 = some (.invokevirtual 27, 3, [], []) := by decide +kernel
theorem f25_42 : fr 25 42 = some (.ifCond .eq 47, 3, [3, 4, 5, 6], []) := by decide +kernel
theorem f25_45 : fr 25 45 = some (.iconst 0, 1, [], []) := by decide +kernel
theorem f25_46 : fr 25 46 = some (.ireturn, 1, [], []) := by decide +kernel
theorem f25_47 : fr 25 47 = some (.aload 6, 2, [], []) := by decide +kernel
theorem f25_49 : fr 25 49 = some (.invokevirtual 28, 3, [], []) := by decide +kernel
theorem f25_52 : fr 25 52 = some (.ifCond .ne 58, 3, [3, 4, 5, 6], []) := by decide +kernel
theorem f25_55 : fr 25 55 = some (.iconst (-12), 2, [], []) := by decide +kernel
theorem f25_57 : fr 25 57 = some (.ireturn, 1, [], []) := by decide +kernel
theorem f25_58 : fr 25 58 = some (.iconst 0, 1, [], []) := by decide +kernel
theorem f25_59 : fr 25 59 = some (.istore 7, 2, [], []) := by decide +kernel
theorem f25_61 : fr 25 61 = some (.iload 7, 2, [], []) := by decide +kernel
theorem f25_63 : fr 25 63 = some (.iload 4, 2, [], []) := by decide +kernel
theorem f25_65 : fr 25 65 = some (.if_icmp .ge 128, 3, [], [3, 4, 5, 6]) := by decide +kernel
theorem f25_68 : fr 25 68 = some (.aload 6, 2, [], []) := by decide +kernel
theorem f25_70 : fr 25 70 = some (.iload 3, 1, [], []) := by decide +kernel
theorem f25_71 : fr 25 71 = some (.invokevirtual 30, 3, [], []) := by decide +kernel
theorem f25_74 : fr 25 74 = some (.ifCond .eq 128, 3, [], [3, 4, 5, 6]) := by decide +kernel
theorem f25_77 : fr 25 77 = some (.aload 6, 2, [], []) := by decide +kernel
theorem f25_79 : fr 25 79 = some (.iload 3, 1, [], []) := by decide +kernel
theorem f25_80 : fr 25 80 = some (.iload 7, 2, [], []) := by decide +kernel
theorem f25_82 : fr 25 82 = some (.iadd, 1, [], []) := by decide +kernel
theorem f25_83 : fr 25 83 = some (.invokevirtual 30, 3, [], []) := by decide +kernel
theorem f25_86 : fr 25 86 = some (.ifCond .eq 128, 3, [], [3, 4, 5, 6]) := by decide +kernel
theorem f25_89 : fr 25 89 = some (.aload 6, 2, [], []) := by decide +kernel
theorem f25_91 : fr 25 91 = some (.iload 3, 1, [], []) := by decide +kernel
theorem f25_92 : fr 25 92 = some (.iload 7, 2, [], []) := by decide +kernel
theorem f25_94 : fr 25 94 = some (.iadd, 1, [], []) := by decide +kernel
theorem f25_95 : fr 25 95 = some (.invokevirtual 31, 3, [], []) := by decide +kernel
theorem f25_98 : fr 25 98 = some (.invokestatic 32, 3, [], []) := by decide +kernel
theorem f25_101 : fr 25 101 = some (.ifCond .eq 128, 3, [], [3, 4, 5, 6]) := by decide +kernel
theorem f25_104 : fr 25 104 = some (.aload 5, 2, [], []) := by decide +kernel
theorem f25_106 : fr 25 106 = some (.iload 7, 2, [], []) := by decide +kernel
theorem f25_108 : fr 25 108 = some (.aload 6, 2, [], []) := by decide +kernel
theorem f25_110 : fr 25 110 = some (.iload 3, 1, [], []) := by decide +kernel
theorem f25_111 : fr 25 111 = some (.iload 7, 2, [], []) := by decide +kernel
theorem f25_113 : fr 25 113 = some (.iadd, 1, [], []) := by decide +kernel
theorem f25_114 : fr 25 114 = some (.invokevirtual 31, 3, [], []) := by decide +kernel
theorem f25_117 : fr 25 117 = some (.l2i, 1, [], []) := by decide +kernel
theorem f25_118 : fr 25 118 = some (.invokevirtual 21, 3, [], []) := by decide +kernel
theorem f25_121 : fr 25 121 = some (.pop, 1, [], []) := by decide +kernel
theorem f25_122 : fr 25 122 = some (.iinc 7 1, 3, [], []) := by decide +kernel
theorem f25_125 : fr 25 125 = some (.goto 61, 3, [], []) := by decide +kernel
theorem f25_128 : fr 25 128 = some (.iload 7, 2, [7], []) := by decide +kernel
theorem f25_130 : fr 25 130 = some (.ireturn, 1, [], []) := by decide +kernel
theorem t25_0 {X : XX} {d : Nat} {sz sl : Nat} {sh : Nat → Nat × Nat} {R : Nat → Nat → Option Nat} {I : Nat → Nat → Int32} {J : Nat → Nat → Int64} (hS : SF sh R) {l1 : Int32} {l2 : Int32} {l3 : Int32} {l4 : Int32} : exe X d 25 0 [Value.ref 0, Value.int l1, Value.int l2, Value.int l3, Value.int l4, dm, dm, dm] [] (sz, sl, sh, R, I, J) =
    ((ev X d 12 [Value.ref 0, Value.int l1] (sz, sl, sh, R, I, J)).bind fun q => exe X d 25 5 [Value.ref 0, dm, Value.int l2, Value.int l3, Value.int l4, dm, dm, dm] (q.1.toList ++ []) q.2) :=
  tq ((E_aload (v := Value.ref 0) rfl rfl f25_0)) (tq ((E_iload (x := l1) rfl f25_1)) ((tq ((E_callV pn_12 pc_12 rfl rfl (Nat.le_of_ble_eq_true rfl) f25_2)) (if_pos (zS0 hS)))))
theorem t25_5 {X : XX} {d : Nat} {sz sl : Nat} {sh : Nat → Nat × Nat} {R : Nat → Nat → Option Nat} {I : Nat → Nat → Int32} {J : Nat → Nat → Int64} (hS : SF sh R) {l2 : Int32} {l3 : Int32} {l4 : Int32} {s0 : Value} (k0 : isB s0 = true) : exe X d 25 5 [Value.ref 0, dm, Value.int l2, Value.int l3, Value.int l4, dm, dm, dm] [s0] (sz, sl, sh, R, I, J) =
    ((ev X d 26 [Value.ref 0, Value.int l2] (sz, sl, sh, R, I, J)).bind fun q => exe X d 25 12 [dm, dm, dm, Value.int l3, Value.int l4, s0, dm, dm] (q.1.toList ++ []) q.2) :=
  tq ((E_astore k0 rfl f25_5)) (tq ((E_aload (v := Value.ref 0) rfl rfl f25_7)) (tq ((E_iload (x := l2) rfl f25_8)) ((tq ((E_callV pn_26 pc_26 rfl rfl (Nat.le_of_ble_eq_true rfl) f25_9)) (if_pos (zS0 hS))))))
theorem t25_12 {X : XX} {d : Nat} {sz sl : Nat} {sh : Nat → Nat × Nat} {R : Nat → Nat → Option Nat} {I : Nat → Nat → Int32} {J : Nat → Nat → Int64} {l3 : Int32} {l4 : Int32} {l5 : Value} (h5 : isB l5 = true) {s0 : Value} (k0 : isB s0 = true) : exe X d 25 12 [dm, dm, dm, Value.int l3, Value.int l4, l5, dm, dm] [s0] (sz, sl, sh, R, I, J) =
    (nn (l5) (some (some (Value.int (-1)), (sz, sl, sh, R, I, J))) ((nn (s0) (some (some (Value.int (-1)), (sz, sl, sh, R, I, J))) (((ev X d 10 [Value.int l4, Value.int (1), Value.int (8)] (sz, sl, sh, R, I, J)).bind fun q => exe X d 25 32 [dm, dm, dm, Value.int l3, Value.int l4, l5, s0, dm] (q.1.toList ++ []) q.2))))) :=
  tq ((E_astore k0 (okS_A (Nat.lt_of_sub_eq_succ rfl) rfl h5) f25_12)) (tq ((E_aload (v := l5) rfl (isBA h5) f25_14)) (tq ((E_ifnull f25_16)) (nn_c (tq ((E_iconst (x := (-1)) (by decide) f25_35)) ((E_iret pr_25 f25_36))) (tq ((E_aload (v := s0) rfl (isBA k0) f25_19)) (tq ((E_ifnull f25_21)) (nn_c (tq ((E_iconst (x := (-1)) (by decide) f25_35)) ((E_iret pr_25 f25_36))) (tq ((E_iload (x := l4) rfl f25_24)) (tq ((E_iconst (x := (1)) (by decide) f25_26)) (tq ((E_iconst (x := (8)) (by decide) f25_27)) ((E_callS pn_10 rfl rfl (Nat.le_of_ble_eq_true rfl) (Nat.le_of_ble_eq_true rfl) f25_29)))))))))))
theorem t25_32 {X : XX} {d : Nat} {sz sl : Nat} {sh : Nat → Nat × Nat} {R : Nat → Nat → Option Nat} {I : Nat → Nat → Int32} {J : Nat → Nat → Int64} {l3 : Int32} {l4 : Int32} {l5 : Value} (h5 : isB l5 = true) {l6 : Value} (h6 : isB l6 = true) {s0 : Int32} : exe X d 25 32 [dm, dm, dm, Value.int l3, Value.int l4, l5, l6, dm] [Value.int s0] (sz, sl, sh, R, I, J) =
    (if ¬ s0 = 0 then (rf (l6) fun p1 => if sh p1 = (14, 0) then ((ev X d 27 [Value.ref p1] (sz, sl, sh, R, I, J)).bind fun q => exe X d 25 42 [dm, dm, dm, Value.int l3, Value.int l4, l5, l6, dm] (q.1.toList ++ []) q.2) else none) else some (some (Value.int (-1)), (sz, sl, sh, R, I, J))) :=
  tq ((E_if_ne f25_32)) (ite_c (tq ((E_aload (v := l6) rfl (isBA h6) f25_37)) ((E_callV pn_27 pc_27 rfl rfl (Nat.le_of_ble_eq_true rfl) f25_39))) (tq ((E_iconst (x := (-1)) (by decide) f25_35)) ((E_iret pr_25 f25_36))))
theorem t25_42 {X : XX} {d : Nat} {sz sl : Nat} {sh : Nat → Nat × Nat} {R : Nat → Nat → Option Nat} {I : Nat → Nat → Int32} {J : Nat → Nat → Int64} {l3 : Int32} {l4 : Int32} {l5 : Value} (h5 : isB l5 = true) {l6 : Value} (h6 : isB l6 = true) {s0 : Int32} : exe X d 25 42 [dm, dm, dm, Value.int l3, Value.int l4, l5, l6, dm] [Value.int s0] (sz, sl, sh, R, I, J) =
    (if s0 = 0 then (rf (l6) fun p1 => if sh p1 = (14, 0) then ((ev X d 28 [Value.ref p1] (sz, sl, sh, R, I, J)).bind fun q => exe X d 25 52 [dm, dm, dm, Value.int l3, Value.int l4, l5, l6, dm] (q.1.toList ++ []) q.2) else none) else some (some (Value.int (0)), (sz, sl, sh, R, I, J))) :=
  tq ((E_if_eq f25_42)) (ite_c (tq ((E_aload (v := l6) rfl (isBA h6) f25_47)) ((E_callV pn_28 pc_28 rfl rfl (Nat.le_of_ble_eq_true rfl) f25_49))) (tq ((E_iconst (x := (0)) (by decide) f25_45)) ((E_iret pr_25 f25_46))))
theorem t25_52 {X : XX} {d : Nat} {sz sl : Nat} {sh : Nat → Nat × Nat} {R : Nat → Nat → Option Nat} {I : Nat → Nat → Int32} {J : Nat → Nat → Int64} {l3 : Int32} {l4 : Int32} {l5 : Value} (h5 : isB l5 = true) {l6 : Value} (h6 : isB l6 = true) {s0 : Int32} : exe X d 25 52 [dm, dm, dm, Value.int l3, Value.int l4, l5, l6, dm] [Value.int s0] (sz, sl, sh, R, I, J) =
    (if ¬ s0 = 0 then exe X d 25 61 [dm, dm, dm, Value.int l3, Value.int l4, l5, l6, Value.int (0)] [] (sz, sl, sh, R, I, J) else some (some (Value.int (-12)), (sz, sl, sh, R, I, J))) :=
  tq ((E_if_ne f25_52)) (ite_c (tq ((E_iconst (x := (0)) (by decide) f25_58)) ((E_istore (okS_A (Nat.lt_of_sub_eq_succ rfl) rfl h6) f25_59))) (tq ((E_iconst (x := (-12)) (by decide) f25_55)) ((E_iret pr_25 f25_57))))
theorem t25_61 {X : XX} {d : Nat} {sz sl : Nat} {sh : Nat → Nat × Nat} {R : Nat → Nat → Option Nat} {I : Nat → Nat → Int32} {J : Nat → Nat → Int64} {l3 : Int32} {l4 : Int32} {l5 : Value} (h5 : isB l5 = true) {l6 : Value} (h6 : isB l6 = true) {l7 : Int32} : exe X d 25 61 [dm, dm, dm, Value.int l3, Value.int l4, l5, l6, Value.int l7] [] (sz, sl, sh, R, I, J) =
    (if l4 ≤ l7 then some (some (Value.int l7), (sz, sl, sh, R, I, J)) else (rf (l6) fun p1 => if sh p1 = (14, 0) then ((ev X d 30 [Value.ref p1, Value.int l3] (sz, sl, sh, R, I, J)).bind fun q => exe X d 25 74 [dm, dm, dm, Value.int l3, Value.int l4, l5, l6, Value.int l7] (q.1.toList ++ []) q.2) else none)) :=
  tq ((E_iload (x := l7) rfl f25_61)) (tq ((E_iload (x := l4) rfl f25_63)) (tq ((E_ic_ge f25_65)) (ite_c (tq ((E_iload (x := l7) rfl f25_128)) ((E_iret pr_25 f25_130))) (tq ((E_aload (v := l6) rfl (isBA h6) f25_68)) (tq ((E_iload (x := l3) rfl f25_70)) ((E_callV pn_30 pc_30 rfl rfl (Nat.le_of_ble_eq_true rfl) f25_71)))))))
theorem t25_74 {X : XX} {d : Nat} {sz sl : Nat} {sh : Nat → Nat × Nat} {R : Nat → Nat → Option Nat} {I : Nat → Nat → Int32} {J : Nat → Nat → Int64} {l3 : Int32} {l4 : Int32} {l5 : Value} (h5 : isB l5 = true) {l6 : Value} (h6 : isB l6 = true) {l7 : Int32} {s0 : Int32} : exe X d 25 74 [dm, dm, dm, Value.int l3, Value.int l4, l5, l6, Value.int l7] [Value.int s0] (sz, sl, sh, R, I, J) =
    (if s0 = 0 then some (some (Value.int l7), (sz, sl, sh, R, I, J)) else (rf (l6) fun p1 => if sh p1 = (14, 0) then ((ev X d 30 [Value.ref p1, Value.int (l3 + l7)] (sz, sl, sh, R, I, J)).bind fun q => exe X d 25 86 [dm, dm, dm, Value.int l3, Value.int l4, l5, l6, Value.int l7] (q.1.toList ++ []) q.2) else none)) :=
  tq ((E_if_eq f25_74)) (ite_c (tq ((E_iload (x := l7) rfl f25_128)) ((E_iret pr_25 f25_130))) (tq ((E_aload (v := l6) rfl (isBA h6) f25_77)) (tq ((E_iload (x := l3) rfl f25_79)) (tq ((E_iload (x := l7) rfl f25_80)) (tq ((E_iadd f25_82)) ((E_callV pn_30 pc_30 rfl rfl (Nat.le_of_ble_eq_true rfl) f25_83)))))))
theorem t25_86 {X : XX} {d : Nat} {sz sl : Nat} {sh : Nat → Nat × Nat} {R : Nat → Nat → Option Nat} {I : Nat → Nat → Int32} {J : Nat → Nat → Int64} {l3 : Int32} {l4 : Int32} {l5 : Value} (h5 : isB l5 = true) {l6 : Value} (h6 : isB l6 = true) {l7 : Int32} {s0 : Int32} : exe X d 25 86 [dm, dm, dm, Value.int l3, Value.int l4, l5, l6, Value.int l7] [Value.int s0] (sz, sl, sh, R, I, J) =
    (if s0 = 0 then some (some (Value.int l7), (sz, sl, sh, R, I, J)) else (rf (l6) fun p1 => if sh p1 = (14, 0) then ((ev X d 31 [Value.ref p1, Value.int (l3 + l7)] (sz, sl, sh, R, I, J)).bind fun q => exe X d 25 98 [dm, dm, dm, Value.int l3, Value.int l4, l5, l6, Value.int l7] (q.1.toList ++ []) q.2) else none)) :=
  tq ((E_if_eq f25_86)) (ite_c (tq ((E_iload (x := l7) rfl f25_128)) ((E_iret pr_25 f25_130))) (tq ((E_aload (v := l6) rfl (isBA h6) f25_89)) (tq ((E_iload (x := l3) rfl f25_91)) (tq ((E_iload (x := l7) rfl f25_92)) (tq ((E_iadd f25_94)) ((E_callV pn_31 pc_31 rfl rfl (Nat.le_of_ble_eq_true rfl) f25_95)))))))
theorem t25_98 {X : XX} {d : Nat} {sz sl : Nat} {sh : Nat → Nat × Nat} {R : Nat → Nat → Option Nat} {I : Nat → Nat → Int32} {J : Nat → Nat → Int64} {l3 : Int32} {l4 : Int32} {l5 : Value} (h5 : isB l5 = true) {l6 : Value} (h6 : isB l6 = true) {l7 : Int32} {s0 : Int64} : exe X d 25 98 [dm, dm, dm, Value.int l3, Value.int l4, l5, l6, Value.int l7] [Value.long s0] (sz, sl, sh, R, I, J) =
    ((ev X d 32 [Value.long s0] (sz, sl, sh, R, I, J)).bind fun q => exe X d 25 101 [dm, dm, dm, Value.int l3, Value.int l4, l5, l6, Value.int l7] (q.1.toList ++ []) q.2) :=
  (E_callS pn_32 rfl rfl (Nat.le_of_ble_eq_true rfl) (Nat.le_of_ble_eq_true rfl) f25_98)
theorem t25_101 {X : XX} {d : Nat} {sz sl : Nat} {sh : Nat → Nat × Nat} {R : Nat → Nat → Option Nat} {I : Nat → Nat → Int32} {J : Nat → Nat → Int64} {l3 : Int32} {l4 : Int32} {l5 : Value} (h5 : isB l5 = true) {l6 : Value} (h6 : isB l6 = true) {l7 : Int32} {s0 : Int32} : exe X d 25 101 [dm, dm, dm, Value.int l3, Value.int l4, l5, l6, Value.int l7] [Value.int s0] (sz, sl, sh, R, I, J) =
    (if s0 = 0 then some (some (Value.int l7), (sz, sl, sh, R, I, J)) else (rf (l6) fun p1 => if sh p1 = (14, 0) then ((ev X d 31 [Value.ref p1, Value.int (l3 + l7)] (sz, sl, sh, R, I, J)).bind fun q => exe X d 25 117 [dm, dm, dm, Value.int l3, Value.int l4, l5, l6, Value.int l7] (q.1.toList ++ [Value.int l7, l5]) q.2) else none)) :=
  tq ((E_if_eq f25_101)) (ite_c (tq ((E_iload (x := l7) rfl f25_128)) ((E_iret pr_25 f25_130))) (tq ((E_aload (v := l5) rfl (isBA h5) f25_104)) (tq ((E_iload (x := l7) rfl f25_106)) (tq ((E_aload (v := l6) rfl (isBA h6) f25_108)) (tq ((E_iload (x := l3) rfl f25_110)) (tq ((E_iload (x := l7) rfl f25_111)) (tq ((E_iadd f25_113)) ((E_callV pn_31 pc_31 rfl rfl (by simp [cats, cat_i, cat_l, cat_r, catB h5]) f25_114)))))))))
theorem t25_117 {X : XX} {d : Nat} {sz sl : Nat} {sh : Nat → Nat × Nat} {R : Nat → Nat → Option Nat} {I : Nat → Nat → Int32} {J : Nat → Nat → Int64} {l3 : Int32} {l4 : Int32} {l5 : Value} (h5 : isB l5 = true) {l6 : Value} (h6 : isB l6 = true) {l7 : Int32} {s0 : Int64} {s1 : Int32} {s2 : Value} (k2 : isB s2 = true) : exe X d 25 117 [dm, dm, dm, Value.int l3, Value.int l4, l5, l6, Value.int l7] [Value.long s0, Value.int s1, s2] (sz, sl, sh, R, I, J) =
    (rf (s2) fun p1 => if sh p1 = (15, 0) then ((ev X d 21 [Value.ref p1, Value.int s1, Value.int (Int64.toInt32 s0)] (sz, sl, sh, R, I, J)).bind fun q => exe X d 25 121 [dm, dm, dm, Value.int l3, Value.int l4, l5, l6, Value.int l7] (q.1.toList ++ []) q.2) else none) :=
  tq ((E_l2i f25_117)) ((E_callV pn_21 pc_21 rfl rfl (Nat.le_of_ble_eq_true rfl) f25_118))
theorem t25_121 {X : XX} {d : Nat} {sz sl : Nat} {sh : Nat → Nat × Nat} {R : Nat → Nat → Option Nat} {I : Nat → Nat → Int32} {J : Nat → Nat → Int64} {l3 : Int32} {l4 : Int32} {l5 : Value} (h5 : isB l5 = true) {l6 : Value} (h6 : isB l6 = true) {l7 : Int32} {s0 : Int32} : exe X d 25 121 [dm, dm, dm, Value.int l3, Value.int l4, l5, l6, Value.int l7] [Value.int s0] (sz, sl, sh, R, I, J) =
    exe X d 25 61 [dm, dm, dm, Value.int l3, Value.int l4, l5, l6, Value.int (l7 + (1))] [] (sz, sl, sh, R, I, J) :=
  tq ((E_pop rfl f25_121)) (tq ((E_iinc (x := l7) (x' := (1)) rfl (okS_A (Nat.lt_of_sub_eq_succ rfl) rfl h6) (by decide) f25_122)) ((E_goto f25_125)))
theorem n25 {X : XX} {d : Nat} {h : HP} {a0 : Int32} {a1 : Int32} {a2 : Int32} {a3 : Int32} : ev X (d + 1) 25 [Value.ref 0, Value.int a0, Value.int a1, Value.int a2, Value.int a3] h = exe X d 25 0 [Value.ref 0, Value.int a0, Value.int a1, Value.int a2, Value.int a3, dm, dm, dm] [] h := ev_exe (Nat.le_of_ble_eq_true rfl)
theorem f26_0 : fr 26 0 = some (.iload 1, 1, [], []) := by decide +kernel
theorem f26_1 : fr 26 1 = some (.iconst 0, 1, [], []) := by decide +kernel
theorem f26_2 : fr 26 2 = some (.aload 0, 1, [], []) := by decide +kernel
theorem f26_3 : fr 26 3 = some (.getfield 12, 3, [], []) := by decide +kernel
theorem f26_6 : fr 26 6 = some (.arraylength, 1, [], []) := by decide +kernel
theorem f26_7 : fr 26 7 = some (.iconst 1, 1, [], []) := by decide +kernel
theorem f26_8 : fr 26 8 = some (.isub, 1, [], []) := by decide +kernel
theorem f26_9 : fr 26 9 = some (.invokestatic 10, 3, [], []) := by decide +kernel
theorem f26_12 : fr 26 12 = some (.ifCond .eq 24, 3, [], [0, 1]) := by decide +kernel
theorem f26_15 : fr 26 15 = some (.aload 0, 1, [0], []) := by decide +kernel
theorem f26_16 : fr 26 16 = some (.getfield 12, 3, [], []) := by decide +kernel
theorem f26_19 : fr 26 19 = some (.iload 1, 1, [1], []) := by decide +kernel
theorem f26_20 : fr 26 20 = some (.aaload, 1, [], []) := by decide +kernel
theorem f26_21 : fr 26 21 = some (.goto 25, 3, [], []) := by decide +kernel
theorem f26_24 : fr 26 24 = some (.aconst_null, 1, [], []) := by decide +kernel
theorem f26_25 : fr 26 25 = some (.areturn, 1, [], []) := by decide +kernel
theorem t26_0 {X : XX} {d : Nat} {sz sl : Nat} {sh : Nat → Nat × Nat} {R : Nat → Nat → Option Nat} {I : Nat → Nat → Int32} {J : Nat → Nat → Int64} (hS : SF sh R) {l1 : Int32} : exe X d 26 0 [Value.ref 0, Value.int l1] [] (sz, sl, sh, R, I, J) =
    ((ev X d 10 [Value.int l1, Value.int (0), Value.int ((6) - (1))] (sz, sl, sh, R, I, J)).bind fun q => exe X d 26 12 [Value.ref 0, Value.int l1] (q.1.toList ++ []) q.2) :=
  tq ((E_iload (x := l1) rfl f26_0)) (tq ((E_iconst (x := (0)) (by decide) f26_1)) (tq ((E_aload (v := Value.ref 0) rfl rfl f26_2)) (tq (tq ((G12 f26_3)) (if_pos (zS0 hS))) (tq (exe_R (zR0_12 hS)) (tq (tq (E_len f26_6) (ite_len (m := 6) (A := fun m => exe X d 26 7 [Value.ref 0, Value.int l1] (.int (Int32.ofNat m) :: [Value.int (0), Value.int l1]) (sz, sl, sh, R, I, J)) (zS24 hS) (by decide))) (tq ((E_iconst (x := (1)) (by decide) f26_7)) (tq ((E_isub f26_8)) ((E_callS pn_10 rfl rfl (Nat.le_of_ble_eq_true rfl) (Nat.le_of_ble_eq_true rfl) f26_9)))))))))
theorem t26_12 {X : XX} {d : Nat} {sz sl : Nat} {sh : Nat → Nat × Nat} {R : Nat → Nat → Option Nat} {I : Nat → Nat → Int32} {J : Nat → Nat → Int64} (hS : SF sh R) {l1 : Int32} {s0 : Int32} : exe X d 26 12 [Value.ref 0, Value.int l1] [Value.int s0] (sz, sl, sh, R, I, J) =
    (if s0 = 0 then some (some (Value.null), (sz, sl, sh, R, I, J)) else (if inb l1 6 then some (some ((rfv (R 24 l1.toNatClampNeg))), (sz, sl, sh, R, I, J)) else none)) :=
  tq ((E_if_eq f26_12)) (ite_c (tq ((E_null f26_24)) (tq (E_aret pr_26 f26_25) (if_pos rfl))) (tq ((E_aload (v := Value.ref 0) rfl rfl f26_15)) (tq (tq ((G12 f26_16)) (if_pos (zS0 hS))) (tq (exe_R (zR0_12 hS)) (tq ((E_iload (x := l1) rfl f26_19)) (tq (tq ((E_aald f26_20)) (ite_aq (zS24 hS) (by decide))) (ite_c (tq ((E_goto f26_21)) (tq (E_aret pr_26 f26_25) (if_pos (isB_rfv _)))) rfl)))))))
theorem n26 {X : XX} {d : Nat} {h : HP} {a0 : Int32} : ev X (d + 1) 26 [Value.ref 0, Value.int a0] h = exe X d 26 0 [Value.ref 0, Value.int a0] [] h := ev_exe (Nat.le_of_ble_eq_true rfl)
theorem f27_0 : fr 27 0 = some (.aload 0, 1, [0], []) := by decide +kernel
theorem f27_1 : fr 27 1 = some (.getfield 7001, 3, [], []) := by decide +kernel
theorem f27_4 : fr 27 4 = some (.ifCond .ne 11, 3, [], []) := by decide +kernel
theorem f27_7 : fr 27 7 = some (.iconst 1, 1, [], []) := by decide +kernel
theorem f27_8 : fr 27 8 = some (.goto 12, 3, [], []) := by decide +kernel
theorem f27_11 : fr 27 11 = some (.iconst 0, 1, [], []) := by decide +kernel
theorem f27_12 : fr 27 12 = some (.ireturn, 1, [], []) := by decide +kernel
theorem t27_0 {X : XX} {d : Nat} {sz sl : Nat} {sh : Nat → Nat × Nat} {R : Nat → Nat → Option Nat} {I : Nat → Nat → Int32} {J : Nat → Nat → Int64} {l0 : Nat} (h0 : sh l0 = (14, 0)) : exe X d 27 0 [Value.ref l0] [] (sz, sl, sh, R, I, J) =
    (if ¬ (I l0 1) = 0 then some (some (Value.int (0)), (sz, sl, sh, R, I, J)) else some (some (Value.int (1)), (sz, sl, sh, R, I, J))) :=
  tq ((E_aload (v := Value.ref l0) rfl rfl f27_0)) (tq (tq ((G7001 f27_1)) (if_pos h0)) (tq ((E_if_ne f27_4)) (ite_c (tq ((E_iconst (x := (0)) (by decide) f27_11)) (tq (E_zret pr_27 f27_12) (if_pos (by decide)))) (tq ((E_iconst (x := (1)) (by decide) f27_7)) (tq ((E_goto f27_8)) (tq (E_zret pr_27 f27_12) (if_pos (by decide))))))))
theorem n27 {X : XX} {d : Nat} {h : HP} {l0 : Nat} : ev X (d + 1) 27 [Value.ref l0] h = exe X d 27 0 [Value.ref l0] [] h := ev_exe (Nat.le_of_ble_eq_true rfl)
theorem f28_0 : fr 28 0 = some (.aload 0, 1, [], []) := by decide +kernel
theorem f28_1 : fr 28 1 = some (.invokevirtual 29, 3, [], []) := by decide +kernel
theorem f28_4 : fr 28 4 = some (.ifCond .eq 19, 3, [], [0]) := by decide +kernel
theorem f28_7 : fr 28 7 = some (.aload 0, 1, [0], []) := by decide +kernel
theorem f28_8 : fr 28 8 = some (.getfield 7004, 3, [], []) := by decide +kernel
theorem f28_11 : fr 28 11 = some (.iconst 2, 1, [], []) := by decide +kernel
theorem f28_12 : fr 28 12 = some (.if_icmp .ne 19, 3, [], []) := by decide +kernel
theorem f28_15 : fr 28 15 = some (.iconst 1, 1, [], []) := by decide +kernel
theorem f28_16 : fr 28 16 = some (.goto 20, 3, [], []) := by decide +kernel
theorem f28_19 : fr 28 19 = some (.iconst 0, 1, [], []) := by decide +kernel
theorem f28_20 : fr 28 20 = some (.ireturn, 1, [], []) := by decide +kernel
theorem t28_0 {X : XX} {d : Nat} {sz sl : Nat} {sh : Nat → Nat × Nat} {R : Nat → Nat → Option Nat} {I : Nat → Nat → Int32} {J : Nat → Nat → Int64} {l0 : Nat} (h0 : sh l0 = (14, 0)) : exe X d 28 0 [Value.ref l0] [] (sz, sl, sh, R, I, J) =
    ((ev X d 29 [Value.ref l0] (sz, sl, sh, R, I, J)).bind fun q => exe X d 28 4 [Value.ref l0] (q.1.toList ++ []) q.2) :=
  tq ((E_aload (v := Value.ref l0) rfl rfl f28_0)) ((tq ((E_callV pn_29 pc_29 rfl rfl (Nat.le_of_ble_eq_true rfl) f28_1)) (if_pos h0)))
theorem t28_4 {X : XX} {d : Nat} {sz sl : Nat} {sh : Nat → Nat × Nat} {R : Nat → Nat → Option Nat} {I : Nat → Nat → Int32} {J : Nat → Nat → Int64} {l0 : Nat} (h0 : sh l0 = (14, 0)) {s0 : Int32} : exe X d 28 4 [Value.ref l0] [Value.int s0] (sz, sl, sh, R, I, J) =
    (if s0 = 0 then some (some (Value.int (0)), (sz, sl, sh, R, I, J)) else (if ¬ (I l0 4) = (2) then some (some (Value.int (0)), (sz, sl, sh, R, I, J)) else some (some (Value.int (1)), (sz, sl, sh, R, I, J)))) :=
  tq ((E_if_eq f28_4)) (ite_c (tq ((E_iconst (x := (0)) (by decide) f28_19)) (tq (E_zret pr_28 f28_20) (if_pos (by decide)))) (tq ((E_aload (v := Value.ref l0) rfl rfl f28_7)) (tq (tq ((G7004 f28_8)) (if_pos h0)) (tq ((E_iconst (x := (2)) (by decide) f28_11)) (tq ((E_ic_ne f28_12)) (ite_c (tq ((E_iconst (x := (0)) (by decide) f28_19)) (tq (E_zret pr_28 f28_20) (if_pos (by decide)))) (tq ((E_iconst (x := (1)) (by decide) f28_15)) (tq ((E_goto f28_16)) (tq (E_zret pr_28 f28_20) (if_pos (by decide)))))))))))
theorem n28 {X : XX} {d : Nat} {h : HP} {l0 : Nat} : ev X (d + 1) 28 [Value.ref l0] h = exe X d 28 0 [Value.ref l0] [] h := ev_exe (Nat.le_of_ble_eq_true rfl)
theorem f29_0 : fr 29 0 = some (.aload 0, 1, [0], []) := by decide +kernel
theorem f29_1 : fr 29 1 = some (.getfield 7001, 3, [], []) := by decide +kernel
theorem f29_4 : fr 29 4 = some (.iconst 2, 1, [], []) := by decide +kernel
theorem f29_5 : fr 29 5 = some (.if_icmp .ne 12, 3, [], []) := by decide +kernel
theorem f29_8 : fr 29 8 = some (.iconst 1, 1, [], []) := by decide +kernel
theorem f29_9 : fr 29 9 = some (.goto 13, 3, [], []) := by decide +kernel
theorem f29_12 : fr 29 12 = some (.iconst 0, 1, [], []) := by decide +kernel
theorem f29_13 : fr 29 13 = some (.ireturn, 1, [], []) := by decide +kernel
theorem t29_0 {X : XX} {d : Nat} {sz sl : Nat} {sh : Nat → Nat × Nat} {R : Nat → Nat → Option Nat} {I : Nat → Nat → Int32} {J : Nat → Nat → Int64} {l0 : Nat} (h0 : sh l0 = (14, 0)) : exe X d 29 0 [Value.ref l0] [] (sz, sl, sh, R, I, J) =
    (if ¬ (I l0 1) = (2) then some (some (Value.int (0)), (sz, sl, sh, R, I, J)) else some (some (Value.int (1)), (sz, sl, sh, R, I, J))) :=
  tq ((E_aload (v := Value.ref l0) rfl rfl f29_0)) (tq (tq ((G7001 f29_1)) (if_pos h0)) (tq ((E_iconst (x := (2)) (by decide) f29_4)) (tq ((E_ic_ne f29_5)) (ite_c (tq ((E_iconst (x := (0)) (by decide) f29_12)) (tq (E_zret pr_29 f29_13) (if_pos (by decide)))) (tq ((E_iconst (x := (1)) (by decide) f29_8)) (tq ((E_goto f29_9)) (tq (E_zret pr_29 f29_13) (if_pos (by decide)))))))))
theorem n29 {X : XX} {d : Nat} {h : HP} {l0 : Nat} : ev X (d + 1) 29 [Value.ref l0] h = exe X d 29 0 [Value.ref l0] [] h := ev_exe (Nat.le_of_ble_eq_true rfl)
theorem f30_0 : fr 30 0 = some (.iload 1, 1, [], []) := by decide +kernel
theorem f30_1 : fr 30 1 = some (.ifCond .lt 25, 3, [], [0, 1]) := by decide +kernel
theorem f30_4 : fr 30 4 = some (.iload 1, 1, [], []) := by decide +kernel
theorem f30_5 : fr 30 5 = some (.aload 0, 1, [], []) := by decide +kernel
theorem f30_6 : fr 30 6 = some (.getfield 7002, 3, [], []) := by decide +kernel
theorem f30_9 : fr 30 9 = some (.if_icmp .ge 25, 3, [], [0, 1]) := by decide +kernel
theorem f30_12 : fr 30 12 = some (.iload 1, 1, [1], []) := by decide +kernel
theorem f30_13 : fr 30 13 = some (.aload 0, 1, [0], []) := by decide +kernel
theorem f30_14 : fr 30 14 = some (.getfield 7000, 3, [], []) := by decide +kernel
theorem f30_17 : fr 30 17 = some (.arraylength, 1, [], []) := by decide +kernel
theorem f30_18 : fr 30 18 = some (.if_icmp .ge 25, 3, [], []) := by decide +kernel
theorem f30_21 : fr 30 21 = some (.iconst 1, 1, [], []) := by decide +kernel
theorem f30_22 : fr 30 22 = some (.goto 26, 3, [], []) := by decide +kernel
theorem f30_25 : fr 30 25 = some (.iconst 0, 1, [], []) := by decide +kernel
theorem f30_26 : fr 30 26 = some (.ireturn, 1, [], []) := by decide +kernel
theorem t30_0 {X : XX} {d : Nat} {sz sl : Nat} {sh : Nat → Nat × Nat} {R : Nat → Nat → Option Nat} {I : Nat → Nat → Int32} {J : Nat → Nat → Int64} {l0 : Nat} (h0 : sh l0 = (14, 0)) {l1 : Int32} : exe X d 30 0 [Value.ref l0, Value.int l1] [] (sz, sl, sh, R, I, J) =
    (if l1 < 0 then some (some (Value.int (0)), (sz, sl, sh, R, I, J)) else (if (I l0 2) ≤ l1 then some (some (Value.int (0)), (sz, sl, sh, R, I, J)) else (rf ((rfv (R l0 0))) fun p1 => (if (sh p1).1 < 7 then (if (Int32.ofNat (sh p1).2) ≤ l1 then some (some (Value.int (0)), (sz, sl, sh, R, I, J)) else some (some (Value.int (1)), (sz, sl, sh, R, I, J))) else none)))) :=
  tq ((E_iload (x := l1) rfl f30_0)) (tq ((E_if_lt f30_1)) (ite_c (tq ((E_iconst (x := (0)) (by decide) f30_25)) (tq (E_zret pr_30 f30_26) (if_pos (by decide)))) (tq ((E_iload (x := l1) rfl f30_4)) (tq ((E_aload (v := Value.ref l0) rfl rfl f30_5)) (tq (tq ((G7002 f30_6)) (if_pos h0)) (tq ((E_ic_ge f30_9)) (ite_c (tq ((E_iconst (x := (0)) (by decide) f30_25)) (tq (E_zret pr_30 f30_26) (if_pos (by decide)))) (tq ((E_iload (x := l1) rfl f30_12)) (tq ((E_aload (v := Value.ref l0) rfl rfl f30_13)) (tq (tq ((G7000 f30_14)) (if_pos h0)) (tq (E_lenB (isB_rfv _) f30_17) (rf_c fun p1 => ite_c (tq ((E_ic_ge f30_18)) (ite_c (tq ((E_iconst (x := (0)) (by decide) f30_25)) (tq (E_zret pr_30 f30_26) (if_pos (by decide)))) (tq ((E_iconst (x := (1)) (by decide) f30_21)) (tq ((E_goto f30_22)) (tq (E_zret pr_30 f30_26) (if_pos (by decide))))))) rfl))))))))))))
theorem n30 {X : XX} {d : Nat} {h : HP} {l0 : Nat} {a0 : Int32} : ev X (d + 1) 30 [Value.ref l0, Value.int a0] h = exe X d 30 0 [Value.ref l0, Value.int a0] [] h := ev_exe (Nat.le_of_ble_eq_true rfl)
theorem f31_0 : fr 31 0 = some (.aload 0, 1, [], []) := by decide +kernel
theorem f31_1 : fr 31 1 = some (.iload 1, 1, [], []) := by decide +kernel
theorem f31_2 : fr 31 2 = some (.invokevirtual 30, 3, [], []) := by decide +kernel
theorem f31_5 : fr 31 5 = some (.ifCond .eq 17, 3, [], [0, 1]) := by decide +kernel
theorem f31_8 : fr 31 8 = some (.aload 0, 1, [0], []) := by decide +kernel
theorem f31_9 : fr 31 9 = some (.getfield 7000, 3, [], []) := by decide +kernel
theorem f31_12 : fr 31 12 = some (.iload 1, 1, [1], []) := by decide +kernel
theorem f31_13 : fr 31 13 = some (.laload, 1, [], []) := by decide +kernel
theorem f31_14 : fr 31 14 = some (.goto 18, 3, [], []) := by decide +kernel
theorem f31_17 : fr 31 17 = some (.jsr_w 0, 1, [], []) := by decide +kernel
theorem f31_18 : fr 31 18 = some (.lreturn, 1, [], []) := by decide +kernel
theorem t31_0 {X : XX} {d : Nat} {sz sl : Nat} {sh : Nat → Nat × Nat} {R : Nat → Nat → Option Nat} {I : Nat → Nat → Int32} {J : Nat → Nat → Int64} {l0 : Nat} (h0 : sh l0 = (14, 0)) {l1 : Int32} : exe X d 31 0 [Value.ref l0, Value.int l1] [] (sz, sl, sh, R, I, J) =
    ((ev X d 30 [Value.ref l0, Value.int l1] (sz, sl, sh, R, I, J)).bind fun q => exe X d 31 5 [Value.ref l0, Value.int l1] (q.1.toList ++ []) q.2) :=
  tq ((E_aload (v := Value.ref l0) rfl rfl f31_0)) (tq ((E_iload (x := l1) rfl f31_1)) ((tq ((E_callV pn_30 pc_30 rfl rfl (Nat.le_of_ble_eq_true rfl) f31_2)) (if_pos h0))))
theorem t31_5 {X : XX} {d : Nat} {sz sl : Nat} {sh : Nat → Nat × Nat} {R : Nat → Nat → Option Nat} {I : Nat → Nat → Int32} {J : Nat → Nat → Int64} {l0 : Nat} (h0 : sh l0 = (14, 0)) {l1 : Int32} {s0 : Int32} : exe X d 31 5 [Value.ref l0, Value.int l1] [Value.int s0] (sz, sl, sh, R, I, J) =
    (if s0 = 0 then some (some (Value.long (0)), (sz, sl, sh, R, I, J)) else (rf ((rfv (R l0 0))) fun p1 => (if (sh p1).1 = 1 ∧ inb l1 (sh p1).2 then some (some (Value.long (J p1 l1.toNatClampNeg)), (sz, sl, sh, R, I, J)) else none))) :=
  tq ((E_if_eq f31_5)) (ite_c (tq ((E_lconst (x := (0)) (by decide) f31_17)) ((E_lret pr_31 f31_18))) (tq ((E_aload (v := Value.ref l0) rfl rfl f31_8)) (tq (tq ((G7000 f31_9)) (if_pos h0)) (tq ((E_iload (x := l1) rfl f31_12)) (tq ((E_lald f31_13)) (rf_c fun p1 => ite_c (tq ((E_goto f31_14)) ((E_lret pr_31 f31_18))) rfl))))))
theorem n31 {X : XX} {d : Nat} {h : HP} {l0 : Nat} {a0 : Int32} : ev X (d + 1) 31 [Value.ref l0, Value.int a0] h = exe X d 31 0 [Value.ref l0, Value.int a0] [] h := ev_exe (Nat.le_of_ble_eq_true rfl)
theorem f32_0 : fr 32 0 = some (.lload 0, 1, [], []) := by decide +kernel
theorem f32_1 : fr 32 1 = some (.jsr_w 0, 1, [], []) := by decide +kernel
theorem f32_2 : fr 32 2 = some (.lcmp, 1, [], []) := by decide +kernel
theorem f32_3 : fr 32 3 = some (.ifCond .lt 18, 3, [], [0]) := by decide +kernel
theorem f32_6 : fr 32 6 = some (.lload 0, 1, [0], []) := by decide +kernel
theorem f32_7 : fr 32 7 = some (.jsr_w 99999, 3, [], []) := by decide +kernel
theorem f32_10 : fr 32 10 = some (.lcmp, 1, [], []) := by decide +kernel
theorem f32_11 : fr 32 11 = some (.ifCond .gt 18, 3, [], []) := by decide +kernel
theorem f32_14 : fr 32 14 = some (.iconst 1, 1, [], []) := by decide +kernel
theorem f32_15 : fr 32 15 = some (.goto 19, 3, [], []) := by decide +kernel
theorem f32_18 : fr 32 18 = some (.iconst 0, 1, [], []) := by decide +kernel
theorem f32_19 : fr 32 19 = some (.ireturn, 1, [], []) := by decide +kernel
theorem t32_0 {X : XX} {d : Nat} {sz sl : Nat} {sh : Nat → Nat × Nat} {R : Nat → Nat → Option Nat} {I : Nat → Nat → Int32} {J : Nat → Nat → Int64} {l0 : Int64} : exe X d 32 0 [Value.long l0, dm] [] (sz, sl, sh, R, I, J) =
    (if (lg_cmp l0 (0)) < 0 then some (some (Value.int (0)), (sz, sl, sh, R, I, J)) else (if 0 < (lg_cmp l0 (99999)) then some (some (Value.int (0)), (sz, sl, sh, R, I, J)) else some (some (Value.int (1)), (sz, sl, sh, R, I, J)))) :=
  tq ((E_lload (x := l0) rfl f32_0)) (tq ((E_lconst (x := (0)) (by decide) f32_1)) (tq ((E_lcmp f32_2)) (tq ((E_if_lt f32_3)) (ite_c (tq ((E_iconst (x := (0)) (by decide) f32_18)) (tq (E_zret pr_32 f32_19) (if_pos (by decide)))) (tq ((E_lload (x := l0) rfl f32_6)) (tq ((E_lconst (x := (99999)) (by decide) f32_7)) (tq ((E_lcmp f32_10)) (tq ((E_if_gt f32_11)) (ite_c (tq ((E_iconst (x := (0)) (by decide) f32_18)) (tq (E_zret pr_32 f32_19) (if_pos (by decide)))) (tq ((E_iconst (x := (1)) (by decide) f32_14)) (tq ((E_goto f32_15)) (tq (E_zret pr_32 f32_19) (if_pos (by decide))))))))))))))
theorem n32 {X : XX} {d : Nat} {h : HP} {a0 : Int64} : ev X (d + 1) 32 [Value.long a0] h = exe X d 32 0 [Value.long a0, dm] [] h := ev_exe (Nat.le_of_ble_eq_true rfl)
theorem f33_0 : fr 33 0 = some (.aload 0, 1, [0], []) := by decide +kernel
theorem f33_1 : fr 33 1 = some (.iload 1, 1, [1], []) := by decide +kernel
theorem f33_2 : fr 33 2 = some (.invokevirtual 12, 3, [], []) := by decide +kernel
theorem f33_5 : fr 33 5 = some (.astore 3, 1, [], []) := by decide +kernel
theorem f33_6 : fr 33 6 = some (.aload 3, 1, [], []) := by decide +kernel
theorem f33_7 : fr 33 7 = some (.ifnull 25, 3, [], [2, 3]) := by decide +kernel
theorem f33_10 : fr 33 10 = some (.iload 2, 1, [], []) := by decide +kernel
theorem f33_11 : fr 33 11 = some (.invokestatic 11, 3, [], []) := by decide +kernel
theorem f33_14 : fr 33 14 = some (.ifCond .eq 25, 3, [], [2, 3]) := by decide +kernel
theorem f33_17 : fr 33 17 = some (.iload 2, 1, [], []) := by decide +kernel
theorem f33_18 : fr 33 18 = some (.aload 3, 1, [], []) := by decide +kernel
theorem f33_19 : fr 33 19 = some (.getfield 8003, 3, [], []) := by decide +kernel
theorem f33_22 : fr 33 22 = some (.if_icmp .ge 27, 3, [2, 3], []) := by decide +kernel
theorem f33_25 : fr 33 25 = some (.iconst (-1), 1, [], []) := by decide +kernel
theorem f33_26 : fr 33 26 = some (.ireturn, 1, [], []) := by decide +kernel
theorem f33_27 : fr 33 27 = some (.aload 3, 1, [], []) := by decide +kernel
theorem f33_28 : fr 33 28 = some (.invokevirtual 34, 3, [], []) := by decide +kernel
theorem f33_31 : fr 33 31 = some (.istore 4, 2, [], []) := by decide +kernel
theorem f33_33 : fr 33 33 = some (.aload 3, 1, [3], []) := by decide +kernel
theorem f33_34 : fr 33 34 = some (.iload 2, 1, [2], []) := by decide +kernel
theorem f33_35 : fr 33 35 = some (.invokevirtual 36, 3, [], []) := by decide +kernel
theorem f33_38 : fr 33 38 = some (.iload 4, 2, [4], []) := by decide +kernel
theorem f33_40 : fr 33 40 = some (.ireturn, 1, [], []) := by decide +kernel
theorem t33_0 {X : XX} {d : Nat} {sz sl : Nat} {sh : Nat → Nat × Nat} {R : Nat → Nat → Option Nat} {I : Nat → Nat → Int32} {J : Nat → Nat → Int64} (hS : SF sh R) {l1 : Int32} {l2 : Int32} : exe X d 33 0 [Value.ref 0, Value.int l1, Value.int l2, dm, dm] [] (sz, sl, sh, R, I, J) =
    ((ev X d 12 [Value.ref 0, Value.int l1] (sz, sl, sh, R, I, J)).bind fun q => exe X d 33 5 [dm, dm, Value.int l2, dm, dm] (q.1.toList ++ []) q.2) :=
  tq ((E_aload (v := Value.ref 0) rfl rfl f33_0)) (tq ((E_iload (x := l1) rfl f33_1)) ((tq ((E_callV pn_12 pc_12 rfl rfl (Nat.le_of_ble_eq_true rfl) f33_2)) (if_pos (zS0 hS)))))
theorem t33_5 {X : XX} {d : Nat} {sz sl : Nat} {sh : Nat → Nat × Nat} {R : Nat → Nat → Option Nat} {I : Nat → Nat → Int32} {J : Nat → Nat → Int64} {l2 : Int32} {s0 : Value} (k0 : isB s0 = true) : exe X d 33 5 [dm, dm, Value.int l2, dm, dm] [s0] (sz, sl, sh, R, I, J) =
    (nn (s0) (some (some (Value.int (-1)), (sz, sl, sh, R, I, J))) (((ev X d 11 [Value.int l2] (sz, sl, sh, R, I, J)).bind fun q => exe X d 33 14 [dm, dm, Value.int l2, s0, dm] (q.1.toList ++ []) q.2))) :=
  tq ((E_astore k0 rfl f33_5)) (tq ((E_aload (v := s0) rfl (isBA k0) f33_6)) (tq ((E_ifnull f33_7)) (nn_c (tq ((E_iconst (x := (-1)) (by decide) f33_25)) ((E_iret pr_33 f33_26))) (tq ((E_iload (x := l2) rfl f33_10)) ((E_callS pn_11 rfl rfl (Nat.le_of_ble_eq_true rfl) (Nat.le_of_ble_eq_true rfl) f33_11))))))
theorem t33_14 {X : XX} {d : Nat} {sz sl : Nat} {sh : Nat → Nat × Nat} {R : Nat → Nat → Option Nat} {I : Nat → Nat → Int32} {J : Nat → Nat → Int64} {l2 : Int32} {l3 : Value} (h3 : isB l3 = true) {s0 : Int32} : exe X d 33 14 [dm, dm, Value.int l2, l3, dm] [Value.int s0] (sz, sl, sh, R, I, J) =
    (if s0 = 0 then some (some (Value.int (-1)), (sz, sl, sh, R, I, J)) else (rf (l3) fun p1 => if sh p1 = (15, 0) then (if (I p1 3) ≤ l2 then (rf (l3) fun p2 => if sh p2 = (15, 0) then ((ev X d 34 [Value.ref p2] (sz, sl, sh, R, I, J)).bind fun q => exe X d 33 31 [dm, dm, Value.int l2, l3, dm] (q.1.toList ++ []) q.2) else none) else some (some (Value.int (-1)), (sz, sl, sh, R, I, J))) else none)) :=
  tq ((E_if_eq f33_14)) (ite_c (tq ((E_iconst (x := (-1)) (by decide) f33_25)) ((E_iret pr_33 f33_26))) (tq ((E_iload (x := l2) rfl f33_17)) (tq ((E_aload (v := l3) rfl (isBA h3) f33_18)) (tq ((G8003 f33_19)) (rf_c fun p1 => ite_c (tq ((E_ic_ge f33_22)) (ite_c (tq ((E_aload (v := l3) rfl (isBA h3) f33_27)) ((E_callV pn_34 pc_34 rfl rfl (Nat.le_of_ble_eq_true rfl) f33_28))) (tq ((E_iconst (x := (-1)) (by decide) f33_25)) ((E_iret pr_33 f33_26))))) rfl)))))
theorem t33_31 {X : XX} {d : Nat} {sz sl : Nat} {sh : Nat → Nat × Nat} {R : Nat → Nat → Option Nat} {I : Nat → Nat → Int32} {J : Nat → Nat → Int64} {l2 : Int32} {l3 : Value} (h3 : isB l3 = true) {s0 : Int32} : exe X d 33 31 [dm, dm, Value.int l2, l3, dm] [Value.int s0] (sz, sl, sh, R, I, J) =
    (rf (l3) fun p1 => if sh p1 = (15, 0) then ((ev X d 36 [Value.ref p1, Value.int l2] (sz, sl, sh, R, I, J)).bind fun q => exe X d 33 38 [dm, dm, dm, dm, Value.int s0] (q.1.toList ++ []) q.2) else none) :=
  tq ((E_istore (okS_A (Nat.lt_of_sub_eq_succ rfl) rfl h3) f33_31)) (tq ((E_aload (v := l3) rfl (isBA h3) f33_33)) (tq ((E_iload (x := l2) rfl f33_34)) ((E_callV pn_36 pc_36 rfl rfl (Nat.le_of_ble_eq_true rfl) f33_35))))
theorem t33_38 {X : XX} {d : Nat} {sz sl : Nat} {sh : Nat → Nat × Nat} {R : Nat → Nat → Option Nat} {I : Nat → Nat → Int32} {J : Nat → Nat → Int64} {l4 : Int32} : exe X d 33 38 [dm, dm, dm, dm, Value.int l4] [] (sz, sl, sh, R, I, J) =
    some (some (Value.int l4), (sz, sl, sh, R, I, J)) :=
  tq ((E_iload (x := l4) rfl f33_38)) ((E_iret pr_33 f33_40))
theorem n33 {X : XX} {d : Nat} {h : HP} {a0 : Int32} {a1 : Int32} : ev X (d + 1) 33 [Value.ref 0, Value.int a0, Value.int a1] h = exe X d 33 0 [Value.ref 0, Value.int a0, Value.int a1, dm, dm] [] h := ev_exe (Nat.le_of_ble_eq_true rfl)
theorem f34_0 : fr 34 0 = some (.aload 0, 1, [0], []) := by decide +kernel
theorem f34_1 : fr 34 1 = some (.getfield 8006, 3, [], []) := by decide +kernel
theorem f34_4 : fr 34 4 = some (.iconst 0, 1, [], []) := by decide +kernel
theorem f34_5 : fr 34 5 = some (.iconst 8, 2, [], []) := by decide +kernel
theorem f34_7 : fr 34 7 = some (.invokestatic 35, 3, [], []) := by decide +kernel
theorem f34_10 : fr 34 10 = some (.ireturn, 1, [], []) := by decide +kernel
theorem t34_0 {X : XX} {d : Nat} {sz sl : Nat} {sh : Nat → Nat × Nat} {R : Nat → Nat → Option Nat} {I : Nat → Nat → Int32} {J : Nat → Nat → Int64} {l0 : Nat} (h0 : sh l0 = (15, 0)) : exe X d 34 0 [Value.ref l0] [] (sz, sl, sh, R, I, J) =
    ((ev X d 35 [(rfv (R l0 6)), Value.int (0), Value.int (8)] (sz, sl, sh, R, I, J)).bind fun q => exe X d 34 10 [dm] (q.1.toList ++ []) q.2) :=
  tq ((E_aload (v := Value.ref l0) rfl rfl f34_0)) (tq (tq ((G8006 f34_1)) (if_pos h0)) (tq ((E_iconst (x := (0)) (by decide) f34_4)) (tq ((E_iconst (x := (8)) (by decide) f34_5)) ((E_callS pn_35 rfl rfl (Nat.le_of_ble_eq_true rfl) (Nat.le_of_ble_eq_true rfl) f34_7)))))
theorem t34_10 {X : XX} {d : Nat} {sz sl : Nat} {sh : Nat → Nat × Nat} {R : Nat → Nat → Option Nat} {I : Nat → Nat → Int32} {J : Nat → Nat → Int64} {s0 : Int32} : exe X d 34 10 [dm] [Value.int s0] (sz, sl, sh, R, I, J) =
    some (some (Value.int s0), (sz, sl, sh, R, I, J)) :=
  (E_iret pr_34 f34_10)
theorem n34 {X : XX} {d : Nat} {h : HP} {l0 : Nat} : ev X (d + 1) 34 [Value.ref l0] h = exe X d 34 0 [Value.ref l0] [] h := ev_exe (Nat.le_of_ble_eq_true rfl)
theorem f35_0 : fr 35 0 = some (.iconst 0, 1, [], []) := by decide +kernel
theorem f35_1 : fr 35 1 = some (.istore 3, 1, [], []) := by decide +kernel
theorem f35_2 : fr 35 2 = some (.iload 1, 1, [1], []) := by decide +kernel
theorem f35_3 : fr 35 3 = some (.istore 4, 2, [], []) := by decide +kernel
theorem f35_5 : fr 35 5 = some (.iload 4, 2, [], []) := by decide +kernel
theorem f35_7 : fr 35 7 = some (.iload 2, 1, [], []) := by decide +kernel
theorem f35_8 : fr 35 8 = some (.if_icmp .ge 36, 3, [], [0, 2, 4]) := by decide +kernel
theorem f35_11 : fr 35 11 = some (.iload 4, 2, [], []) := by decide +kernel
theorem f35_13 : fr 35 13 = some (.ifCond .lt 36, 3, [], [0, 2, 4]) := by decide +kernel
theorem f35_16 : fr 35 16 = some (.iload 4, 2, [], []) := by decide +kernel
theorem f35_18 : fr 35 18 = some (.aload 0, 1, [], []) := by decide +kernel
theorem f35_19 : fr 35 19 = some (.arraylength, 1, [], []) := by decide +kernel
theorem f35_20 : fr 35 20 = some (.if_icmp .ge 36, 3, [], [0, 2, 4]) := by decide +kernel
theorem f35_23 : fr 35 23 = some (.iload 3, 1, [3], []) := by decide +kernel
theorem f35_24 : fr 35 24 = some (.aload 0, 1, [], []) := by decide +kernel
theorem f35_25 : fr 35 25 = some (.iload 4, 2, [], []) := by decide +kernel
theorem f35_27 : fr 35 27 = some (.iaload, 1, [], []) := by decide +kernel
theorem f35_28 : fr 35 28 = some (.iadd, 1, [], []) := by decide +kernel
theorem f35_29 : fr 35 29 = some (.istore 3, 1, [], []) := by decide +kernel
theorem f35_30 : fr 35 30 = some (.iinc 4 1, 3, [], []) := by decide +kernel
theorem f35_33 : fr 35 33 = some (.goto 5, 3, [], []) := by decide +kernel
theorem f35_36 : fr 35 36 = some (.iload 3, 1, [3], []) := by decide +kernel
theorem f35_37 : fr 35 37 = some (.ireturn, 1, [], []) := by decide +kernel
theorem t35_0 {X : XX} {d : Nat} {sz sl : Nat} {sh : Nat → Nat × Nat} {R : Nat → Nat → Option Nat} {I : Nat → Nat → Int32} {J : Nat → Nat → Int64} {l0 : Nat} {l1 : Int32} {l2 : Int32} : exe X d 35 0 [Value.ref l0, Value.int l1, Value.int l2, dm, dm] [] (sz, sl, sh, R, I, J) =
    exe X d 35 5 [Value.ref l0, dm, Value.int l2, Value.int (0), Value.int l1] [] (sz, sl, sh, R, I, J) :=
  tq ((E_iconst (x := (0)) (by decide) f35_0)) (tq ((E_istore rfl f35_1)) (tq ((E_iload (x := l1) rfl f35_2)) ((E_istore rfl f35_3))))
theorem t35_5 {X : XX} {d : Nat} {sz sl : Nat} {sh : Nat → Nat × Nat} {R : Nat → Nat → Option Nat} {I : Nat → Nat → Int32} {J : Nat → Nat → Int64} {l0 : Nat} {l2 : Int32} {l3 : Int32} {l4 : Int32} : exe X d 35 5 [Value.ref l0, dm, Value.int l2, Value.int l3, Value.int l4] [] (sz, sl, sh, R, I, J) =
    (if l2 ≤ l4 then some (some (Value.int l3), (sz, sl, sh, R, I, J)) else (if l4 < 0 then some (some (Value.int l3), (sz, sl, sh, R, I, J)) else (if (sh l0).1 < 7 then (if (Int32.ofNat (sh l0).2) ≤ l4 then some (some (Value.int l3), (sz, sl, sh, R, I, J)) else (if (sh l0).1 = 0 ∧ inb l4 (sh l0).2 then exe X d 35 5 [Value.ref l0, dm, Value.int l2, Value.int (l3 + (I l0 l4.toNatClampNeg)), Value.int (l4 + (1))] [] (sz, sl, sh, R, I, J) else none)) else none))) :=
  tq ((E_iload (x := l4) rfl f35_5)) (tq ((E_iload (x := l2) rfl f35_7)) (tq ((E_ic_ge f35_8)) (ite_c (tq ((E_iload (x := l3) rfl f35_36)) ((E_iret pr_35 f35_37))) (tq ((E_iload (x := l4) rfl f35_11)) (tq ((E_if_lt f35_13)) (ite_c (tq ((E_iload (x := l3) rfl f35_36)) ((E_iret pr_35 f35_37))) (tq ((E_iload (x := l4) rfl f35_16)) (tq ((E_aload (v := Value.ref l0) rfl rfl f35_18)) (tq (E_len f35_19) (ite_c (tq ((E_ic_ge f35_20)) (ite_c (tq ((E_iload (x := l3) rfl f35_36)) ((E_iret pr_35 f35_37))) (tq ((E_iload (x := l3) rfl f35_23)) (tq ((E_aload (v := Value.ref l0) rfl rfl f35_24)) (tq ((E_iload (x := l4) rfl f35_25)) (tq ((E_iald f35_27)) (ite_c (tq ((E_iadd f35_28)) (tq ((E_istore rfl f35_29)) (tq ((E_iinc (x := l4) (x' := (1)) rfl rfl (by decide) f35_30)) ((E_goto f35_33))))) rfl))))))) rfl))))))))))
theorem n35 {X : XX} {d : Nat} {h : HP} {a0 : Nat} {a1 : Int32} {a2 : Int32} : ev X (d + 1) 35 [Value.ref a0, Value.int a1, Value.int a2] h = exe X d 35 0 [Value.ref a0, Value.int a1, Value.int a2, dm, dm] [] h := ev_exe (Nat.le_of_ble_eq_true rfl)
theorem f36_0 : fr 36 0 = some (.aload 0, 1, [], []) := by decide +kernel
theorem f36_1 : fr 36 1 = some (.getfield 8006, 3, [], []) := by decide +kernel
theorem f36_4 : fr 36 4 = some (.astore 2, 1, [], []) := by decide +kernel
theorem f36_5 : fr 36 5 = some (.aload 0, 1, [], []) := by decide +kernel
theorem f36_6 : fr 36 6 = some (.aload 0, 1, [], []) := by decide +kernel
theorem f36_7 : fr 36 7 = some (.getfield 8007, 3, [], []) := by decide +kernel
theorem f36_10 : fr 36 10 = some (.putfield 8006, 3, [], []) := by decide +kernel
theorem f36_13 : fr 36 13 = some (.aload 0, 1, [], []) := by decide +kernel
theorem f36_14 : fr 36 14 = some (.aload 2, 1, [2], []) := by decide +kernel
theorem f36_15 : fr 36 15 = some (.putfield 8007, 3, [], []) := by decide +kernel
theorem f36_18 : fr 36 18 = some (.aload 0, 1, [], []) := by decide +kernel
theorem f36_19 : fr 36 19 = some (.iload 1, 1, [1], []) := by decide +kernel
theorem f36_20 : fr 36 20 = some (.putfield 8003, 3, [], []) := by decide +kernel
theorem f36_23 : fr 36 23 = some (.aload 0, 1, [0], []) := by decide +kernel
theorem f36_24 : fr 36 24 = some (.iconst 1, 1, [], []) := by decide +kernel
theorem f36_25 : fr 36 25 = some (.putfield 8005, 3, [], []) := by decide +kernel
theorem f36_28 : fr 36 28 = some (.return_, 1, [], []) := by decide +kernel
theorem t36_0 {X : XX} {d : Nat} {sz sl : Nat} {sh : Nat → Nat × Nat} {R : Nat → Nat → Option Nat} {I : Nat → Nat → Int32} {J : Nat → Nat → Int64} {l0 : Nat} (h0 : sh l0 = (15, 0)) {l1 : Int32} : exe X d 36 0 [Value.ref l0, Value.int l1, dm] [] (sz, sl, sh, R, I, J) =
    (orf ((rfv (R l0 7))) fun q1 => exe X d 36 13 [Value.ref l0, Value.int l1, (rfv (R l0 6))] [] (sz, sl, sh, (u2 R l0 6 q1), I, J)) :=
  tq ((E_aload (v := Value.ref l0) rfl rfl f36_0)) (tq (tq ((G8006 f36_1)) (if_pos h0)) (tq ((E_astore (isB_rfv _) rfl f36_4)) (tq ((E_aload (v := Value.ref l0) rfl rfl f36_5)) (tq ((E_aload (v := Value.ref l0) rfl rfl f36_6)) (tq (tq ((G8007 f36_7)) (if_pos h0)) (tq (tq ((P8006 f36_10)) rf_ref) (orf_c fun q1 => if_pos h0)))))))
theorem t36_13 {X : XX} {d : Nat} {sz sl : Nat} {sh : Nat → Nat × Nat} {R : Nat → Nat → Option Nat} {I : Nat → Nat → Int32} {J : Nat → Nat → Int64} {l0 : Nat} (h0 : sh l0 = (15, 0)) {l1 : Int32} {l2 : Value} (h2 : isB l2 = true) : exe X d 36 13 [Value.ref l0, Value.int l1, l2] [] (sz, sl, sh, R, I, J) =
    (orf (l2) fun q1 => exe X d 36 18 [Value.ref l0, Value.int l1, dm] [] (sz, sl, sh, (u2 R l0 7 q1), I, J)) :=
  tq ((E_aload (v := Value.ref l0) rfl rfl f36_13)) (tq ((E_aload (v := l2) rfl (isBA h2) f36_14)) (tq (tq ((P8007 f36_15)) rf_ref) (orf_c fun q1 => if_pos h0)))
theorem t36_18 {X : XX} {d : Nat} {sz sl : Nat} {sh : Nat → Nat × Nat} {R : Nat → Nat → Option Nat} {I : Nat → Nat → Int32} {J : Nat → Nat → Int64} {l0 : Nat} (h0 : sh l0 = (15, 0)) {l1 : Int32} : exe X d 36 18 [Value.ref l0, Value.int l1, dm] [] (sz, sl, sh, R, I, J) =
    some (none, (sz, sl, sh, R, (u2 (u2 I l0 3 l1) l0 5 (1)), J)) :=
  tq ((E_aload (v := Value.ref l0) rfl rfl f36_18)) (tq ((E_iload (x := l1) rfl f36_19)) (tq (tq ((P8003 f36_20)) (if_pos h0)) (tq ((E_aload (v := Value.ref l0) rfl rfl f36_23)) (tq ((E_iconst (x := (1)) (by decide) f36_24)) (tq (tq ((P8005 (by decide) f36_25)) (if_pos h0)) ((E_vret pr_36 f36_28)))))))
theorem n36 {X : XX} {d : Nat} {h : HP} {l0 : Nat} {a0 : Int32} : ev X (d + 1) 36 [Value.ref l0, Value.int a0] h = exe X d 36 0 [Value.ref l0, Value.int a0, dm] [] h := ev_exe (Nat.le_of_ble_eq_true rfl)
theorem f37_0 : fr 37 0 = some (.aload 0, 1, [0], []) := by decide +kernel
theorem f37_1 : fr 37 1 = some (.iload 1, 1, [1], []) := by decide +kernel
theorem f37_2 : fr 37 2 = some (.invokevirtual 12, 3, [], []) := by decide +kernel
theorem f37_5 : fr 37 5 = some (.astore 2, 1, [], []) := by decide +kernel
theorem f37_6 : fr 37 6 = some (.aload 2, 1, [], []) := by decide +kernel
theorem f37_7 : fr 37 7 = some (.ifnonnull 12, 3, [2], []) := by decide +kernel
theorem f37_10 : fr 37 10 = some (.iconst (-1), 1, [], []) := by decide +kernel
theorem f37_11 : fr 37 11 = some (.ireturn, 1, [], []) := by decide +kernel
theorem f37_12 : fr 37 12 = some (.aload 2, 1, [], []) := by decide +kernel
theorem f37_13 : fr 37 13 = some (.getfield 8005, 3, [], []) := by decide +kernel
theorem f37_16 : fr 37 16 = some (.ifCond .eq 26, 3, [], [2]) := by decide +kernel
theorem f37_19 : fr 37 19 = some (.aload 2, 1, [2], []) := by decide +kernel
theorem f37_20 : fr 37 20 = some (.invokevirtual 38, 3, [], []) := by decide +kernel
theorem f37_23 : fr 37 23 = some (.goto 28, 3, [], []) := by decide +kernel
theorem f37_26 : fr 37 26 = some (.iconst (-5), 2, [], []) := by decide +kernel
theorem f37_28 : fr 37 28 = some (.ireturn, 1, [], []) := by decide +kernel
theorem t37_0 {X : XX} {d : Nat} {sz sl : Nat} {sh : Nat → Nat × Nat} {R : Nat → Nat → Option Nat} {I : Nat → Nat → Int32} {J : Nat → Nat → Int64} (hS : SF sh R) {l1 : Int32} : exe X d 37 0 [Value.ref 0, Value.int l1, dm] [] (sz, sl, sh, R, I, J) =
    ((ev X d 12 [Value.ref 0, Value.int l1] (sz, sl, sh, R, I, J)).bind fun q => exe X d 37 5 [dm, dm, dm] (q.1.toList ++ []) q.2) :=
  tq ((E_aload (v := Value.ref 0) rfl rfl f37_0)) (tq ((E_iload (x := l1) rfl f37_1)) ((tq ((E_callV pn_12 pc_12 rfl rfl (Nat.le_of_ble_eq_true rfl) f37_2)) (if_pos (zS0 hS)))))
theorem t37_5 {X : XX} {d : Nat} {sz sl : Nat} {sh : Nat → Nat × Nat} {R : Nat → Nat → Option Nat} {I : Nat → Nat → Int32} {J : Nat → Nat → Int64} {s0 : Value} (k0 : isB s0 = true) : exe X d 37 5 [dm, dm, dm] [s0] (sz, sl, sh, R, I, J) =
    (nn (s0) (some (some (Value.int (-1)), (sz, sl, sh, R, I, J))) ((rf (s0) fun p1 => if sh p1 = (15, 0) then (if (I p1 5) = 0 then some (some (Value.int (-5)), (sz, sl, sh, R, I, J)) else (rf (s0) fun p2 => if sh p2 = (15, 0) then ((ev X d 38 [Value.ref p2] (sz, sl, sh, R, I, J)).bind fun q => exe X d 37 23 [dm, dm, dm] (q.1.toList ++ []) q.2) else none)) else none))) :=
  tq ((E_astore k0 rfl f37_5)) (tq ((E_aload (v := s0) rfl (isBA k0) f37_6)) (tq ((E_ifnonnull f37_7)) (nn_c (tq ((E_iconst (x := (-1)) (by decide) f37_10)) ((E_iret pr_37 f37_11))) (tq ((E_aload (v := s0) rfl (isBA k0) f37_12)) (tq ((G8005 f37_13)) (rf_c fun p1 => ite_c (tq ((E_if_eq f37_16)) (ite_c (tq ((E_iconst (x := (-5)) (by decide) f37_26)) ((E_iret pr_37 f37_28))) (tq ((E_aload (v := s0) rfl (isBA k0) f37_19)) ((E_callV pn_38 pc_38 rfl rfl (Nat.le_of_ble_eq_true rfl) f37_20))))) rfl))))))
theorem t37_23 {X : XX} {d : Nat} {sz sl : Nat} {sh : Nat → Nat × Nat} {R : Nat → Nat → Option Nat} {I : Nat → Nat → Int32} {J : Nat → Nat → Int64} {s0 : Int32} : exe X d 37 23 [dm, dm, dm] [Value.int s0] (sz, sl, sh, R, I, J) =
    some (some (Value.int s0), (sz, sl, sh, R, I, J)) :=
  tq ((E_goto f37_23)) ((E_iret pr_37 f37_28))
theorem n37 {X : XX} {d : Nat} {h : HP} {a0 : Int32} : ev X (d + 1) 37 [Value.ref 0, Value.int a0] h = exe X d 37 0 [Value.ref 0, Value.int a0, dm] [] h := ev_exe (Nat.le_of_ble_eq_true rfl)
theorem f38_0 : fr 38 0 = some (.aload 0, 1, [0], []) := by decide +kernel
theorem f38_1 : fr 38 1 = some (.getfield 8007, 3, [], []) := by decide +kernel
theorem f38_4 : fr 38 4 = some (.iconst 0, 1, [], []) := by decide +kernel
theorem f38_5 : fr 38 5 = some (.iconst 8, 2, [], []) := by decide +kernel
theorem f38_7 : fr 38 7 = some (.invokestatic 35, 3, [], []) := by decide +kernel
theorem f38_10 : fr 38 10 = some (.ireturn, 1, [], []) := by decide +kernel
theorem t38_0 {X : XX} {d : Nat} {sz sl : Nat} {sh : Nat → Nat × Nat} {R : Nat → Nat → Option Nat} {I : Nat → Nat → Int32} {J : Nat → Nat → Int64} {l0 : Nat} (h0 : sh l0 = (15, 0)) : exe X d 38 0 [Value.ref l0] [] (sz, sl, sh, R, I, J) =
    ((ev X d 35 [(rfv (R l0 7)), Value.int (0), Value.int (8)] (sz, sl, sh, R, I, J)).bind fun q => exe X d 38 10 [dm] (q.1.toList ++ []) q.2) :=
  tq ((E_aload (v := Value.ref l0) rfl rfl f38_0)) (tq (tq ((G8007 f38_1)) (if_pos h0)) (tq ((E_iconst (x := (0)) (by decide) f38_4)) (tq ((E_iconst (x := (8)) (by decide) f38_5)) ((E_callS pn_35 rfl rfl (Nat.le_of_ble_eq_true rfl) (Nat.le_of_ble_eq_true rfl) f38_7)))))
theorem t38_10 {X : XX} {d : Nat} {sz sl : Nat} {sh : Nat → Nat × Nat} {R : Nat → Nat → Option Nat} {I : Nat → Nat → Int32} {J : Nat → Nat → Int64} {s0 : Int32} : exe X d 38 10 [dm] [Value.int s0] (sz, sl, sh, R, I, J) =
    some (some (Value.int s0), (sz, sl, sh, R, I, J)) :=
  (E_iret pr_38 f38_10)
theorem n38 {X : XX} {d : Nat} {h : HP} {l0 : Nat} : ev X (d + 1) 38 [Value.ref l0] h = exe X d 38 0 [Value.ref l0] [] h := ev_exe (Nat.le_of_ble_eq_true rfl)
theorem f39_0 : fr 39 0 = some (.iload 1, 1, [], []) := by decide +kernel
theorem f39_1 : fr 39 1 = some (.iconst 1, 1, [], []) := by decide +kernel
theorem f39_2 : fr 39 2 = some (.iconst 4, 1, [], []) := by decide +kernel
theorem f39_3 : fr 39 3 = some (.invokestatic 10, 3, [], []) := by decide +kernel
theorem f39_6 : fr 39 6 = some (.ifCond .ne 11, 3, [0, 1, 2], []) := by decide +kernel
theorem f39_9 : fr 39 9 = some (.iconst (-1), 1, [], []) := by decide +kernel
theorem f39_10 : fr 39 10 = some (.ireturn, 1, [], []) := by decide +kernel
theorem f39_11 : fr 39 11 = some (.aload 0, 1, [], []) := by decide +kernel
theorem f39_12 : fr 39 12 = some (.getfield 2, 3, [], []) := by decide +kernel
theorem f39_15 : fr 39 15 = some (.iload 1, 1, [1], []) := by decide +kernel
theorem f39_16 : fr 39 16 = some (.iload 2, 1, [2], []) := by decide +kernel
theorem f39_17 : fr 39 17 = some (.invokevirtual 40, 3, [], []) := by decide +kernel
theorem f39_20 : fr 39 20 = some (.ifCond .eq 33, 3, [], [0]) := by decide +kernel
theorem f39_23 : fr 39 23 = some (.aload 0, 1, [0], []) := by decide +kernel
theorem f39_24 : fr 39 24 = some (.getfield 2, 3, [], []) := by decide +kernel
theorem f39_27 : fr 39 27 = some (.getfield 4003, 3, [], []) := by decide +kernel
theorem f39_30 : fr 39 30 = some (.goto 35, 3, [], []) := by decide +kernel
theorem f39_33 : fr 39 33 = some (.iconst (-3), 2, [], []) := by decide +kernel
theorem f39_35 : fr 39 35 = some (.ireturn, 1, [], []) := by decide +kernel
theorem t39_0 {X : XX} {d : Nat} {sz sl : Nat} {sh : Nat → Nat × Nat} {R : Nat → Nat → Option Nat} {I : Nat → Nat → Int32} {J : Nat → Nat → Int64} {l1 : Int32} {l2 : Int32} : exe X d 39 0 [Value.ref 0, Value.int l1, Value.int l2] [] (sz, sl, sh, R, I, J) =
    ((ev X d 10 [Value.int l1, Value.int (1), Value.int (4)] (sz, sl, sh, R, I, J)).bind fun q => exe X d 39 6 [Value.ref 0, Value.int l1, Value.int l2] (q.1.toList ++ []) q.2) :=
  tq ((E_iload (x := l1) rfl f39_0)) (tq ((E_iconst (x := (1)) (by decide) f39_1)) (tq ((E_iconst (x := (4)) (by decide) f39_2)) ((E_callS pn_10 rfl rfl (Nat.le_of_ble_eq_true rfl) (Nat.le_of_ble_eq_true rfl) f39_3))))
theorem t39_6 {X : XX} {d : Nat} {sz sl : Nat} {sh : Nat → Nat × Nat} {R : Nat → Nat → Option Nat} {I : Nat → Nat → Int32} {J : Nat → Nat → Int64} (hS : SF sh R) {l1 : Int32} {l2 : Int32} {s0 : Int32} : exe X d 39 6 [Value.ref 0, Value.int l1, Value.int l2] [Value.int s0] (sz, sl, sh, R, I, J) =
    (if ¬ s0 = 0 then ((ev X d 40 [Value.ref 2, Value.int l1, Value.int l2] (sz, sl, sh, R, I, J)).bind fun q => exe X d 39 20 [Value.ref 0, dm, dm] (q.1.toList ++ []) q.2) else some (some (Value.int (-1)), (sz, sl, sh, R, I, J))) :=
  tq ((E_if_ne f39_6)) (ite_c (tq ((E_aload (v := Value.ref 0) rfl rfl f39_11)) (tq (tq ((G2 f39_12)) (if_pos (zS0 hS))) (tq (exe_R (zR0_2 hS)) (tq ((E_iload (x := l1) rfl f39_15)) (tq ((E_iload (x := l2) rfl f39_16)) ((tq ((E_callV pn_40 pc_40 rfl rfl (Nat.le_of_ble_eq_true rfl) f39_17)) (if_pos (zS2 hS))))))))) (tq ((E_iconst (x := (-1)) (by decide) f39_9)) ((E_iret pr_39 f39_10))))
theorem t39_20 {X : XX} {d : Nat} {sz sl : Nat} {sh : Nat → Nat × Nat} {R : Nat → Nat → Option Nat} {I : Nat → Nat → Int32} {J : Nat → Nat → Int64} (hS : SF sh R) {s0 : Int32} : exe X d 39 20 [Value.ref 0, dm, dm] [Value.int s0] (sz, sl, sh, R, I, J) =
    (if s0 = 0 then some (some (Value.int (-3)), (sz, sl, sh, R, I, J)) else some (some (Value.int (I 2 3)), (sz, sl, sh, R, I, J))) :=
  tq ((E_if_eq f39_20)) (ite_c (tq ((E_iconst (x := (-3)) (by decide) f39_33)) ((E_iret pr_39 f39_35))) (tq ((E_aload (v := Value.ref 0) rfl rfl f39_23)) (tq (tq ((G2 f39_24)) (if_pos (zS0 hS))) (tq (exe_R (zR0_2 hS)) (tq (tq ((G4003 f39_27)) (if_pos (zS2 hS))) (tq ((E_goto f39_30)) ((E_iret pr_39 f39_35))))))))
theorem n39 {X : XX} {d : Nat} {h : HP} {a0 : Int32} {a1 : Int32} : ev X (d + 1) 39 [Value.ref 0, Value.int a0, Value.int a1] h = exe X d 39 0 [Value.ref 0, Value.int a0, Value.int a1] [] h := ev_exe (Nat.le_of_ble_eq_true rfl)
theorem f40_0 : fr 40 0 = some (.iload 1, 1, [], []) := by decide +kernel
theorem f40_1 : fr 40 1 = some (.ifCond .lt 18, 3, [], [0, 1, 2]) := by decide +kernel
theorem f40_4 : fr 40 4 = some (.iload 1, 1, [], []) := by decide +kernel
theorem f40_5 : fr 40 5 = some (.aload 0, 1, [], []) := by decide +kernel
theorem f40_6 : fr 40 6 = some (.getfield 4000, 3, [], []) := by decide +kernel
theorem f40_9 : fr 40 9 = some (.arraylength, 1, [], []) := by decide +kernel
theorem f40_10 : fr 40 10 = some (.aload 0, 1, [], []) := by decide +kernel
theorem f40_11 : fr 40 11 = some (.getfield 4003, 3, [], []) := by decide +kernel
theorem f40_14 : fr 40 14 = some (.isub, 1, [], []) := by decide +kernel
theorem f40_15 : fr 40 15 = some (.if_icmp .le 20, 3, [0, 1, 2], []) := by decide +kernel
theorem f40_18 : fr 40 18 = some (.iconst 0, 1, [], []) := by decide +kernel
theorem f40_19 : fr 40 19 = some (.ireturn, 1, [], []) := by decide +kernel
theorem f40_20 : fr 40 20 = some (.iconst 0, 1, [], []) := by decide +kernel
theorem f40_21 : fr 40 21 = some (.istore 3, 1, [], []) := by decide +kernel
theorem f40_22 : fr 40 22 = some (.iload 3, 1, [], []) := by decide +kernel
theorem f40_23 : fr 40 23 = some (.iload 1, 1, [], []) := by decide +kernel
theorem f40_24 : fr 40 24 = some (.if_icmp .ge 62, 3, [], [0, 1, 2, 3]) := by decide +kernel
theorem f40_27 : fr 40 27 = some (.aload 0, 1, [], []) := by decide +kernel
theorem f40_28 : fr 40 28 = some (.getfield 4000, 3, [], []) := by decide +kernel
theorem f40_31 : fr 40 31 = some (.aload 0, 1, [], []) := by decide +kernel
theorem f40_32 : fr 40 32 = some (.getfield 4003, 3, [], []) := by decide +kernel
theorem f40_35 : fr 40 35 = some (.iload 2, 1, [], []) := by decide +kernel
theorem f40_36 : fr 40 36 = some (.iconst 8, 2, [], []) := by decide +kernel
theorem f40_38 : fr 40 38 = some (.iload 3, 1, [], []) := by decide +kernel
theorem f40_39 : fr 40 39 = some (.imul, 1, [], []) := by decide +kernel
theorem f40_40 : fr 40 40 = some (.iushr, 1, [], []) := by decide +kernel
theorem f40_41 : fr 40 41 = some (.iconst 255, 3, [], []) := by decide +kernel
theorem f40_44 : fr 40 44 = some (.iand, 1, [], []) := by decide +kernel
theorem f40_45 : fr 40 45 = some (.iastore, 1, [], []) := by decide +kernel
theorem f40_46 : fr 40 46 = some (.aload 0, 1, [], []) := by decide +kernel
theorem f40_47 : fr 40 47 = some (.dup, 1, [], []) := by decide +kernel
theorem f40_48 : fr 40 48 = some (.getfield 4003, 3, [], []) := by decide +kernel
theorem f40_51 : fr 40 51 = some (.iconst 1, 1, [], []) := by decide +kernel
theorem f40_52 : fr 40 52 = some (.iadd, 1, [], []) := by decide +kernel
theorem f40_53 : fr 40 53 = some (.putfield 4003, 3, [], []) := by decide +kernel
theorem f40_56 : fr 40 56 = some (.iinc 3 1, 3, [], []) := by decide +kernel
theorem f40_59 : fr 40 59 = some (.goto 22, 3, [], []) := by decide +kernel
theorem f40_62 : fr 40 62 = some (.iconst 1, 1, [], []) := by decide +kernel
theorem f40_63 : fr 40 63 = some (.ireturn, 1, [], []) := by decide +kernel
theorem t40_0 {X : XX} {d : Nat} {sz sl : Nat} {sh : Nat → Nat × Nat} {R : Nat → Nat → Option Nat} {I : Nat → Nat → Int32} {J : Nat → Nat → Int64} (hS : SF sh R) {l1 : Int32} {l2 : Int32} : exe X d 40 0 [Value.ref 2, Value.int l1, Value.int l2, dm] [] (sz, sl, sh, R, I, J) =
    (if l1 < 0 then some (some (Value.int (0)), (sz, sl, sh, R, I, J)) else (if l1 ≤ ((120) - (I 2 3)) then exe X d 40 22 [Value.ref 2, Value.int l1, Value.int l2, Value.int (0)] [] (sz, sl, sh, R, I, J) else some (some (Value.int (0)), (sz, sl, sh, R, I, J)))) :=
  tq ((E_iload (x := l1) rfl f40_0)) (tq ((E_if_lt f40_1)) (ite_c (tq ((E_iconst (x := (0)) (by decide) f40_18)) (tq (E_zret pr_40 f40_19) (if_pos (by decide)))) (tq ((E_iload (x := l1) rfl f40_4)) (tq ((E_aload (v := Value.ref 2) rfl rfl f40_5)) (tq (tq ((G4000 f40_6)) (if_pos (zS2 hS))) (tq (exe_R (zR2_0 hS)) (tq (tq (E_len f40_9) (ite_len (m := 120) (A := fun m => exe X d 40 10 [Value.ref 2, Value.int l1, Value.int l2, dm] (.int (Int32.ofNat m) :: [Value.int l1]) (sz, sl, sh, R, I, J)) (zS3 hS) (by decide))) (tq ((E_aload (v := Value.ref 2) rfl rfl f40_10)) (tq (tq ((G4003 f40_11)) (if_pos (zS2 hS))) (tq ((E_isub f40_14)) (tq ((E_ic_le f40_15)) (ite_c (tq ((E_iconst (x := (0)) (by decide) f40_20)) ((E_istore rfl f40_21))) (tq ((E_iconst (x := (0)) (by decide) f40_18)) (tq (E_zret pr_40 f40_19) (if_pos (by decide))))))))))))))))
theorem t40_22 {X : XX} {d : Nat} {sz sl : Nat} {sh : Nat → Nat × Nat} {R : Nat → Nat → Option Nat} {I : Nat → Nat → Int32} {J : Nat → Nat → Int64} (hS : SF sh R) {l1 : Int32} {l2 : Int32} {l3 : Int32} : exe X d 40 22 [Value.ref 2, Value.int l1, Value.int l2, Value.int l3] [] (sz, sl, sh, R, I, J) =
    (if l1 ≤ l3 then some (some (Value.int (1)), (sz, sl, sh, R, I, J)) else (if inb (I 2 3) 120 then exe X d 40 22 [Value.ref 2, Value.int l1, Value.int l2, Value.int (l3 + (1))] [] (sz, sl, sh, R, (u2 (u2 I 3 (I 2 3).toNatClampNeg ((ush l2 ((8) * l3)) &&& (255))) 2 3 ((I 2 3) + (1))), J) else none)) :=
  tq ((E_iload (x := l3) rfl f40_22)) (tq ((E_iload (x := l1) rfl f40_23)) (tq ((E_ic_ge f40_24)) (ite_c (tq ((E_iconst (x := (1)) (by decide) f40_62)) (tq (E_zret pr_40 f40_63) (if_pos (by decide)))) (tq ((E_aload (v := Value.ref 2) rfl rfl f40_27)) (tq (tq ((G4000 f40_28)) (if_pos (zS2 hS))) (tq (exe_R (zR2_0 hS)) (tq ((E_aload (v := Value.ref 2) rfl rfl f40_31)) (tq (tq ((G4003 f40_32)) (if_pos (zS2 hS))) (tq ((E_iload (x := l2) rfl f40_35)) (tq ((E_iconst (x := (8)) (by decide) f40_36)) (tq ((E_iload (x := l3) rfl f40_38)) (tq ((E_imul f40_39)) (tq ((E_ush f40_40)) (tq ((E_iconst (x := (255)) (by decide) f40_41)) (tq ((E_iand f40_44)) (tq (tq ((E_iast f40_45)) (ite_ar (zS3 hS))) (ite_c (tq ((E_aload (v := Value.ref 2) rfl rfl f40_46)) (tq ((E_dup rfl f40_47)) (tq (tq (tq ((G4003 f40_48)) (if_pos (zS2 hS))) (exe_i (u2_pa (by decide)))) (tq ((E_iconst (x := (1)) (by decide) f40_51)) (tq ((E_iadd f40_52)) (tq (tq ((P4003 f40_53)) (if_pos (zS2 hS))) (tq ((E_iinc (x := l3) (x' := (1)) rfl rfl (by decide) f40_56)) ((E_goto f40_59))))))))) rfl)))))))))))))))))
theorem n40 {X : XX} {d : Nat} {h : HP} {a0 : Int32} {a1 : Int32} : ev X (d + 1) 40 [Value.ref 2, Value.int a0, Value.int a1] h = exe X d 40 0 [Value.ref 2, Value.int a0, Value.int a1, dm] [] h := ev_exe (Nat.le_of_ble_eq_true rfl)
theorem f41_0 : fr 41 0 = some (.aload 0, 1, [], []) := by decide +kernel
theorem f41_1 : fr 41 1 = some (.getfield 4, 3, [], []) := by decide +kernel
theorem f41_4 : fr 41 4 = some (.aload 0, 1, [], []) := by decide +kernel
theorem f41_5 : fr 41 5 = some (.getfield 3, 3, [], []) := by decide +kernel
theorem f41_8 : fr 41 8 = some (.arraylength, 1, [], []) := by decide +kernel
theorem f41_9 : fr 41 9 = some (.if_icmp .lt 15, 3, [0], []) := by decide +kernel
theorem f41_12 : fr 41 12 = some (.iconst (-3), 2, [], []) := by decide +kernel
theorem f41_14 : fr 41 14 = some (.ireturn, 1, [], []) := by decide +kernel
theorem f41_15 : fr 41 15 = some (.aload 0, 1, [], []) := by decide +kernel
theorem f41_16 : fr 41 16 = some (.getfield 2, 3, [], []) := by decide +kernel
theorem f41_19 : fr 41 19 = some (.invokevirtual 42, 3, [], []) := by decide +kernel
theorem f41_22 : fr 41 22 = some (.astore 1, 1, [], []) := by decide +kernel
theorem f41_23 : fr 41 23 = some (.aload 0, 1, [], []) := by decide +kernel
theorem f41_24 : fr 41 24 = some (.getfield 2, 3, [], []) := by decide +kernel
theorem f41_27 : fr 41 27 = some (.getfield 4004, 3, [], []) := by decide +kernel
theorem f41_30 : fr 41 30 = some (.istore 2, 1, [], []) := by decide +kernel
theorem f41_31 : fr 41 31 = some (.aload 0, 1, [], []) := by decide +kernel
theorem f41_32 : fr 41 32 = some (.getfield 2, 3, [], []) := by decide +kernel
theorem f41_35 : fr 41 35 = some (.iconst 0, 1, [], []) := by decide +kernel
theorem f41_36 : fr 41 36 = some (.putfield 4003, 3, [], []) := by decide +kernel
theorem f41_39 : fr 41 39 = some (.aload 1, 1, [], []) := by decide +kernel
theorem f41_40 : fr 41 40 = some (.ifnonnull 48, 3, [0, 1], [2]) := by decide +kernel
theorem f41_43 : fr 41 43 = some (.iconst (-100), 2, [], []) := by decide +kernel
theorem f41_45 : fr 41 45 = some (.iload 2, 1, [2], []) := by decide +kernel
theorem f41_46 : fr 41 46 = some (.isub, 1, [], []) := by decide +kernel
theorem f41_47 : fr 41 47 = some (.ireturn, 1, [], []) := by decide +kernel
theorem f41_48 : fr 41 48 = some (.aload 0, 1, [], []) := by decide +kernel
theorem f41_49 : fr 41 49 = some (.getfield 3, 3, [], []) := by decide +kernel
theorem f41_52 : fr 41 52 = some (.aload 0, 1, [], []) := by decide +kernel
theorem f41_53 : fr 41 53 = some (.getfield 4, 3, [], []) := by decide +kernel
theorem f41_56 : fr 41 56 = some (.aload 1, 1, [1], []) := by decide +kernel
theorem f41_57 : fr 41 57 = some (.aastore, 1, [], []) := by decide +kernel
theorem f41_58 : fr 41 58 = some (.aload 0, 1, [0], []) := by decide +kernel
theorem f41_59 : fr 41 59 = some (.dup, 1, [], []) := by decide +kernel
theorem f41_60 : fr 41 60 = some (.getfield 4, 3, [], []) := by decide +kernel
theorem f41_63 : fr 41 63 = some (.dup_x1, 1, [], []) := by decide +kernel
theorem f41_64 : fr 41 64 = some (.iconst 1, 1, [], []) := by decide +kernel
theorem f41_65 : fr 41 65 = some (.iadd, 1, [], []) := by decide +kernel
theorem f41_66 : fr 41 66 = some (.putfield 4, 3, [], []) := by decide +kernel
theorem f41_69 : fr 41 69 = some (.ireturn, 1, [], []) := by decide +kernel
theorem t41_0 {X : XX} {d : Nat} {sz sl : Nat} {sh : Nat → Nat × Nat} {R : Nat → Nat → Option Nat} {I : Nat → Nat → Int32} {J : Nat → Nat → Int64} (hS : SF sh R)  : exe X d 41 0 [Value.ref 0, dm, dm] [] (sz, sl, sh, R, I, J) =
    (if (I 0 4) < (4) then ((ev X d 42 [Value.ref 2] (sz, sl, sh, R, I, J)).bind fun q => exe X d 41 22 [Value.ref 0, dm, dm] (q.1.toList ++ []) q.2) else some (some (Value.int (-3)), (sz, sl, sh, R, I, J))) :=
  tq ((E_aload (v := Value.ref 0) rfl rfl f41_0)) (tq (tq ((G4 f41_1)) (if_pos (zS0 hS))) (tq ((E_aload (v := Value.ref 0) rfl rfl f41_4)) (tq (tq ((G3 f41_5)) (if_pos (zS0 hS))) (tq (exe_R (zR0_3 hS)) (tq (tq (E_len f41_8) (ite_len (m := 4) (A := fun m => exe X d 41 9 [Value.ref 0, dm, dm] (.int (Int32.ofNat m) :: [Value.int (I 0 4)]) (sz, sl, sh, R, I, J)) (zS5 hS) (by decide))) (tq ((E_ic_lt f41_9)) (ite_c (tq ((E_aload (v := Value.ref 0) rfl rfl f41_15)) (tq (tq ((G2 f41_16)) (if_pos (zS0 hS))) (tq (exe_R (zR0_2 hS)) ((tq ((E_callV pn_42 pc_42 rfl rfl (Nat.le_of_ble_eq_true rfl) f41_19)) (if_pos (zS2 hS))))))) (tq ((E_iconst (x := (-3)) (by decide) f41_12)) ((E_iret pr_41 f41_14))))))))))
theorem t41_22 {X : XX} {d : Nat} {sz sl : Nat} {sh : Nat → Nat × Nat} {R : Nat → Nat → Option Nat} {I : Nat → Nat → Int32} {J : Nat → Nat → Int64} (hS : SF sh R) {s0 : Value} (k0 : isB s0 = true) : exe X d 41 22 [Value.ref 0, dm, dm] [s0] (sz, sl, sh, R, I, J) =
    (nn (s0) (some (some (Value.int ((-100) - (I 2 4))), (sz, sl, sh, R, (u2 I 2 3 (0)), J))) ((rf (s0) fun p1 => (if ((3 ≤ (sh 5).1 ∧ (sh 5).1 < 7) ∧ inb (I 0 4) (sh 5).2) ∧ sh p1 = (tcl (sh 5).1 + 7, 0) then exe X d 41 58 [Value.ref 0, dm, dm] [] (sz, sl, sh, (u2 R 5 (I 0 4).toNatClampNeg (some p1)), (u2 I 2 3 (0)), J) else none)))) :=
  tq ((E_astore k0 rfl f41_22)) (tq ((E_aload (v := Value.ref 0) rfl rfl f41_23)) (tq (tq ((G2 f41_24)) (if_pos (zS0 hS))) (tq (exe_R (zR0_2 hS)) (tq (tq ((G4004 f41_27)) (if_pos (zS2 hS))) (tq ((E_istore (okS_A (Nat.lt_of_sub_eq_succ rfl) rfl k0) f41_30)) (tq ((E_aload (v := Value.ref 0) rfl rfl f41_31)) (tq (tq ((G2 f41_32)) (if_pos (zS0 hS))) (tq (exe_R (zR0_2 hS)) (tq ((E_iconst (x := (0)) (by decide) f41_35)) (tq (tq ((P4003 f41_36)) (if_pos (zS2 hS))) (tq ((E_aload (v := s0) rfl (isBA k0) f41_39)) (tq ((E_ifnonnull f41_40)) (nn_c (tq ((E_iconst (x := (-100)) (by decide) f41_43)) (tq ((E_iload (x := (I 2 4)) rfl f41_45)) (tq ((E_isub f41_46)) ((E_iret pr_41 f41_47))))) (tq ((E_aload (v := Value.ref 0) rfl rfl f41_48)) (tq (tq ((G3 f41_49)) (if_pos (zS0 hS))) (tq (exe_R (zR0_3 hS)) (tq ((E_aload (v := Value.ref 0) rfl rfl f41_52)) (tq (tq (tq ((G4 f41_53)) (if_pos (zS0 hS))) (exe_i (u2_pa (by decide)))) (tq ((E_aload (v := s0) rfl (isBA k0) f41_56)) ((E_aast f41_57)))))))))))))))))))))
theorem t41_58 {X : XX} {d : Nat} {sz sl : Nat} {sh : Nat → Nat × Nat} {R : Nat → Nat → Option Nat} {I : Nat → Nat → Int32} {J : Nat → Nat → Int64} (hS : SF sh R)  : exe X d 41 58 [Value.ref 0, dm, dm] [] (sz, sl, sh, R, I, J) =
    some (some (Value.int (I 0 4)), (sz, sl, sh, R, (u2 I 0 4 ((I 0 4) + (1))), J)) :=
  tq ((E_aload (v := Value.ref 0) rfl rfl f41_58)) (tq ((E_dup rfl f41_59)) (tq (tq ((G4 f41_60)) (if_pos (zS0 hS))) (tq ((E_dup_x1 rfl rfl f41_63)) (tq ((E_iconst (x := (1)) (by decide) f41_64)) (tq ((E_iadd f41_65)) (tq (tq ((P4 f41_66)) (if_pos (zS0 hS))) ((E_iret pr_41 f41_69))))))))
theorem n41 {X : XX} {d : Nat} {h : HP}  : ev X (d + 1) 41 [Value.ref 0] h = exe X d 41 0 [Value.ref 0, dm, dm] [] h := ev_exe (Nat.le_of_ble_eq_true rfl)
theorem f42_0 : fr 42 0 = some (.aload 0, 1, [], []) := by decide +kernel
theorem f42_1 : fr 42 1 = some (.iconst 0, 1, [], []) := by decide +kernel
theorem f42_2 : fr 42 2 = some (.putfield 4004, 3, [], []) := by decide +kernel
theorem f42_5 : fr 42 5 = some (.aload 0, 1, [], []) := by decide +kernel
theorem f42_6 : fr 42 6 = some (.iconst 0, 1, [], []) := by decide +kernel
theorem f42_7 : fr 42 7 = some (.putfield 4002, 3, [], []) := by decide +kernel
theorem f42_10 : fr 42 10 = some (.aload 0, 1, [], []) := by decide +kernel
theorem f42_11 : fr 42 11 = some (.invokevirtual 43, 3, [], []) := by decide +kernel
theorem f42_14 : fr 42 14 = some (.istore 1, 1, [], []) := by decide +kernel
theorem f42_15 : fr 42 15 = some (.iconst 0, 1, [], []) := by decide +kernel
theorem f42_16 : fr 42 16 = some (.istore 2, 1, [], []) := by decide +kernel
theorem f42_17 : fr 42 17 = some (.iload 2, 1, [], []) := by decide +kernel
theorem f42_18 : fr 42 18 = some (.iconst 120, 2, [], []) := by decide +kernel
theorem f42_20 : fr 42 20 = some (.if_icmp .ge 57, 3, [], [2]) := by decide +kernel
theorem f42_23 : fr 42 23 = some (.iload 1, 1, [], []) := by decide +kernel
theorem f42_24 : fr 42 24 = some (.ifCond .eq 57, 3, [], [2]) := by decide +kernel
theorem f42_27 : fr 42 27 = some (.aload 0, 1, [], []) := by decide +kernel
theorem f42_28 : fr 42 28 = some (.invokevirtual 46, 3, [], []) := by decide +kernel
theorem f42_31 : fr 42 31 = some (.iconst 59, 2, [], []) := by decide +kernel
theorem f42_33 : fr 42 33 = some (.if_icmp .ne 57, 3, [1], [2]) := by decide +kernel
theorem f42_36 : fr 42 36 = some (.aload 0, 1, [], []) := by decide +kernel
theorem f42_37 : fr 42 37 = some (.dup, 1, [], []) := by decide +kernel
theorem f42_38 : fr 42 38 = some (.getfield 4004, 3, [], []) := by decide +kernel
theorem f42_41 : fr 42 41 = some (.iconst 1, 1, [], []) := by decide +kernel
theorem f42_42 : fr 42 42 = some (.iadd, 1, [], []) := by decide +kernel
theorem f42_43 : fr 42 43 = some (.putfield 4004, 3, [], []) := by decide +kernel
theorem f42_46 : fr 42 46 = some (.aload 0, 1, [], []) := by decide +kernel
theorem f42_47 : fr 42 47 = some (.invokevirtual 43, 3, [], []) := by decide +kernel
theorem f42_50 : fr 42 50 = some (.istore 1, 1, [], []) := by decide +kernel
theorem f42_51 : fr 42 51 = some (.iinc 2 1, 3, [], []) := by decide +kernel
theorem f42_54 : fr 42 54 = some (.goto 17, 3, [], []) := by decide +kernel
theorem f42_57 : fr 42 57 = some (.iload 1, 1, [1], []) := by decide +kernel
theorem f42_58 : fr 42 58 = some (.ifCond .eq 87, 3, [], [0]) := by decide +kernel
theorem f42_61 : fr 42 61 = some (.aload 0, 1, [], []) := by decide +kernel
theorem f42_62 : fr 42 62 = some (.invokevirtual 46, 3, [], []) := by decide +kernel
theorem f42_65 : fr 42 65 = some (.iconst (-1), 1, [], []) := by decide +kernel
theorem f42_66 : fr 42 66 = some (.if_icmp .ne 87, 3, [], [0]) := by decide +kernel
theorem f42_69 : fr 42 69 = some (.new 3, 3, [], []) := by decide +kernel
theorem f42_72 : fr 42 72 = some (.dup, 1, [], []) := by decide +kernel
theorem f42_73 : fr 42 73 = some (.aload 0, 1, [], []) := by decide +kernel
theorem f42_74 : fr 42 74 = some (.getfield 4001, 3, [], []) := by decide +kernel
theorem f42_77 : fr 42 77 = some (.aload 0, 1, [0], []) := by decide +kernel
theorem f42_78 : fr 42 78 = some (.getfield 4002, 3, [], []) := by decide +kernel
theorem f42_81 : fr 42 81 = some (.invokespecial 55, 3, [], []) := by decide +kernel
theorem f42_84 : fr 42 84 = some (.goto 88, 3, [], []) := by decide +kernel
theorem f42_87 : fr 42 87 = some (.aconst_null, 1, [], []) := by decide +kernel
theorem f42_88 : fr 42 88 = some (.areturn, 1, [], []) := by decide +kernel
theorem t42_0 {X : XX} {d : Nat} {sz sl : Nat} {sh : Nat → Nat × Nat} {R : Nat → Nat → Option Nat} {I : Nat → Nat → Int32} {J : Nat → Nat → Int64} (hS : SF sh R)  : exe X d 42 0 [Value.ref 2, dm, dm] [] (sz, sl, sh, R, I, J) =
    ((ev X d 43 [Value.ref 2] (sz, sl, sh, R, (u2 (u2 I 2 4 (0)) 2 2 (0)), J)).bind fun q => exe X d 42 14 [Value.ref 2, dm, dm] (q.1.toList ++ []) q.2) :=
  tq ((E_aload (v := Value.ref 2) rfl rfl f42_0)) (tq ((E_iconst (x := (0)) (by decide) f42_1)) (tq (tq ((P4004 f42_2)) (if_pos (zS2 hS))) (tq ((E_aload (v := Value.ref 2) rfl rfl f42_5)) (tq ((E_iconst (x := (0)) (by decide) f42_6)) (tq (tq ((P4002 f42_7)) (if_pos (zS2 hS))) (tq ((E_aload (v := Value.ref 2) rfl rfl f42_10)) ((tq ((E_callV pn_43 pc_43 rfl rfl (Nat.le_of_ble_eq_true rfl) f42_11)) (if_pos (zS2 hS))))))))))
theorem t42_14 {X : XX} {d : Nat} {sz sl : Nat} {sh : Nat → Nat × Nat} {R : Nat → Nat → Option Nat} {I : Nat → Nat → Int32} {J : Nat → Nat → Int64} {s0 : Int32} : exe X d 42 14 [Value.ref 2, dm, dm] [Value.int s0] (sz, sl, sh, R, I, J) =
    exe X d 42 17 [Value.ref 2, Value.int s0, Value.int (0)] [] (sz, sl, sh, R, I, J) :=
  tq ((E_istore rfl f42_14)) (tq ((E_iconst (x := (0)) (by decide) f42_15)) ((E_istore rfl f42_16)))
theorem t42_17 {X : XX} {d : Nat} {sz sl : Nat} {sh : Nat → Nat × Nat} {R : Nat → Nat → Option Nat} {I : Nat → Nat → Int32} {J : Nat → Nat → Int64} (hS : SF sh R) {l1 : Int32} {l2 : Int32} : exe X d 42 17 [Value.ref 2, Value.int l1, Value.int l2] [] (sz, sl, sh, R, I, J) =
    (if (120) ≤ l2 then exe X d 42 57 [Value.ref 2, Value.int l1, dm] [] (sz, sl, sh, R, I, J) else (if l1 = 0 then exe X d 42 57 [Value.ref 2, Value.int l1, dm] [] (sz, sl, sh, R, I, J) else ((ev X d 46 [Value.ref 2] (sz, sl, sh, R, I, J)).bind fun q => exe X d 42 31 [Value.ref 2, Value.int l1, Value.int l2] (q.1.toList ++ []) q.2))) :=
  tq ((E_iload (x := l2) rfl f42_17)) (tq ((E_iconst (x := (120)) (by decide) f42_18)) (tq ((E_ic_ge f42_20)) (ite_c (rfl) (tq ((E_iload (x := l1) rfl f42_23)) (tq ((E_if_eq f42_24)) (ite_c (rfl) (tq ((E_aload (v := Value.ref 2) rfl rfl f42_27)) ((tq ((E_callV pn_46 pc_46 rfl rfl (Nat.le_of_ble_eq_true rfl) f42_28)) (if_pos (zS2 hS)))))))))))
theorem t42_31 {X : XX} {d : Nat} {sz sl : Nat} {sh : Nat → Nat × Nat} {R : Nat → Nat → Option Nat} {I : Nat → Nat → Int32} {J : Nat → Nat → Int64} (hS : SF sh R) {l1 : Int32} {l2 : Int32} {s0 : Int32} : exe X d 42 31 [Value.ref 2, Value.int l1, Value.int l2] [Value.int s0] (sz, sl, sh, R, I, J) =
    (if ¬ s0 = (59) then exe X d 42 57 [Value.ref 2, Value.int l1, dm] [] (sz, sl, sh, R, I, J) else ((ev X d 43 [Value.ref 2] (sz, sl, sh, R, (u2 I 2 4 ((I 2 4) + (1))), J)).bind fun q => exe X d 42 50 [Value.ref 2, dm, Value.int l2] (q.1.toList ++ []) q.2)) :=
  tq ((E_iconst (x := (59)) (by decide) f42_31)) (tq ((E_ic_ne f42_33)) (ite_c (rfl) (tq ((E_aload (v := Value.ref 2) rfl rfl f42_36)) (tq ((E_dup rfl f42_37)) (tq (tq ((G4004 f42_38)) (if_pos (zS2 hS))) (tq ((E_iconst (x := (1)) (by decide) f42_41)) (tq ((E_iadd f42_42)) (tq (tq ((P4004 f42_43)) (if_pos (zS2 hS))) (tq ((E_aload (v := Value.ref 2) rfl rfl f42_46)) ((tq ((E_callV pn_43 pc_43 rfl rfl (Nat.le_of_ble_eq_true rfl) f42_47)) (if_pos (zS2 hS)))))))))))))
theorem t42_50 {X : XX} {d : Nat} {sz sl : Nat} {sh : Nat → Nat × Nat} {R : Nat → Nat → Option Nat} {I : Nat → Nat → Int32} {J : Nat → Nat → Int64} {l2 : Int32} {s0 : Int32} : exe X d 42 50 [Value.ref 2, dm, Value.int l2] [Value.int s0] (sz, sl, sh, R, I, J) =
    exe X d 42 17 [Value.ref 2, Value.int s0, Value.int (l2 + (1))] [] (sz, sl, sh, R, I, J) :=
  tq ((E_istore rfl f42_50)) (tq ((E_iinc (x := l2) (x' := (1)) rfl rfl (by decide) f42_51)) ((E_goto f42_54)))
theorem t42_57 {X : XX} {d : Nat} {sz sl : Nat} {sh : Nat → Nat × Nat} {R : Nat → Nat → Option Nat} {I : Nat → Nat → Int32} {J : Nat → Nat → Int64} (hS : SF sh R) {l1 : Int32} : exe X d 42 57 [Value.ref 2, Value.int l1, dm] [] (sz, sl, sh, R, I, J) =
    (if l1 = 0 then some (some (Value.null), (sz, sl, sh, R, I, J)) else ((ev X d 46 [Value.ref 2] (sz, sl, sh, R, I, J)).bind fun q => exe X d 42 65 [Value.ref 2, dm, dm] (q.1.toList ++ []) q.2)) :=
  tq ((E_iload (x := l1) rfl f42_57)) (tq ((E_if_eq f42_58)) (ite_c (tq ((E_null f42_87)) (tq (E_aret pr_42 f42_88) (if_pos rfl))) (tq ((E_aload (v := Value.ref 2) rfl rfl f42_61)) ((tq ((E_callV pn_46 pc_46 rfl rfl (Nat.le_of_ble_eq_true rfl) f42_62)) (if_pos (zS2 hS)))))))
theorem t42_65 {X : XX} {d : Nat} {sz sl : Nat} {sh : Nat → Nat × Nat} {R : Nat → Nat → Option Nat} {I : Nat → Nat → Int32} {J : Nat → Nat → Int64} {s0 : Int32} : exe X d 42 65 [Value.ref 2, dm, dm] [Value.int s0] (sz, sl, sh, R, I, J) =
    (if ¬ s0 = (-1) then some (some (Value.null), (sz, sl, sh, R, I, J)) else exe X d 42 72 [Value.ref 2, dm, dm] [Value.ref sz] ((sz + 1), (sl + 3), (ur sh sz (10, 0)), (ur R sz (fun _ => none)), (ur I sz (fun _ => 0)), (ur J sz (fun _ => 0)))) :=
  tq ((E_iconst (x := (-1)) (by decide) f42_65)) (tq ((E_ic_ne f42_66)) (ite_c (tq ((E_null f42_87)) (tq (E_aret pr_42 f42_88) (if_pos rfl))) ((E_new (by decide +kernel) f42_69))))
theorem t42_72 {X : XX} {d : Nat} {sz sl : Nat} {sh : Nat → Nat × Nat} {R : Nat → Nat → Option Nat} {I : Nat → Nat → Int32} {J : Nat → Nat → Int64} (hS : SF sh R) {s0 : Value} (k0 : isB s0 = true) : exe X d 42 72 [Value.ref 2, dm, dm] [s0] (sz, sl, sh, R, I, J) =
    (rf (s0) fun p1 => if sh p1 = (10, 0) then ((ev X d 55 [Value.ref p1, Value.ref 4, Value.int (I 2 2)] (sz, sl, sh, R, I, J)).bind fun q => exe X d 42 84 [dm, dm, dm] (q.1.toList ++ [s0]) q.2) else none) :=
  tq ((E_dup (catB k0) f42_72)) (tq ((E_aload (v := Value.ref 2) rfl rfl f42_73)) (tq (tq ((G4001 f42_74)) (if_pos (zS2 hS))) (tq (exe_R (zR2_1 hS)) (tq ((E_aload (v := Value.ref 2) rfl rfl f42_77)) (tq (tq ((G4002 f42_78)) (if_pos (zS2 hS))) ((E_callI pn_55 pc_55 rfl rfl (by simp [cats, cat_i, cat_l, cat_r, catB k0]) f42_81)))))))
theorem t42_84 {X : XX} {d : Nat} {sz sl : Nat} {sh : Nat → Nat × Nat} {R : Nat → Nat → Option Nat} {I : Nat → Nat → Int32} {J : Nat → Nat → Int64} {s0 : Value} (k0 : isB s0 = true) : exe X d 42 84 [dm, dm, dm] [s0] (sz, sl, sh, R, I, J) =
    some (some (s0), (sz, sl, sh, R, I, J)) :=
  tq ((E_goto f42_84)) (tq (E_aret pr_42 f42_88) (if_pos k0))
theorem n42 {X : XX} {d : Nat} {h : HP}  : ev X (d + 1) 42 [Value.ref 2] h = exe X d 42 0 [Value.ref 2, dm, dm] [] h := ev_exe (Nat.le_of_ble_eq_true rfl)
theorem f43_0 : fr 43 0 = some (.aload 0, 1, [], []) := by decide +kernel
theorem f43_1 : fr 43 1 = some (.iconst 0, 1, [], []) := by decide +kernel
theorem f43_2 : fr 43 2 = some (.iconst 0, 1, [], []) := by decide +kernel
theorem f43_3 : fr 43 3 = some (.invokevirtual 44, 3, [], []) := by decide +kernel
theorem f43_6 : fr 43 6 = some (.ifCond .ne 11, 3, [0], []) := by decide +kernel
theorem f43_9 : fr 43 9 = some (.iconst 0, 1, [], []) := by decide +kernel
theorem f43_10 : fr 43 10 = some (.ireturn, 1, [], []) := by decide +kernel
theorem f43_11 : fr 43 11 = some (.aload 0, 1, [], []) := by decide +kernel
theorem f43_12 : fr 43 12 = some (.invokevirtual 46, 3, [], []) := by decide +kernel
theorem f43_15 : fr 43 15 = some (.iconst 63, 2, [], []) := by decide +kernel
theorem f43_17 : fr 43 17 = some (.if_icmp .ne 48, 3, [], []) := by decide +kernel
theorem f43_20 : fr 43 20 = some (.aload 0, 1, [], []) := by decide +kernel
theorem f43_21 : fr 43 21 = some (.dup, 1, [], []) := by decide +kernel
theorem f43_22 : fr 43 22 = some (.getfield 4004, 3, [], []) := by decide +kernel
theorem f43_25 : fr 43 25 = some (.iconst 1, 1, [], []) := by decide +kernel
theorem f43_26 : fr 43 26 = some (.iadd, 1, [], []) := by decide +kernel
theorem f43_27 : fr 43 27 = some (.putfield 4004, 3, [], []) := by decide +kernel
theorem f43_30 : fr 43 30 = some (.aload 0, 1, [], []) := by decide +kernel
theorem f43_31 : fr 43 31 = some (.iconst 20063, 3, [], []) := by decide +kernel
theorem f43_34 : fr 43 34 = some (.invokevirtual 48, 3, [], []) := by decide +kernel
theorem f43_37 : fr 43 37 = some (.aload 0, 1, [], []) := by decide +kernel
theorem f43_38 : fr 43 38 = some (.iconst 0, 1, [], []) := by decide +kernel
theorem f43_39 : fr 43 39 = some (.iconst 0, 1, [], []) := by decide +kernel
theorem f43_40 : fr 43 40 = some (.invokevirtual 44, 3, [], []) := by decide +kernel
theorem f43_43 : fr 43 43 = some (.ifCond .ne 48, 3, [0], []) := by decide +kernel
theorem f43_46 : fr 43 46 = some (.iconst 0, 1, [], []) := by decide +kernel
theorem f43_47 : fr 43 47 = some (.ireturn, 1, [], []) := by decide +kernel
theorem f43_48 : fr 43 48 = some (.aload 0, 1, [0], []) := by decide +kernel
theorem f43_49 : fr 43 49 = some (.iconst 20059, 3, [], []) := by decide +kernel
theorem f43_52 : fr 43 52 = some (.invokevirtual 48, 3, [], []) := by decide +kernel
theorem f43_55 : fr 43 55 = some (.iconst 1, 1, [], []) := by decide +kernel
theorem f43_56 : fr 43 56 = some (.ireturn, 1, [], []) := by decide +kernel
theorem t43_0 {X : XX} {d : Nat} {sz sl : Nat} {sh : Nat → Nat × Nat} {R : Nat → Nat → Option Nat} {I : Nat → Nat → Int32} {J : Nat → Nat → Int64} (hS : SF sh R)  : exe X d 43 0 [Value.ref 2] [] (sz, sl, sh, R, I, J) =
    ((ev X d 44 [Value.ref 2, Value.int (0), Value.int (0)] (sz, sl, sh, R, I, J)).bind fun q => exe X d 43 6 [Value.ref 2] (q.1.toList ++ []) q.2) :=
  tq ((E_aload (v := Value.ref 2) rfl rfl f43_0)) (tq ((E_iconst (x := (0)) (by decide) f43_1)) (tq ((E_iconst (x := (0)) (by decide) f43_2)) ((tq ((E_callV pn_44 pc_44 rfl rfl (Nat.le_of_ble_eq_true rfl) f43_3)) (if_pos (zS2 hS))))))
theorem t43_6 {X : XX} {d : Nat} {sz sl : Nat} {sh : Nat → Nat × Nat} {R : Nat → Nat → Option Nat} {I : Nat → Nat → Int32} {J : Nat → Nat → Int64} (hS : SF sh R) {s0 : Int32} : exe X d 43 6 [Value.ref 2] [Value.int s0] (sz, sl, sh, R, I, J) =
    (if ¬ s0 = 0 then ((ev X d 46 [Value.ref 2] (sz, sl, sh, R, I, J)).bind fun q => exe X d 43 15 [Value.ref 2] (q.1.toList ++ []) q.2) else some (some (Value.int (0)), (sz, sl, sh, R, I, J))) :=
  tq ((E_if_ne f43_6)) (ite_c (tq ((E_aload (v := Value.ref 2) rfl rfl f43_11)) ((tq ((E_callV pn_46 pc_46 rfl rfl (Nat.le_of_ble_eq_true rfl) f43_12)) (if_pos (zS2 hS))))) (tq ((E_iconst (x := (0)) (by decide) f43_9)) (tq (E_zret pr_43 f43_10) (if_pos (by decide)))))
theorem t43_15 {X : XX} {d : Nat} {sz sl : Nat} {sh : Nat → Nat × Nat} {R : Nat → Nat → Option Nat} {I : Nat → Nat → Int32} {J : Nat → Nat → Int64} (hS : SF sh R) {s0 : Int32} : exe X d 43 15 [Value.ref 2] [Value.int s0] (sz, sl, sh, R, I, J) =
    (if ¬ s0 = (63) then ((ev X d 48 [Value.ref 2, Value.int (20059)] (sz, sl, sh, R, I, J)).bind fun q => exe X d 43 55 [dm] (q.1.toList ++ []) q.2) else ((ev X d 48 [Value.ref 2, Value.int (20063)] (sz, sl, sh, R, (u2 I 2 4 ((I 2 4) + (1))), J)).bind fun q => exe X d 43 37 [Value.ref 2] (q.1.toList ++ []) q.2)) :=
  tq ((E_iconst (x := (63)) (by decide) f43_15)) (tq ((E_ic_ne f43_17)) (ite_c (tq ((E_aload (v := Value.ref 2) rfl rfl f43_48)) (tq ((E_iconst (x := (20059)) (by decide) f43_49)) ((tq ((E_callV pn_48 pc_48 rfl rfl (Nat.le_of_ble_eq_true rfl) f43_52)) (if_pos (zS2 hS)))))) (tq ((E_aload (v := Value.ref 2) rfl rfl f43_20)) (tq ((E_dup rfl f43_21)) (tq (tq ((G4004 f43_22)) (if_pos (zS2 hS))) (tq ((E_iconst (x := (1)) (by decide) f43_25)) (tq ((E_iadd f43_26)) (tq (tq ((P4004 f43_27)) (if_pos (zS2 hS))) (tq ((E_aload (v := Value.ref 2) rfl rfl f43_30)) (tq ((E_iconst (x := (20063)) (by decide) f43_31)) ((tq ((E_callV pn_48 pc_48 rfl rfl (Nat.le_of_ble_eq_true rfl) f43_34)) (if_pos (zS2 hS))))))))))))))
theorem t43_37 {X : XX} {d : Nat} {sz sl : Nat} {sh : Nat → Nat × Nat} {R : Nat → Nat → Option Nat} {I : Nat → Nat → Int32} {J : Nat → Nat → Int64} (hS : SF sh R)  : exe X d 43 37 [Value.ref 2] [] (sz, sl, sh, R, I, J) =
    ((ev X d 44 [Value.ref 2, Value.int (0), Value.int (0)] (sz, sl, sh, R, I, J)).bind fun q => exe X d 43 43 [Value.ref 2] (q.1.toList ++ []) q.2) :=
  tq ((E_aload (v := Value.ref 2) rfl rfl f43_37)) (tq ((E_iconst (x := (0)) (by decide) f43_38)) (tq ((E_iconst (x := (0)) (by decide) f43_39)) ((tq ((E_callV pn_44 pc_44 rfl rfl (Nat.le_of_ble_eq_true rfl) f43_40)) (if_pos (zS2 hS))))))
theorem t43_43 {X : XX} {d : Nat} {sz sl : Nat} {sh : Nat → Nat × Nat} {R : Nat → Nat → Option Nat} {I : Nat → Nat → Int32} {J : Nat → Nat → Int64} (hS : SF sh R) {s0 : Int32} : exe X d 43 43 [Value.ref 2] [Value.int s0] (sz, sl, sh, R, I, J) =
    (if ¬ s0 = 0 then ((ev X d 48 [Value.ref 2, Value.int (20059)] (sz, sl, sh, R, I, J)).bind fun q => exe X d 43 55 [dm] (q.1.toList ++ []) q.2) else some (some (Value.int (0)), (sz, sl, sh, R, I, J))) :=
  tq ((E_if_ne f43_43)) (ite_c (tq ((E_aload (v := Value.ref 2) rfl rfl f43_48)) (tq ((E_iconst (x := (20059)) (by decide) f43_49)) ((tq ((E_callV pn_48 pc_48 rfl rfl (Nat.le_of_ble_eq_true rfl) f43_52)) (if_pos (zS2 hS)))))) (tq ((E_iconst (x := (0)) (by decide) f43_46)) (tq (E_zret pr_43 f43_47) (if_pos (by decide)))))
theorem t43_55 {X : XX} {d : Nat} {sz sl : Nat} {sh : Nat → Nat × Nat} {R : Nat → Nat → Option Nat} {I : Nat → Nat → Int32} {J : Nat → Nat → Int64}  : exe X d 43 55 [dm] [] (sz, sl, sh, R, I, J) =
    some (some (Value.int (1)), (sz, sl, sh, R, I, J)) :=
  tq ((E_iconst (x := (1)) (by decide) f43_55)) (tq (E_zret pr_43 f43_56) (if_pos (by decide)))
theorem n43 {X : XX} {d : Nat} {h : HP}  : ev X (d + 1) 43 [Value.ref 2] h = exe X d 43 0 [Value.ref 2] [] h := ev_exe (Nat.le_of_ble_eq_true rfl)
theorem f44_0 : fr 44 0 = some (.iload 1, 1, [], []) := by decide +kernel
theorem f44_1 : fr 44 1 = some (.iconst 5, 1, [], []) := by decide +kernel
theorem f44_2 : fr 44 2 = some (.if_icmp .lt 11, 3, [1], []) := by decide +kernel
theorem f44_5 : fr 44 5 = some (.aload 0, 1, [0], []) := by decide +kernel
theorem f44_6 : fr 44 6 = some (.iload 2, 1, [2], []) := by decide +kernel
theorem f44_7 : fr 44 7 = some (.invokevirtual 45, 3, [], []) := by decide +kernel
theorem f44_10 : fr 44 10 = some (.ireturn, 1, [], []) := by decide +kernel
theorem f44_11 : fr 44 11 = some (.aload 0, 1, [], []) := by decide +kernel
theorem f44_12 : fr 44 12 = some (.iload 1, 1, [], []) := by decide +kernel
theorem f44_13 : fr 44 13 = some (.iconst 1, 1, [], []) := by decide +kernel
theorem f44_14 : fr 44 14 = some (.iadd, 1, [], []) := by decide +kernel
theorem f44_15 : fr 44 15 = some (.iload 2, 1, [], []) := by decide +kernel
theorem f44_16 : fr 44 16 = some (.invokevirtual 44, 3, [], []) := by decide +kernel
theorem f44_19 : fr 44 19 = some (.ifCond .ne 24, 3, [0, 1, 2], []) := by decide +kernel
theorem f44_22 : fr 44 22 = some (.iconst 0, 1, [], []) := by decide +kernel
theorem f44_23 : fr 44 23 = some (.ireturn, 1, [], []) := by decide +kernel
theorem f44_24 : fr 44 24 = some (.iload 1, 1, [], []) := by decide +kernel
theorem f44_25 : fr 44 25 = some (.iconst 2, 1, [], []) := by decide +kernel
theorem f44_26 : fr 44 26 = some (.if_icmp .ne 33, 3, [], []) := by decide +kernel
theorem f44_29 : fr 44 29 = some (.iconst 1, 1, [], []) := by decide +kernel
theorem f44_30 : fr 44 30 = some (.goto 35, 3, [], []) := by decide +kernel
theorem f44_33 : fr 44 33 = some (.iconst 120, 2, [], []) := by decide +kernel
theorem f44_35 : fr 44 35 = some (.istore 3, 1, [], []) := by decide +kernel
theorem f44_36 : fr 44 36 = some (.iconst 0, 1, [], []) := by decide +kernel
theorem f44_37 : fr 44 37 = some (.istore 4, 2, [], []) := by decide +kernel
theorem f44_39 : fr 44 39 = some (.iload 4, 2, [], []) := by decide +kernel
theorem f44_41 : fr 44 41 = some (.iload 3, 1, [], []) := by decide +kernel
theorem f44_42 : fr 44 42 = some (.if_icmp .ge 101, 3, [], [0, 1, 2, 3, 4]) := by decide +kernel
theorem f44_45 : fr 44 45 = some (.aload 0, 1, [], []) := by decide +kernel
theorem f44_46 : fr 44 46 = some (.invokevirtual 46, 3, [], []) := by decide +kernel
theorem f44_49 : fr 44 49 = some (.invokestatic 54, 3, [], []) := by decide +kernel
theorem f44_52 : fr 44 52 = some (.iload 1, 1, [], []) := by decide +kernel
theorem f44_53 : fr 44 53 = some (.if_icmp .ne 101, 3, [], [0, 1, 2, 3, 4]) := by decide +kernel
theorem f44_56 : fr 44 56 = some (.aload 0, 1, [], []) := by decide +kernel
theorem f44_57 : fr 44 57 = some (.invokevirtual 46, 3, [], []) := by decide +kernel
theorem f44_60 : fr 44 60 = some (.istore 5, 2, [], []) := by decide +kernel
theorem f44_62 : fr 44 62 = some (.aload 0, 1, [], []) := by decide +kernel
theorem f44_63 : fr 44 63 = some (.dup, 1, [], []) := by decide +kernel
theorem f44_64 : fr 44 64 = some (.getfield 4004, 3, [], []) := by decide +kernel
theorem f44_67 : fr 44 67 = some (.iconst 1, 1, [], []) := by decide +kernel
theorem f44_68 : fr 44 68 = some (.iadd, 1, [], []) := by decide +kernel
theorem f44_69 : fr 44 69 = some (.putfield 4004, 3, [], []) := by decide +kernel
theorem f44_72 : fr 44 72 = some (.aload 0, 1, [], []) := by decide +kernel
theorem f44_73 : fr 44 73 = some (.iload 1, 1, [], []) := by decide +kernel
theorem f44_74 : fr 44 74 = some (.iconst 1, 1, [], []) := by decide +kernel
theorem f44_75 : fr 44 75 = some (.iadd, 1, [], []) := by decide +kernel
theorem f44_76 : fr 44 76 = some (.iload 2, 1, [], []) := by decide +kernel
theorem f44_77 : fr 44 77 = some (.invokevirtual 44, 3, [], []) := by decide +kernel
theorem f44_80 : fr 44 80 = some (.ifCond .ne 85, 3, [0, 1, 2, 3, 4, 5], []) := by decide +kernel
theorem f44_83 : fr 44 83 = some (.iconst 0, 1, [], []) := by decide +kernel
theorem f44_84 : fr 44 84 = some (.ireturn, 1, [], []) := by decide +kernel
theorem f44_85 : fr 44 85 = some (.aload 0, 1, [], []) := by decide +kernel
theorem f44_86 : fr 44 86 = some (.iconst 20000, 3, [], []) := by decide +kernel
theorem f44_89 : fr 44 89 = some (.iload 5, 2, [5], []) := by decide +kernel
theorem f44_91 : fr 44 91 = some (.iadd, 1, [], []) := by decide +kernel
theorem f44_92 : fr 44 92 = some (.invokevirtual 48, 3, [], []) := by decide +kernel
theorem f44_95 : fr 44 95 = some (.iinc 4 1, 3, [], []) := by decide +kernel
theorem f44_98 : fr 44 98 = some (.goto 39, 3, [], []) := by decide +kernel
theorem f44_101 : fr 44 101 = some (.iconst 1, 1, [], []) := by decide +kernel
theorem f44_102 : fr 44 102 = some (.ireturn, 1, [], []) := by decide +kernel
theorem t44_0 {X : XX} {d : Nat} {sz sl : Nat} {sh : Nat → Nat × Nat} {R : Nat → Nat → Option Nat} {I : Nat → Nat → Int32} {J : Nat → Nat → Int64} (hS : SF sh R) {l1 : Int32} {l2 : Int32} : exe X d 44 0 [Value.ref 2, Value.int l1, Value.int l2, dm, dm, dm] [] (sz, sl, sh, R, I, J) =
    (if l1 < (5) then ((ev X d 44 [Value.ref 2, Value.int (l1 + (1)), Value.int l2] (sz, sl, sh, R, I, J)).bind fun q => exe X d 44 19 [Value.ref 2, Value.int l1, Value.int l2, dm, dm, dm] (q.1.toList ++ []) q.2) else ((ev X d 45 [Value.ref 2, Value.int l2] (sz, sl, sh, R, I, J)).bind fun q => exe X d 44 10 [dm, dm, dm, dm, dm, dm] (q.1.toList ++ []) q.2)) :=
  tq ((E_iload (x := l1) rfl f44_0)) (tq ((E_iconst (x := (5)) (by decide) f44_1)) (tq ((E_ic_lt f44_2)) (ite_c (tq ((E_aload (v := Value.ref 2) rfl rfl f44_11)) (tq ((E_iload (x := l1) rfl f44_12)) (tq ((E_iconst (x := (1)) (by decide) f44_13)) (tq ((E_iadd f44_14)) (tq ((E_iload (x := l2) rfl f44_15)) ((tq ((E_callV pn_44 pc_44 rfl rfl (Nat.le_of_ble_eq_true rfl) f44_16)) (if_pos (zS2 hS))))))))) (tq ((E_aload (v := Value.ref 2) rfl rfl f44_5)) (tq ((E_iload (x := l2) rfl f44_6)) ((tq ((E_callV pn_45 pc_45 rfl rfl (Nat.le_of_ble_eq_true rfl) f44_7)) (if_pos (zS2 hS)))))))))
theorem t44_10 {X : XX} {d : Nat} {sz sl : Nat} {sh : Nat → Nat × Nat} {R : Nat → Nat → Option Nat} {I : Nat → Nat → Int32} {J : Nat → Nat → Int64} {s0 : Int32} : exe X d 44 10 [dm, dm, dm, dm, dm, dm] [Value.int s0] (sz, sl, sh, R, I, J) =
    (if s0 = 0 ∨ s0 = 1 then some (some (Value.int s0), (sz, sl, sh, R, I, J)) else none) :=
  (E_zret pr_44 f44_10)
theorem t44_19 {X : XX} {d : Nat} {sz sl : Nat} {sh : Nat → Nat × Nat} {R : Nat → Nat → Option Nat} {I : Nat → Nat → Int32} {J : Nat → Nat → Int64} {l1 : Int32} {l2 : Int32} {s0 : Int32} : exe X d 44 19 [Value.ref 2, Value.int l1, Value.int l2, dm, dm, dm] [Value.int s0] (sz, sl, sh, R, I, J) =
    (if ¬ s0 = 0 then (if ¬ l1 = (2) then exe X d 44 39 [Value.ref 2, Value.int l1, Value.int l2, Value.int (120), Value.int (0), dm] [] (sz, sl, sh, R, I, J) else exe X d 44 39 [Value.ref 2, Value.int l1, Value.int l2, Value.int (1), Value.int (0), dm] [] (sz, sl, sh, R, I, J)) else some (some (Value.int (0)), (sz, sl, sh, R, I, J))) :=
  tq ((E_if_ne f44_19)) (ite_c (tq ((E_iload (x := l1) rfl f44_24)) (tq ((E_iconst (x := (2)) (by decide) f44_25)) (tq ((E_ic_ne f44_26)) (ite_c (tq ((E_iconst (x := (120)) (by decide) f44_33)) (tq ((E_istore rfl f44_35)) (tq ((E_iconst (x := (0)) (by decide) f44_36)) ((E_istore rfl f44_37))))) (tq ((E_iconst (x := (1)) (by decide) f44_29)) (tq ((E_goto f44_30)) (tq ((E_istore rfl f44_35)) (tq ((E_iconst (x := (0)) (by decide) f44_36)) ((E_istore rfl f44_37)))))))))) (tq ((E_iconst (x := (0)) (by decide) f44_22)) (tq (E_zret pr_44 f44_23) (if_pos (by decide)))))
theorem t44_39 {X : XX} {d : Nat} {sz sl : Nat} {sh : Nat → Nat × Nat} {R : Nat → Nat → Option Nat} {I : Nat → Nat → Int32} {J : Nat → Nat → Int64} (hS : SF sh R) {l1 : Int32} {l2 : Int32} {l3 : Int32} {l4 : Int32} : exe X d 44 39 [Value.ref 2, Value.int l1, Value.int l2, Value.int l3, Value.int l4, dm] [] (sz, sl, sh, R, I, J) =
    (if l3 ≤ l4 then some (some (Value.int (1)), (sz, sl, sh, R, I, J)) else ((ev X d 46 [Value.ref 2] (sz, sl, sh, R, I, J)).bind fun q => exe X d 44 49 [Value.ref 2, Value.int l1, Value.int l2, Value.int l3, Value.int l4, dm] (q.1.toList ++ []) q.2)) :=
  tq ((E_iload (x := l4) rfl f44_39)) (tq ((E_iload (x := l3) rfl f44_41)) (tq ((E_ic_ge f44_42)) (ite_c (tq ((E_iconst (x := (1)) (by decide) f44_101)) (tq (E_zret pr_44 f44_102) (if_pos (by decide)))) (tq ((E_aload (v := Value.ref 2) rfl rfl f44_45)) ((tq ((E_callV pn_46 pc_46 rfl rfl (Nat.le_of_ble_eq_true rfl) f44_46)) (if_pos (zS2 hS))))))))
theorem t44_49 {X : XX} {d : Nat} {sz sl : Nat} {sh : Nat → Nat × Nat} {R : Nat → Nat → Option Nat} {I : Nat → Nat → Int32} {J : Nat → Nat → Int64} {l1 : Int32} {l2 : Int32} {l3 : Int32} {l4 : Int32} {s0 : Int32} : exe X d 44 49 [Value.ref 2, Value.int l1, Value.int l2, Value.int l3, Value.int l4, dm] [Value.int s0] (sz, sl, sh, R, I, J) =
    ((ev X d 54 [Value.int s0] (sz, sl, sh, R, I, J)).bind fun q => exe X d 44 52 [Value.ref 2, Value.int l1, Value.int l2, Value.int l3, Value.int l4, dm] (q.1.toList ++ []) q.2) :=
  (E_callS pn_54 rfl rfl (Nat.le_of_ble_eq_true rfl) (Nat.le_of_ble_eq_true rfl) f44_49)
theorem t44_52 {X : XX} {d : Nat} {sz sl : Nat} {sh : Nat → Nat × Nat} {R : Nat → Nat → Option Nat} {I : Nat → Nat → Int32} {J : Nat → Nat → Int64} (hS : SF sh R) {l1 : Int32} {l2 : Int32} {l3 : Int32} {l4 : Int32} {s0 : Int32} : exe X d 44 52 [Value.ref 2, Value.int l1, Value.int l2, Value.int l3, Value.int l4, dm] [Value.int s0] (sz, sl, sh, R, I, J) =
    (if ¬ s0 = l1 then some (some (Value.int (1)), (sz, sl, sh, R, I, J)) else ((ev X d 46 [Value.ref 2] (sz, sl, sh, R, I, J)).bind fun q => exe X d 44 60 [Value.ref 2, Value.int l1, Value.int l2, Value.int l3, Value.int l4, dm] (q.1.toList ++ []) q.2)) :=
  tq ((E_iload (x := l1) rfl f44_52)) (tq ((E_ic_ne f44_53)) (ite_c (tq ((E_iconst (x := (1)) (by decide) f44_101)) (tq (E_zret pr_44 f44_102) (if_pos (by decide)))) (tq ((E_aload (v := Value.ref 2) rfl rfl f44_56)) ((tq ((E_callV pn_46 pc_46 rfl rfl (Nat.le_of_ble_eq_true rfl) f44_57)) (if_pos (zS2 hS)))))))
theorem t44_60 {X : XX} {d : Nat} {sz sl : Nat} {sh : Nat → Nat × Nat} {R : Nat → Nat → Option Nat} {I : Nat → Nat → Int32} {J : Nat → Nat → Int64} (hS : SF sh R) {l1 : Int32} {l2 : Int32} {l3 : Int32} {l4 : Int32} {s0 : Int32} : exe X d 44 60 [Value.ref 2, Value.int l1, Value.int l2, Value.int l3, Value.int l4, dm] [Value.int s0] (sz, sl, sh, R, I, J) =
    ((ev X d 44 [Value.ref 2, Value.int (l1 + (1)), Value.int l2] (sz, sl, sh, R, (u2 I 2 4 ((I 2 4) + (1))), J)).bind fun q => exe X d 44 80 [Value.ref 2, Value.int l1, Value.int l2, Value.int l3, Value.int l4, Value.int s0] (q.1.toList ++ []) q.2) :=
  tq ((E_istore rfl f44_60)) (tq ((E_aload (v := Value.ref 2) rfl rfl f44_62)) (tq ((E_dup rfl f44_63)) (tq (tq ((G4004 f44_64)) (if_pos (zS2 hS))) (tq ((E_iconst (x := (1)) (by decide) f44_67)) (tq ((E_iadd f44_68)) (tq (tq ((P4004 f44_69)) (if_pos (zS2 hS))) (tq ((E_aload (v := Value.ref 2) rfl rfl f44_72)) (tq ((E_iload (x := l1) rfl f44_73)) (tq ((E_iconst (x := (1)) (by decide) f44_74)) (tq ((E_iadd f44_75)) (tq ((E_iload (x := l2) rfl f44_76)) ((tq ((E_callV pn_44 pc_44 rfl rfl (Nat.le_of_ble_eq_true rfl) f44_77)) (if_pos (zS2 hS)))))))))))))))
theorem t44_80 {X : XX} {d : Nat} {sz sl : Nat} {sh : Nat → Nat × Nat} {R : Nat → Nat → Option Nat} {I : Nat → Nat → Int32} {J : Nat → Nat → Int64} (hS : SF sh R) {l1 : Int32} {l2 : Int32} {l3 : Int32} {l4 : Int32} {l5 : Int32} {s0 : Int32} : exe X d 44 80 [Value.ref 2, Value.int l1, Value.int l2, Value.int l3, Value.int l4, Value.int l5] [Value.int s0] (sz, sl, sh, R, I, J) =
    (if ¬ s0 = 0 then ((ev X d 48 [Value.ref 2, Value.int ((20000) + l5)] (sz, sl, sh, R, I, J)).bind fun q => exe X d 44 95 [Value.ref 2, Value.int l1, Value.int l2, Value.int l3, Value.int l4, dm] (q.1.toList ++ []) q.2) else some (some (Value.int (0)), (sz, sl, sh, R, I, J))) :=
  tq ((E_if_ne f44_80)) (ite_c (tq ((E_aload (v := Value.ref 2) rfl rfl f44_85)) (tq ((E_iconst (x := (20000)) (by decide) f44_86)) (tq ((E_iload (x := l5) rfl f44_89)) (tq ((E_iadd f44_91)) ((tq ((E_callV pn_48 pc_48 rfl rfl (Nat.le_of_ble_eq_true rfl) f44_92)) (if_pos (zS2 hS)))))))) (tq ((E_iconst (x := (0)) (by decide) f44_83)) (tq (E_zret pr_44 f44_84) (if_pos (by decide)))))
theorem t44_95 {X : XX} {d : Nat} {sz sl : Nat} {sh : Nat → Nat × Nat} {R : Nat → Nat → Option Nat} {I : Nat → Nat → Int32} {J : Nat → Nat → Int64} {l1 : Int32} {l2 : Int32} {l3 : Int32} {l4 : Int32} : exe X d 44 95 [Value.ref 2, Value.int l1, Value.int l2, Value.int l3, Value.int l4, dm] [] (sz, sl, sh, R, I, J) =
    exe X d 44 39 [Value.ref 2, Value.int l1, Value.int l2, Value.int l3, Value.int (l4 + (1)), dm] [] (sz, sl, sh, R, I, J) :=
  tq ((E_iinc (x := l4) (x' := (1)) rfl rfl (by decide) f44_95)) ((E_goto f44_98))
theorem n44 {X : XX} {d : Nat} {h : HP} {a0 : Int32} {a1 : Int32} : ev X (d + 1) 44 [Value.ref 2, Value.int a0, Value.int a1] h = exe X d 44 0 [Value.ref 2, Value.int a0, Value.int a1, dm, dm, dm] [] h := ev_exe (Nat.le_of_ble_eq_true rfl)
theorem f45_0 : fr 45 0 = some (.aload 0, 1, [], []) := by decide +kernel
theorem f45_1 : fr 45 1 = some (.invokevirtual 46, 3, [], []) := by decide +kernel
theorem f45_4 : fr 45 4 = some (.istore 2, 1, [], []) := by decide +kernel
theorem f45_5 : fr 45 5 = some (.iload 2, 1, [], []) := by decide +kernel
theorem f45_6 : fr 45 6 = some (.invokestatic 47, 3, [], []) := by decide +kernel
theorem f45_9 : fr 45 9 = some (.istore 3, 1, [], []) := by decide +kernel
theorem f45_10 : fr 45 10 = some (.iload 3, 1, [], []) := by decide +kernel
theorem f45_11 : fr 45 11 = some (.iconst (-1), 1, [], []) := by decide +kernel
theorem f45_12 : fr 45 12 = some (.if_icmp .eq 36, 3, [1, 2], [3]) := by decide +kernel
theorem f45_15 : fr 45 15 = some (.aload 0, 1, [], []) := by decide +kernel
theorem f45_16 : fr 45 16 = some (.dup, 1, [], []) := by decide +kernel
theorem f45_17 : fr 45 17 = some (.getfield 4004, 3, [], []) := by decide +kernel
theorem f45_20 : fr 45 20 = some (.iconst 1, 1, [], []) := by decide +kernel
theorem f45_21 : fr 45 21 = some (.iadd, 1, [], []) := by decide +kernel
theorem f45_22 : fr 45 22 = some (.putfield 4004, 3, [], []) := by decide +kernel
theorem f45_25 : fr 45 25 = some (.aload 0, 1, [0], []) := by decide +kernel
theorem f45_26 : fr 45 26 = some (.iconst 10000, 3, [], []) := by decide +kernel
theorem f45_29 : fr 45 29 = some (.iload 3, 1, [3], []) := by decide +kernel
theorem f45_30 : fr 45 30 = some (.iadd, 1, [], []) := by decide +kernel
theorem f45_31 : fr 45 31 = some (.invokevirtual 48, 3, [], []) := by decide +kernel
theorem f45_34 : fr 45 34 = some (.iconst 1, 1, [], []) := by decide +kernel
theorem f45_35 : fr 45 35 = some (.ireturn, 1, [], []) := by decide +kernel
theorem f45_36 : fr 45 36 = some (.iload 2, 1, [], []) := by decide +kernel
theorem f45_37 : fr 45 37 = some (.invokestatic 49, 3, [], []) := by decide +kernel
theorem f45_40 : fr 45 40 = some (.ifCond .eq 49, 3, [1, 2], []) := by decide +kernel
theorem f45_43 : fr 45 43 = some (.aload 0, 1, [0], []) := by decide +kernel
theorem f45_44 : fr 45 44 = some (.invokevirtual 50, 3, [], []) := by decide +kernel
theorem f45_47 : fr 45 47 = some (.iconst 1, 1, [], []) := by decide +kernel
theorem f45_48 : fr 45 48 = some (.ireturn, 1, [], []) := by decide +kernel
theorem f45_49 : fr 45 49 = some (.iload 2, 1, [], []) := by decide +kernel
theorem f45_50 : fr 45 50 = some (.iconst 40, 2, [], []) := by decide +kernel
theorem f45_52 : fr 45 52 = some (.if_icmp .eq 67, 3, [], []) := by decide +kernel
theorem f45_55 : fr 45 55 = some (.iload 2, 1, [], []) := by decide +kernel
theorem f45_56 : fr 45 56 = some (.iconst 33, 2, [], []) := by decide +kernel
theorem f45_58 : fr 45 58 = some (.if_icmp .eq 67, 3, [], []) := by decide +kernel
theorem f45_61 : fr 45 61 = some (.iload 2, 1, [], []) := by decide +kernel
theorem f45_62 : fr 45 62 = some (.iconst 45, 2, [], []) := by decide +kernel
theorem f45_64 : fr 45 64 = some (.if_icmp .ne 73, 3, [], [0, 1, 2]) := by decide +kernel
theorem f45_67 : fr 45 67 = some (.iload 1, 1, [], []) := by decide +kernel
theorem f45_68 : fr 45 68 = some (.iconst 6, 2, [], []) := by decide +kernel
theorem f45_70 : fr 45 70 = some (.if_icmp .lt 75, 3, [0, 1, 2], []) := by decide +kernel
theorem f45_73 : fr 45 73 = some (.iconst 0, 1, [], []) := by decide +kernel
theorem f45_74 : fr 45 74 = some (.ireturn, 1, [], []) := by decide +kernel
theorem f45_75 : fr 45 75 = some (.aload 0, 1, [], []) := by decide +kernel
theorem f45_76 : fr 45 76 = some (.dup, 1, [], []) := by decide +kernel
theorem f45_77 : fr 45 77 = some (.getfield 4004, 3, [], []) := by decide +kernel
theorem f45_80 : fr 45 80 = some (.iconst 1, 1, [], []) := by decide +kernel
theorem f45_81 : fr 45 81 = some (.iadd, 1, [], []) := by decide +kernel
theorem f45_82 : fr 45 82 = some (.putfield 4004, 3, [], []) := by decide +kernel
theorem f45_85 : fr 45 85 = some (.iload 2, 1, [2], []) := by decide +kernel
theorem f45_86 : fr 45 86 = some (.lookupswitch 128 #[(33, 120), (40, 112)], 26, [], []) := by decide +kernel
theorem f45_112 : fr 45 112 = some (.aload 0, 1, [0], []) := by decide +kernel
theorem f45_113 : fr 45 113 = some (.iload 1, 1, [1], []) := by decide +kernel
theorem f45_114 : fr 45 114 = some (.iconst 1, 1, [], []) := by decide +kernel
theorem f45_115 : fr 45 115 = some (.iadd, 1, [], []) := by decide +kernel
theorem f45_116 : fr 45 116 = some (.invokevirtual 51, 3, [], []) := by decide +kernel
theorem f45_119 : fr 45 119 = some (.ireturn, 1, [], []) := by decide +kernel
theorem f45_120 : fr 45 120 = some (.aload 0, 1, [0], []) := by decide +kernel
theorem f45_121 : fr 45 121 = some (.iload 1, 1, [1], []) := by decide +kernel
theorem f45_122 : fr 45 122 = some (.iconst 1, 1, [], []) := by decide +kernel
theorem f45_123 : fr 45 123 = some (.iadd, 1, [], []) := by decide +kernel
theorem f45_124 : fr 45 124 = some (.invokevirtual 52, 3, [], []) := by decide +kernel
theorem f45_127 : fr 45 127 = some (.ireturn, 1, [], []) := by decide +kernel
theorem f45_128 : fr 45 128 = some (.aload 0, 1, [0], []) := by decide +kernel
theorem f45_129 : fr 45 129 = some (.iload 1, 1, [1], []) := by decide +kernel
theorem f45_130 : fr 45 130 = some (.iconst 1, 1, [], []) := by decide +kernel
theorem f45_131 : fr 45 131 = some (.iadd, 1, [], []) := by decide +kernel
theorem f45_132 : fr 45 132 = some (.invokevirtual 53, 3, [], []) := by decide +kernel
theorem f45_135 : fr 45 135 = some (.ireturn, 1, [], []) := by decide +kernel
theorem t45_0 {X : XX} {d : Nat} {sz sl : Nat} {sh : Nat → Nat × Nat} {R : Nat → Nat → Option Nat} {I : Nat → Nat → Int32} {J : Nat → Nat → Int64} (hS : SF sh R) {l1 : Int32} : exe X d 45 0 [Value.ref 2, Value.int l1, dm, dm] [] (sz, sl, sh, R, I, J) =
    ((ev X d 46 [Value.ref 2] (sz, sl, sh, R, I, J)).bind fun q => exe X d 45 4 [Value.ref 2, Value.int l1, dm, dm] (q.1.toList ++ []) q.2) :=
  tq ((E_aload (v := Value.ref 2) rfl rfl f45_0)) ((tq ((E_callV pn_46 pc_46 rfl rfl (Nat.le_of_ble_eq_true rfl) f45_1)) (if_pos (zS2 hS))))
theorem t45_4 {X : XX} {d : Nat} {sz sl : Nat} {sh : Nat → Nat × Nat} {R : Nat → Nat → Option Nat} {I : Nat → Nat → Int32} {J : Nat → Nat → Int64} {l1 : Int32} {s0 : Int32} : exe X d 45 4 [Value.ref 2, Value.int l1, dm, dm] [Value.int s0] (sz, sl, sh, R, I, J) =
    ((ev X d 47 [Value.int s0] (sz, sl, sh, R, I, J)).bind fun q => exe X d 45 9 [Value.ref 2, Value.int l1, Value.int s0, dm] (q.1.toList ++ []) q.2) :=
  tq ((E_istore rfl f45_4)) (tq ((E_iload (x := s0) rfl f45_5)) ((E_callS pn_47 rfl rfl (Nat.le_of_ble_eq_true rfl) (Nat.le_of_ble_eq_true rfl) f45_6)))
theorem t45_9 {X : XX} {d : Nat} {sz sl : Nat} {sh : Nat → Nat × Nat} {R : Nat → Nat → Option Nat} {I : Nat → Nat → Int32} {J : Nat → Nat → Int64} (hS : SF sh R) {l1 : Int32} {l2 : Int32} {s0 : Int32} : exe X d 45 9 [Value.ref 2, Value.int l1, Value.int l2, dm] [Value.int s0] (sz, sl, sh, R, I, J) =
    (if s0 = (-1) then ((ev X d 49 [Value.int l2] (sz, sl, sh, R, I, J)).bind fun q => exe X d 45 40 [Value.ref 2, Value.int l1, Value.int l2, dm] (q.1.toList ++ []) q.2) else ((ev X d 48 [Value.ref 2, Value.int ((10000) + s0)] (sz, sl, sh, R, (u2 I 2 4 ((I 2 4) + (1))), J)).bind fun q => exe X d 45 34 [dm, dm, dm, dm] (q.1.toList ++ []) q.2)) :=
  tq ((E_istore rfl f45_9)) (tq ((E_iload (x := s0) rfl f45_10)) (tq ((E_iconst (x := (-1)) (by decide) f45_11)) (tq ((E_ic_eq f45_12)) (ite_c (tq ((E_iload (x := l2) rfl f45_36)) ((E_callS pn_49 rfl rfl (Nat.le_of_ble_eq_true rfl) (Nat.le_of_ble_eq_true rfl) f45_37))) (tq ((E_aload (v := Value.ref 2) rfl rfl f45_15)) (tq ((E_dup rfl f45_16)) (tq (tq ((G4004 f45_17)) (if_pos (zS2 hS))) (tq ((E_iconst (x := (1)) (by decide) f45_20)) (tq ((E_iadd f45_21)) (tq (tq ((P4004 f45_22)) (if_pos (zS2 hS))) (tq ((E_aload (v := Value.ref 2) rfl rfl f45_25)) (tq ((E_iconst (x := (10000)) (by decide) f45_26)) (tq ((E_iload (x := s0) rfl f45_29)) (tq ((E_iadd f45_30)) ((tq ((E_callV pn_48 pc_48 rfl rfl (Nat.le_of_ble_eq_true rfl) f45_31)) (if_pos (zS2 hS))))))))))))))))))
theorem t45_34 {X : XX} {d : Nat} {sz sl : Nat} {sh : Nat → Nat × Nat} {R : Nat → Nat → Option Nat} {I : Nat → Nat → Int32} {J : Nat → Nat → Int64}  : exe X d 45 34 [dm, dm, dm, dm] [] (sz, sl, sh, R, I, J) =
    some (some (Value.int (1)), (sz, sl, sh, R, I, J)) :=
  tq ((E_iconst (x := (1)) (by decide) f45_34)) (tq (E_zret pr_45 f45_35) (if_pos (by decide)))
theorem t45_40 {X : XX} {d : Nat} {sz sl : Nat} {sh : Nat → Nat × Nat} {R : Nat → Nat → Option Nat} {I : Nat → Nat → Int32} {J : Nat → Nat → Int64} (hS : SF sh R) {l1 : Int32} {l2 : Int32} {s0 : Int32} : exe X d 45 40 [Value.ref 2, Value.int l1, Value.int l2, dm] [Value.int s0] (sz, sl, sh, R, I, J) =
    (if s0 = 0 then (if l2 = (40) then exe X d 45 67 [Value.ref 2, Value.int l1, Value.int l2, dm] [] (sz, sl, sh, R, I, J) else (if l2 = (33) then exe X d 45 67 [Value.ref 2, Value.int l1, Value.int l2, dm] [] (sz, sl, sh, R, I, J) else (if ¬ l2 = (45) then some (some (Value.int (0)), (sz, sl, sh, R, I, J)) else exe X d 45 67 [Value.ref 2, Value.int l1, Value.int l2, dm] [] (sz, sl, sh, R, I, J)))) else ((ev X d 50 [Value.ref 2] (sz, sl, sh, R, I, J)).bind fun q => exe X d 45 47 [dm, dm, dm, dm] (q.1.toList ++ []) q.2)) :=
  tq ((E_if_eq f45_40)) (ite_c (tq ((E_iload (x := l2) rfl f45_49)) (tq ((E_iconst (x := (40)) (by decide) f45_50)) (tq ((E_ic_eq f45_52)) (ite_c (rfl) (tq ((E_iload (x := l2) rfl f45_55)) (tq ((E_iconst (x := (33)) (by decide) f45_56)) (tq ((E_ic_eq f45_58)) (ite_c (rfl) (tq ((E_iload (x := l2) rfl f45_61)) (tq ((E_iconst (x := (45)) (by decide) f45_62)) (tq ((E_ic_ne f45_64)) (ite_c (tq ((E_iconst (x := (0)) (by decide) f45_73)) (tq (E_zret pr_45 f45_74) (if_pos (by decide)))) (rfl))))))))))))) (tq ((E_aload (v := Value.ref 2) rfl rfl f45_43)) ((tq ((E_callV pn_50 pc_50 rfl rfl (Nat.le_of_ble_eq_true rfl) f45_44)) (if_pos (zS2 hS))))))
theorem t45_47 {X : XX} {d : Nat} {sz sl : Nat} {sh : Nat → Nat × Nat} {R : Nat → Nat → Option Nat} {I : Nat → Nat → Int32} {J : Nat → Nat → Int64}  : exe X d 45 47 [dm, dm, dm, dm] [] (sz, sl, sh, R, I, J) =
    some (some (Value.int (1)), (sz, sl, sh, R, I, J)) :=
  tq ((E_iconst (x := (1)) (by decide) f45_47)) (tq (E_zret pr_45 f45_48) (if_pos (by decide)))
theorem t45_67 {X : XX} {d : Nat} {sz sl : Nat} {sh : Nat → Nat × Nat} {R : Nat → Nat → Option Nat} {I : Nat → Nat → Int32} {J : Nat → Nat → Int64} (hS : SF sh R) {l1 : Int32} {l2 : Int32} : exe X d 45 67 [Value.ref 2, Value.int l1, Value.int l2, dm] [] (sz, sl, sh, R, I, J) =
    (if l1 < (6) then (if l2 = (33) then ((ev X d 52 [Value.ref 2, Value.int (l1 + (1))] (sz, sl, sh, R, (u2 I 2 4 ((I 2 4) + (1))), J)).bind fun q => exe X d 45 127 [dm, dm, dm, dm] (q.1.toList ++ []) q.2) else (if l2 = (40) then ((ev X d 51 [Value.ref 2, Value.int (l1 + (1))] (sz, sl, sh, R, (u2 I 2 4 ((I 2 4) + (1))), J)).bind fun q => exe X d 45 119 [dm, dm, dm, dm] (q.1.toList ++ []) q.2) else ((ev X d 53 [Value.ref 2, Value.int (l1 + (1))] (sz, sl, sh, R, (u2 I 2 4 ((I 2 4) + (1))), J)).bind fun q => exe X d 45 135 [dm, dm, dm, dm] (q.1.toList ++ []) q.2))) else some (some (Value.int (0)), (sz, sl, sh, R, I, J))) :=
  tq ((E_iload (x := l1) rfl f45_67)) (tq ((E_iconst (x := (6)) (by decide) f45_68)) (tq ((E_ic_lt f45_70)) (ite_c (tq ((E_aload (v := Value.ref 2) rfl rfl f45_75)) (tq ((E_dup rfl f45_76)) (tq (tq ((G4004 f45_77)) (if_pos (zS2 hS))) (tq ((E_iconst (x := (1)) (by decide) f45_80)) (tq ((E_iadd f45_81)) (tq (tq ((P4004 f45_82)) (if_pos (zS2 hS))) (tq ((E_iload (x := l2) rfl f45_85)) (tq ((E_sw f45_86)) (sw_c (by decide) (tq ((E_aload (v := Value.ref 2) rfl rfl f45_120)) (tq ((E_iload (x := l1) rfl f45_121)) (tq ((E_iconst (x := (1)) (by decide) f45_122)) (tq ((E_iadd f45_123)) ((tq ((E_callV pn_52 pc_52 rfl rfl (Nat.le_of_ble_eq_true rfl) f45_124)) (if_pos (zS2 hS)))))))) (sw_c (by decide) (tq ((E_aload (v := Value.ref 2) rfl rfl f45_112)) (tq ((E_iload (x := l1) rfl f45_113)) (tq ((E_iconst (x := (1)) (by decide) f45_114)) (tq ((E_iadd f45_115)) ((tq ((E_callV pn_51 pc_51 rfl rfl (Nat.le_of_ble_eq_true rfl) f45_116)) (if_pos (zS2 hS)))))))) (tq ((E_aload (v := Value.ref 2) rfl rfl f45_128)) (tq ((E_iload (x := l1) rfl f45_129)) (tq ((E_iconst (x := (1)) (by decide) f45_130)) (tq ((E_iadd f45_131)) ((tq ((E_callV pn_53 pc_53 rfl rfl (Nat.le_of_ble_eq_true rfl) f45_132)) (if_pos (zS2 hS)))))))))))))))))) (tq ((E_iconst (x := (0)) (by decide) f45_73)) (tq (E_zret pr_45 f45_74) (if_pos (by decide)))))))
theorem t45_119 {X : XX} {d : Nat} {sz sl : Nat} {sh : Nat → Nat × Nat} {R : Nat → Nat → Option Nat} {I : Nat → Nat → Int32} {J : Nat → Nat → Int64} {s0 : Int32} : exe X d 45 119 [dm, dm, dm, dm] [Value.int s0] (sz, sl, sh, R, I, J) =
    (if s0 = 0 ∨ s0 = 1 then some (some (Value.int s0), (sz, sl, sh, R, I, J)) else none) :=
  (E_zret pr_45 f45_119)
theorem t45_127 {X : XX} {d : Nat} {sz sl : Nat} {sh : Nat → Nat × Nat} {R : Nat → Nat → Option Nat} {I : Nat → Nat → Int32} {J : Nat → Nat → Int64} {s0 : Int32} : exe X d 45 127 [dm, dm, dm, dm] [Value.int s0] (sz, sl, sh, R, I, J) =
    (if s0 = 0 ∨ s0 = 1 then some (some (Value.int s0), (sz, sl, sh, R, I, J)) else none) :=
  (E_zret pr_45 f45_127)
theorem t45_135 {X : XX} {d : Nat} {sz sl : Nat} {sh : Nat → Nat × Nat} {R : Nat → Nat → Option Nat} {I : Nat → Nat → Int32} {J : Nat → Nat → Int64} {s0 : Int32} : exe X d 45 135 [dm, dm, dm, dm] [Value.int s0] (sz, sl, sh, R, I, J) =
    (if s0 = 0 ∨ s0 = 1 then some (some (Value.int s0), (sz, sl, sh, R, I, J)) else none) :=
  (E_zret pr_45 f45_135)
theorem n45 {X : XX} {d : Nat} {h : HP} {a0 : Int32} : ev X (d + 1) 45 [Value.ref 2, Value.int a0] h = exe X d 45 0 [Value.ref 2, Value.int a0, dm, dm] [] h := ev_exe (Nat.le_of_ble_eq_true rfl)
theorem f46_0 : fr 46 0 = some (.aload 0, 1, [], []) := by decide +kernel
theorem f46_1 : fr 46 1 = some (.getfield 4004, 3, [], []) := by decide +kernel
theorem f46_4 : fr 46 4 = some (.ifCond .lt 42, 3, [], [0]) := by decide +kernel
theorem f46_7 : fr 46 7 = some (.aload 0, 1, [], []) := by decide +kernel
theorem f46_8 : fr 46 8 = some (.getfield 4004, 3, [], []) := by decide +kernel
theorem f46_11 : fr 46 11 = some (.aload 0, 1, [], []) := by decide +kernel
theorem f46_12 : fr 46 12 = some (.getfield 4003, 3, [], []) := by decide +kernel
theorem f46_15 : fr 46 15 = some (.if_icmp .ge 42, 3, [], [0]) := by decide +kernel
theorem f46_18 : fr 46 18 = some (.aload 0, 1, [], []) := by decide +kernel
theorem f46_19 : fr 46 19 = some (.getfield 4004, 3, [], []) := by decide +kernel
theorem f46_22 : fr 46 22 = some (.aload 0, 1, [], []) := by decide +kernel
theorem f46_23 : fr 46 23 = some (.getfield 4000, 3, [], []) := by decide +kernel
theorem f46_26 : fr 46 26 = some (.arraylength, 1, [], []) := by decide +kernel
theorem f46_27 : fr 46 27 = some (.if_icmp .ge 42, 3, [], [0]) := by decide +kernel
theorem f46_30 : fr 46 30 = some (.aload 0, 1, [], []) := by decide +kernel
theorem f46_31 : fr 46 31 = some (.getfield 4000, 3, [], []) := by decide +kernel
theorem f46_34 : fr 46 34 = some (.aload 0, 1, [0], []) := by decide +kernel
theorem f46_35 : fr 46 35 = some (.getfield 4004, 3, [], []) := by decide +kernel
theorem f46_38 : fr 46 38 = some (.iaload, 1, [], []) := by decide +kernel
theorem f46_39 : fr 46 39 = some (.goto 43, 3, [], []) := by decide +kernel
theorem f46_42 : fr 46 42 = some (.iconst (-1), 1, [], []) := by decide +kernel
theorem f46_43 : fr 46 43 = some (.ireturn, 1, [], []) := by decide +kernel
theorem t46_0 {X : XX} {d : Nat} {sz sl : Nat} {sh : Nat → Nat × Nat} {R : Nat → Nat → Option Nat} {I : Nat → Nat → Int32} {J : Nat → Nat → Int64} (hS : SF sh R)  : exe X d 46 0 [Value.ref 2] [] (sz, sl, sh, R, I, J) =
    (if (I 2 4) < 0 then some (some (Value.int (-1)), (sz, sl, sh, R, I, J)) else (if (I 2 3) ≤ (I 2 4) then some (some (Value.int (-1)), (sz, sl, sh, R, I, J)) else (if (120) ≤ (I 2 4) then some (some (Value.int (-1)), (sz, sl, sh, R, I, J)) else (if inb (I 2 4) 120 then some (some (Value.int (I 3 (I 2 4).toNatClampNeg)), (sz, sl, sh, R, I, J)) else none)))) :=
  tq ((E_aload (v := Value.ref 2) rfl rfl f46_0)) (tq (tq ((G4004 f46_1)) (if_pos (zS2 hS))) (tq ((E_if_lt f46_4)) (ite_c (tq ((E_iconst (x := (-1)) (by decide) f46_42)) ((E_iret pr_46 f46_43))) (tq ((E_aload (v := Value.ref 2) rfl rfl f46_7)) (tq (tq ((G4004 f46_8)) (if_pos (zS2 hS))) (tq ((E_aload (v := Value.ref 2) rfl rfl f46_11)) (tq (tq ((G4003 f46_12)) (if_pos (zS2 hS))) (tq ((E_ic_ge f46_15)) (ite_c (tq ((E_iconst (x := (-1)) (by decide) f46_42)) ((E_iret pr_46 f46_43))) (tq ((E_aload (v := Value.ref 2) rfl rfl f46_18)) (tq (tq ((G4004 f46_19)) (if_pos (zS2 hS))) (tq ((E_aload (v := Value.ref 2) rfl rfl f46_22)) (tq (tq ((G4000 f46_23)) (if_pos (zS2 hS))) (tq (exe_R (zR2_0 hS)) (tq (tq (E_len f46_26) (ite_len (m := 120) (A := fun m => exe X d 46 27 [Value.ref 2] (.int (Int32.ofNat m) :: [Value.int (I 2 4)]) (sz, sl, sh, R, I, J)) (zS3 hS) (by decide))) (tq ((E_ic_ge f46_27)) (ite_c (tq ((E_iconst (x := (-1)) (by decide) f46_42)) ((E_iret pr_46 f46_43))) (tq ((E_aload (v := Value.ref 2) rfl rfl f46_30)) (tq (tq ((G4000 f46_31)) (if_pos (zS2 hS))) (tq (exe_R (zR2_0 hS)) (tq ((E_aload (v := Value.ref 2) rfl rfl f46_34)) (tq (tq ((G4004 f46_35)) (if_pos (zS2 hS))) (tq (tq ((E_iald f46_38)) (ite_ar (zS3 hS))) (ite_c (tq ((E_goto f46_39)) ((E_iret pr_46 f46_43))) rfl))))))))))))))))))))))))
theorem n46 {X : XX} {d : Nat} {h : HP}  : ev X (d + 1) 46 [Value.ref 2] h = exe X d 46 0 [Value.ref 2] [] h := ev_exe (Nat.le_of_ble_eq_true rfl)
theorem f47_0 : fr 47 0 = some (.iload 0, 1, [0], []) := by decide +kernel
theorem f47_1 : fr 47 1 = some (.lookupswitch 123 #[(98, 120), (99, 123), (100, 116), (101, 123), (102, 123), (103, 123), (104, 108), (105, 123), (106, 123), (107, 112), (108, 123), (109, 123), (110, 123), (111, 123), (112, 123), (113, 123), (114, 123), (115, 118), (116, 123), (117, 123), (118, 123), (119, 110), (120, 114)], 107, [], []) := by decide +kernel
theorem f47_108 : fr 47 108 = some (.iconst 0, 1, [], []) := by decide +kernel
theorem f47_109 : fr 47 109 = some (.ireturn, 1, [], []) := by decide +kernel
theorem f47_110 : fr 47 110 = some (.iconst 1, 1, [], []) := by decide +kernel
theorem f47_111 : fr 47 111 = some (.ireturn, 1, [], []) := by decide +kernel
theorem f47_112 : fr 47 112 = some (.iconst 2, 1, [], []) := by decide +kernel
theorem f47_113 : fr 47 113 = some (.ireturn, 1, [], []) := by decide +kernel
theorem f47_114 : fr 47 114 = some (.iconst 3, 1, [], []) := by decide +kernel
theorem f47_115 : fr 47 115 = some (.ireturn, 1, [], []) := by decide +kernel
theorem f47_116 : fr 47 116 = some (.iconst 4, 1, [], []) := by decide +kernel
theorem f47_117 : fr 47 117 = some (.ireturn, 1, [], []) := by decide +kernel
theorem f47_118 : fr 47 118 = some (.iconst 5, 1, [], []) := by decide +kernel
theorem f47_119 : fr 47 119 = some (.ireturn, 1, [], []) := by decide +kernel
theorem f47_120 : fr 47 120 = some (.iconst 6, 2, [], []) := by decide +kernel
theorem f47_122 : fr 47 122 = some (.ireturn, 1, [], []) := by decide +kernel
theorem f47_123 : fr 47 123 = some (.iconst (-1), 1, [], []) := by decide +kernel
theorem f47_124 : fr 47 124 = some (.ireturn, 1, [], []) := by decide +kernel
theorem t47_0 {X : XX} {d : Nat} {sz sl : Nat} {sh : Nat → Nat × Nat} {R : Nat → Nat → Option Nat} {I : Nat → Nat → Int32} {J : Nat → Nat → Int64} {l0 : Int32} : exe X d 47 0 [Value.int l0] [] (sz, sl, sh, R, I, J) =
    (if l0 = (98) then some (some (Value.int (6)), (sz, sl, sh, R, I, J)) else (if l0 = (99) then some (some (Value.int (-1)), (sz, sl, sh, R, I, J)) else (if l0 = (100) then some (some (Value.int (4)), (sz, sl, sh, R, I, J)) else (if l0 = (101) then some (some (Value.int (-1)), (sz, sl, sh, R, I, J)) else (if l0 = (102) then some (some (Value.int (-1)), (sz, sl, sh, R, I, J)) else (if l0 = (103) then some (some (Value.int (-1)), (sz, sl, sh, R, I, J)) else (if l0 = (104) then some (some (Value.int (0)), (sz, sl, sh, R, I, J)) else (if l0 = (105) then some (some (Value.int (-1)), (sz, sl, sh, R, I, J)) else (if l0 = (106) then some (some (Value.int (-1)), (sz, sl, sh, R, I, J)) else (if l0 = (107) then some (some (Value.int (2)), (sz, sl, sh, R, I, J)) else (if l0 = (108) then some (some (Value.int (-1)), (sz, sl, sh, R, I, J)) else (if l0 = (109) then some (some (Value.int (-1)), (sz, sl, sh, R, I, J)) else (if l0 = (110) then some (some (Value.int (-1)), (sz, sl, sh, R, I, J)) else (if l0 = (111) then some (some (Value.int (-1)), (sz, sl, sh, R, I, J)) else (if l0 = (112) then some (some (Value.int (-1)), (sz, sl, sh, R, I, J)) else (if l0 = (113) then some (some (Value.int (-1)), (sz, sl, sh, R, I, J)) else (if l0 = (114) then some (some (Value.int (-1)), (sz, sl, sh, R, I, J)) else (if l0 = (115) then some (some (Value.int (5)), (sz, sl, sh, R, I, J)) else (if l0 = (116) then some (some (Value.int (-1)), (sz, sl, sh, R, I, J)) else (if l0 = (117) then some (some (Value.int (-1)), (sz, sl, sh, R, I, J)) else (if l0 = (118) then some (some (Value.int (-1)), (sz, sl, sh, R, I, J)) else (if l0 = (119) then some (some (Value.int (1)), (sz, sl, sh, R, I, J)) else (if l0 = (120) then some (some (Value.int (3)), (sz, sl, sh, R, I, J)) else some (some (Value.int (-1)), (sz, sl, sh, R, I, J))))))))))))))))))))))))) :=
  tq ((E_iload (x := l0) rfl f47_0)) (tq ((E_sw f47_1)) (sw_c (by decide) (tq ((E_iconst (x := (6)) (by decide) f47_120)) ((E_iret pr_47 f47_122))) (sw_c (by decide) (tq ((E_iconst (x := (-1)) (by decide) f47_123)) ((E_iret pr_47 f47_124))) (sw_c (by decide) (tq ((E_iconst (x := (4)) (by decide) f47_116)) ((E_iret pr_47 f47_117))) (sw_c (by decide) (tq ((E_iconst (x := (-1)) (by decide) f47_123)) ((E_iret pr_47 f47_124))) (sw_c (by decide) (tq ((E_iconst (x := (-1)) (by decide) f47_123)) ((E_iret pr_47 f47_124))) (sw_c (by decide) (tq ((E_iconst (x := (-1)) (by decide) f47_123)) ((E_iret pr_47 f47_124))) (sw_c (by decide) (tq ((E_iconst (x := (0)) (by decide) f47_108)) ((E_iret pr_47 f47_109))) (sw_c (by decide) (tq ((E_iconst (x := (-1)) (by decide) f47_123)) ((E_iret pr_47 f47_124))) (sw_c (by decide) (tq ((E_iconst (x := (-1)) (by decide) f47_123)) ((E_iret pr_47 f47_124))) (sw_c (by decide) (tq ((E_iconst (x := (2)) (by decide) f47_112)) ((E_iret pr_47 f47_113))) (sw_c (by decide) (tq ((E_iconst (x := (-1)) (by decide) f47_123)) ((E_iret pr_47 f47_124))) (sw_c (by decide) (tq ((E_iconst (x := (-1)) (by decide) f47_123)) ((E_iret pr_47 f47_124))) (sw_c (by decide) (tq ((E_iconst (x := (-1)) (by decide) f47_123)) ((E_iret pr_47 f47_124))) (sw_c (by decide) (tq ((E_iconst (x := (-1)) (by decide) f47_123)) ((E_iret pr_47 f47_124))) (sw_c (by decide) (tq ((E_iconst (x := (-1)) (by decide) f47_123)) ((E_iret pr_47 f47_124))) (sw_c (by decide) (tq ((E_iconst (x := (-1)) (by decide) f47_123)) ((E_iret pr_47 f47_124))) (sw_c (by decide) (tq ((E_iconst (x := (-1)) (by decide) f47_123)) ((E_iret pr_47 f47_124))) (sw_c (by decide) (tq ((E_iconst (x := (5)) (by decide) f47_118)) ((E_iret pr_47 f47_119))) (sw_c (by decide) (tq ((E_iconst (x := (-1)) (by decide) f47_123)) ((E_iret pr_47 f47_124))) (sw_c (by decide) (tq ((E_iconst (x := (-1)) (by decide) f47_123)) ((E_iret pr_47 f47_124))) (sw_c (by decide) (tq ((E_iconst (x := (-1)) (by decide) f47_123)) ((E_iret pr_47 f47_124))) (sw_c (by decide) (tq ((E_iconst (x := (1)) (by decide) f47_110)) ((E_iret pr_47 f47_111))) (sw_c (by decide) (tq ((E_iconst (x := (3)) (by decide) f47_114)) ((E_iret pr_47 f47_115))) (tq ((E_iconst (x := (-1)) (by decide) f47_123)) ((E_iret pr_47 f47_124)))))))))))))))))))))))))))
theorem n47 {X : XX} {d : Nat} {h : HP} {a0 : Int32} : ev X (d + 1) 47 [Value.int a0] h = exe X d 47 0 [Value.int a0] [] h := ev_exe (Nat.le_of_ble_eq_true rfl)
theorem f48_0 : fr 48 0 = some (.aload 0, 1, [], []) := by decide +kernel
theorem f48_1 : fr 48 1 = some (.getfield 4002, 3, [], []) := by decide +kernel
theorem f48_4 : fr 48 4 = some (.aload 0, 1, [], []) := by decide +kernel
theorem f48_5 : fr 48 5 = some (.getfield 4001, 3, [], []) := by decide +kernel
theorem f48_8 : fr 48 8 = some (.arraylength, 1, [], []) := by decide +kernel
theorem f48_9 : fr 48 9 = some (.if_icmp .ge 32, 3, [], [0, 1]) := by decide +kernel
theorem f48_12 : fr 48 12 = some (.aload 0, 1, [], []) := by decide +kernel
theorem f48_13 : fr 48 13 = some (.getfield 4001, 3, [], []) := by decide +kernel
theorem f48_16 : fr 48 16 = some (.aload 0, 1, [], []) := by decide +kernel
theorem f48_17 : fr 48 17 = some (.getfield 4002, 3, [], []) := by decide +kernel
theorem f48_20 : fr 48 20 = some (.iload 1, 1, [1], []) := by decide +kernel
theorem f48_21 : fr 48 21 = some (.iastore, 1, [], []) := by decide +kernel
theorem f48_22 : fr 48 22 = some (.aload 0, 1, [0], []) := by decide +kernel
theorem f48_23 : fr 48 23 = some (.dup, 1, [], []) := by decide +kernel
theorem f48_24 : fr 48 24 = some (.getfield 4002, 3, [], []) := by decide +kernel
theorem f48_27 : fr 48 27 = some (.iconst 1, 1, [], []) := by decide +kernel
theorem f48_28 : fr 48 28 = some (.iadd, 1, [], []) := by decide +kernel
theorem f48_29 : fr 48 29 = some (.putfield 4002, 3, [], []) := by decide +kernel
theorem f48_32 : fr 48 32 = some (.return_, 1, [], []) := by decide +kernel
theorem t48_0 {X : XX} {d : Nat} {sz sl : Nat} {sh : Nat → Nat × Nat} {R : Nat → Nat → Option Nat} {I : Nat → Nat → Int32} {J : Nat → Nat → Int64} (hS : SF sh R) {l1 : Int32} : exe X d 48 0 [Value.ref 2, Value.int l1] [] (sz, sl, sh, R, I, J) =
    (if (241) ≤ (I 2 2) then some (none, (sz, sl, sh, R, I, J)) else (if inb (I 2 2) 241 then some (none, (sz, sl, sh, R, (u2 (u2 I 4 (I 2 2).toNatClampNeg l1) 2 2 ((I 2 2) + (1))), J)) else none)) :=
  tq ((E_aload (v := Value.ref 2) rfl rfl f48_0)) (tq (tq ((G4002 f48_1)) (if_pos (zS2 hS))) (tq ((E_aload (v := Value.ref 2) rfl rfl f48_4)) (tq (tq ((G4001 f48_5)) (if_pos (zS2 hS))) (tq (exe_R (zR2_1 hS)) (tq (tq (E_len f48_8) (ite_len (m := 241) (A := fun m => exe X d 48 9 [Value.ref 2, Value.int l1] (.int (Int32.ofNat m) :: [Value.int (I 2 2)]) (sz, sl, sh, R, I, J)) (zS4 hS) (by decide))) (tq ((E_ic_ge f48_9)) (ite_c ((E_vret pr_48 f48_32)) (tq ((E_aload (v := Value.ref 2) rfl rfl f48_12)) (tq (tq ((G4001 f48_13)) (if_pos (zS2 hS))) (tq (exe_R (zR2_1 hS)) (tq ((E_aload (v := Value.ref 2) rfl rfl f48_16)) (tq (tq ((G4002 f48_17)) (if_pos (zS2 hS))) (tq ((E_iload (x := l1) rfl f48_20)) (tq (tq ((E_iast f48_21)) (ite_ar (zS4 hS))) (ite_c (tq ((E_aload (v := Value.ref 2) rfl rfl f48_22)) (tq ((E_dup rfl f48_23)) (tq (tq (tq ((G4002 f48_24)) (if_pos (zS2 hS))) (exe_i (u2_pa (by decide)))) (tq ((E_iconst (x := (1)) (by decide) f48_27)) (tq ((E_iadd f48_28)) (tq (tq ((P4002 f48_29)) (if_pos (zS2 hS))) ((E_vret pr_48 f48_32)))))))) rfl)))))))))))))))
theorem n48 {X : XX} {d : Nat} {h : HP} {a0 : Int32} : ev X (d + 1) 48 [Value.ref 2, Value.int a0] h = exe X d 48 0 [Value.ref 2, Value.int a0] [] h := ev_exe (Nat.le_of_ble_eq_true rfl)
theorem f49_0 : fr 49 0 = some (.iload 0, 1, [], []) := by decide +kernel
theorem f49_1 : fr 49 1 = some (.iconst 48, 2, [], []) := by decide +kernel
theorem f49_3 : fr 49 3 = some (.if_icmp .lt 16, 3, [], [0]) := by decide +kernel
theorem f49_6 : fr 49 6 = some (.iload 0, 1, [0], []) := by decide +kernel
theorem f49_7 : fr 49 7 = some (.iconst 57, 2, [], []) := by decide +kernel
theorem f49_9 : fr 49 9 = some (.if_icmp .gt 16, 3, [], []) := by decide +kernel
theorem f49_12 : fr 49 12 = some (.iconst 1, 1, [], []) := by decide +kernel
theorem f49_13 : fr 49 13 = some (.goto 17, 3, [], []) := by decide +kernel
theorem f49_16 : fr 49 16 = some (.iconst 0, 1, [], []) := by decide +kernel
theorem f49_17 : fr 49 17 = some (.ireturn, 1, [], []) := by decide +kernel
theorem t49_0 {X : XX} {d : Nat} {sz sl : Nat} {sh : Nat → Nat × Nat} {R : Nat → Nat → Option Nat} {I : Nat → Nat → Int32} {J : Nat → Nat → Int64} {l0 : Int32} : exe X d 49 0 [Value.int l0] [] (sz, sl, sh, R, I, J) =
    (if l0 < (48) then some (some (Value.int (0)), (sz, sl, sh, R, I, J)) else (if (57) < l0 then some (some (Value.int (0)), (sz, sl, sh, R, I, J)) else some (some (Value.int (1)), (sz, sl, sh, R, I, J)))) :=
  tq ((E_iload (x := l0) rfl f49_0)) (tq ((E_iconst (x := (48)) (by decide) f49_1)) (tq ((E_ic_lt f49_3)) (ite_c (tq ((E_iconst (x := (0)) (by decide) f49_16)) (tq (E_zret pr_49 f49_17) (if_pos (by decide)))) (tq ((E_iload (x := l0) rfl f49_6)) (tq ((E_iconst (x := (57)) (by decide) f49_7)) (tq ((E_ic_gt f49_9)) (ite_c (tq ((E_iconst (x := (0)) (by decide) f49_16)) (tq (E_zret pr_49 f49_17) (if_pos (by decide)))) (tq ((E_iconst (x := (1)) (by decide) f49_12)) (tq ((E_goto f49_13)) (tq (E_zret pr_49 f49_17) (if_pos (by decide))))))))))))
theorem n49 {X : XX} {d : Nat} {h : HP} {a0 : Int32} : ev X (d + 1) 49 [Value.int a0] h = exe X d 49 0 [Value.int a0] [] h := ev_exe (Nat.le_of_ble_eq_true rfl)
theorem f50_0 : fr 50 0 = some (.iconst 0, 1, [], []) := by decide +kernel
theorem f50_1 : fr 50 1 = some (.istore 1, 1, [], []) := by decide +kernel
theorem f50_2 : fr 50 2 = some (.iconst 0, 1, [], []) := by decide +kernel
theorem f50_3 : fr 50 3 = some (.istore 2, 1, [], []) := by decide +kernel
theorem f50_4 : fr 50 4 = some (.iload 2, 1, [], []) := by decide +kernel
theorem f50_5 : fr 50 5 = some (.iconst 4, 1, [], []) := by decide +kernel
theorem f50_6 : fr 50 6 = some (.if_icmp .ge 48, 3, [], [2]) := by decide +kernel
theorem f50_9 : fr 50 9 = some (.aload 0, 1, [], []) := by decide +kernel
theorem f50_10 : fr 50 10 = some (.invokevirtual 46, 3, [], []) := by decide +kernel
theorem f50_13 : fr 50 13 = some (.invokestatic 49, 3, [], []) := by decide +kernel
theorem f50_16 : fr 50 16 = some (.ifCond .eq 48, 3, [], [2]) := by decide +kernel
theorem f50_19 : fr 50 19 = some (.iconst 10, 2, [], []) := by decide +kernel
theorem f50_21 : fr 50 21 = some (.iload 1, 1, [1], []) := by decide +kernel
theorem f50_22 : fr 50 22 = some (.imul, 1, [], []) := by decide +kernel
theorem f50_23 : fr 50 23 = some (.aload 0, 1, [], []) := by decide +kernel
theorem f50_24 : fr 50 24 = some (.invokevirtual 46, 3, [], []) := by decide +kernel
theorem f50_27 : fr 50 27 = some (.iadd, 1, [], []) := by decide +kernel
theorem f50_28 : fr 50 28 = some (.iconst 48, 2, [], []) := by decide +kernel
theorem f50_30 : fr 50 30 = some (.isub, 1, [], []) := by decide +kernel
theorem f50_31 : fr 50 31 = some (.istore 1, 1, [], []) := by decide +kernel
theorem f50_32 : fr 50 32 = some (.aload 0, 1, [], []) := by decide +kernel
theorem f50_33 : fr 50 33 = some (.dup, 1, [], []) := by decide +kernel
theorem f50_34 : fr 50 34 = some (.getfield 4004, 3, [], []) := by decide +kernel
theorem f50_37 : fr 50 37 = some (.iconst 1, 1, [], []) := by decide +kernel
theorem f50_38 : fr 50 38 = some (.iadd, 1, [], []) := by decide +kernel
theorem f50_39 : fr 50 39 = some (.putfield 4004, 3, [], []) := by decide +kernel
theorem f50_42 : fr 50 42 = some (.iinc 2 1, 3, [], []) := by decide +kernel
theorem f50_45 : fr 50 45 = some (.goto 4, 3, [], []) := by decide +kernel
theorem f50_48 : fr 50 48 = some (.aload 0, 1, [0], []) := by decide +kernel
theorem f50_49 : fr 50 49 = some (.iload 1, 1, [1], []) := by decide +kernel
theorem f50_50 : fr 50 50 = some (.invokevirtual 48, 3, [], []) := by decide +kernel
theorem f50_53 : fr 50 53 = some (.return_, 1, [], []) := by decide +kernel
theorem t50_0 {X : XX} {d : Nat} {sz sl : Nat} {sh : Nat → Nat × Nat} {R : Nat → Nat → Option Nat} {I : Nat → Nat → Int32} {J : Nat → Nat → Int64}  : exe X d 50 0 [Value.ref 2, dm, dm] [] (sz, sl, sh, R, I, J) =
    exe X d 50 4 [Value.ref 2, Value.int (0), Value.int (0)] [] (sz, sl, sh, R, I, J) :=
  tq ((E_iconst (x := (0)) (by decide) f50_0)) (tq ((E_istore rfl f50_1)) (tq ((E_iconst (x := (0)) (by decide) f50_2)) ((E_istore rfl f50_3))))
theorem t50_4 {X : XX} {d : Nat} {sz sl : Nat} {sh : Nat → Nat × Nat} {R : Nat → Nat → Option Nat} {I : Nat → Nat → Int32} {J : Nat → Nat → Int64} (hS : SF sh R) {l1 : Int32} {l2 : Int32} : exe X d 50 4 [Value.ref 2, Value.int l1, Value.int l2] [] (sz, sl, sh, R, I, J) =
    (if (4) ≤ l2 then ((ev X d 48 [Value.ref 2, Value.int l1] (sz, sl, sh, R, I, J)).bind fun q => exe X d 50 53 [dm, dm, dm] (q.1.toList ++ []) q.2) else ((ev X d 46 [Value.ref 2] (sz, sl, sh, R, I, J)).bind fun q => exe X d 50 13 [Value.ref 2, Value.int l1, Value.int l2] (q.1.toList ++ []) q.2)) :=
  tq ((E_iload (x := l2) rfl f50_4)) (tq ((E_iconst (x := (4)) (by decide) f50_5)) (tq ((E_ic_ge f50_6)) (ite_c (tq ((E_aload (v := Value.ref 2) rfl rfl f50_48)) (tq ((E_iload (x := l1) rfl f50_49)) ((tq ((E_callV pn_48 pc_48 rfl rfl (Nat.le_of_ble_eq_true rfl) f50_50)) (if_pos (zS2 hS)))))) (tq ((E_aload (v := Value.ref 2) rfl rfl f50_9)) ((tq ((E_callV pn_46 pc_46 rfl rfl (Nat.le_of_ble_eq_true rfl) f50_10)) (if_pos (zS2 hS))))))))
theorem t50_13 {X : XX} {d : Nat} {sz sl : Nat} {sh : Nat → Nat × Nat} {R : Nat → Nat → Option Nat} {I : Nat → Nat → Int32} {J : Nat → Nat → Int64} {l1 : Int32} {l2 : Int32} {s0 : Int32} : exe X d 50 13 [Value.ref 2, Value.int l1, Value.int l2] [Value.int s0] (sz, sl, sh, R, I, J) =
    ((ev X d 49 [Value.int s0] (sz, sl, sh, R, I, J)).bind fun q => exe X d 50 16 [Value.ref 2, Value.int l1, Value.int l2] (q.1.toList ++ []) q.2) :=
  (E_callS pn_49 rfl rfl (Nat.le_of_ble_eq_true rfl) (Nat.le_of_ble_eq_true rfl) f50_13)
theorem t50_16 {X : XX} {d : Nat} {sz sl : Nat} {sh : Nat → Nat × Nat} {R : Nat → Nat → Option Nat} {I : Nat → Nat → Int32} {J : Nat → Nat → Int64} (hS : SF sh R) {l1 : Int32} {l2 : Int32} {s0 : Int32} : exe X d 50 16 [Value.ref 2, Value.int l1, Value.int l2] [Value.int s0] (sz, sl, sh, R, I, J) =
    (if s0 = 0 then ((ev X d 48 [Value.ref 2, Value.int l1] (sz, sl, sh, R, I, J)).bind fun q => exe X d 50 53 [dm, dm, dm] (q.1.toList ++ []) q.2) else ((ev X d 46 [Value.ref 2] (sz, sl, sh, R, I, J)).bind fun q => exe X d 50 27 [Value.ref 2, dm, Value.int l2] (q.1.toList ++ [Value.int ((10) * l1)]) q.2)) :=
  tq ((E_if_eq f50_16)) (ite_c (tq ((E_aload (v := Value.ref 2) rfl rfl f50_48)) (tq ((E_iload (x := l1) rfl f50_49)) ((tq ((E_callV pn_48 pc_48 rfl rfl (Nat.le_of_ble_eq_true rfl) f50_50)) (if_pos (zS2 hS)))))) (tq ((E_iconst (x := (10)) (by decide) f50_19)) (tq ((E_iload (x := l1) rfl f50_21)) (tq ((E_imul f50_22)) (tq ((E_aload (v := Value.ref 2) rfl rfl f50_23)) ((tq ((E_callV pn_46 pc_46 rfl rfl (Nat.le_of_ble_eq_true rfl) f50_24)) (if_pos (zS2 hS)))))))))
theorem t50_27 {X : XX} {d : Nat} {sz sl : Nat} {sh : Nat → Nat × Nat} {R : Nat → Nat → Option Nat} {I : Nat → Nat → Int32} {J : Nat → Nat → Int64} (hS : SF sh R) {l2 : Int32} {s0 : Int32} {s1 : Int32} : exe X d 50 27 [Value.ref 2, dm, Value.int l2] [Value.int s0, Value.int s1] (sz, sl, sh, R, I, J) =
    exe X d 50 4 [Value.ref 2, Value.int ((s1 + s0) - (48)), Value.int (l2 + (1))] [] (sz, sl, sh, R, (u2 I 2 4 ((I 2 4) + (1))), J) :=
  tq ((E_iadd f50_27)) (tq ((E_iconst (x := (48)) (by decide) f50_28)) (tq ((E_isub f50_30)) (tq ((E_istore rfl f50_31)) (tq ((E_aload (v := Value.ref 2) rfl rfl f50_32)) (tq ((E_dup rfl f50_33)) (tq (tq ((G4004 f50_34)) (if_pos (zS2 hS))) (tq ((E_iconst (x := (1)) (by decide) f50_37)) (tq ((E_iadd f50_38)) (tq (tq ((P4004 f50_39)) (if_pos (zS2 hS))) (tq ((E_iinc (x := l2) (x' := (1)) rfl rfl (by decide) f50_42)) ((E_goto f50_45))))))))))))
theorem t50_53 {X : XX} {d : Nat} {sz sl : Nat} {sh : Nat → Nat × Nat} {R : Nat → Nat → Option Nat} {I : Nat → Nat → Int32} {J : Nat → Nat → Int64}  : exe X d 50 53 [dm, dm, dm] [] (sz, sl, sh, R, I, J) =
    some (none, (sz, sl, sh, R, I, J)) :=
  (E_vret pr_50 f50_53)
theorem n50 {X : XX} {d : Nat} {h : HP}  : ev X (d + 1) 50 [Value.ref 2] h = exe X d 50 0 [Value.ref 2, dm, dm] [] h := ev_exe (Nat.le_of_ble_eq_true rfl)
theorem f51_0 : fr 51 0 = some (.aload 0, 1, [], []) := by decide +kernel
theorem f51_1 : fr 51 1 = some (.iconst 0, 1, [], []) := by decide +kernel
theorem f51_2 : fr 51 2 = some (.iload 1, 1, [1], []) := by decide +kernel
theorem f51_3 : fr 51 3 = some (.invokevirtual 44, 3, [], []) := by decide +kernel
theorem f51_6 : fr 51 6 = some (.ifCond .eq 18, 3, [], [0]) := by decide +kernel
theorem f51_9 : fr 51 9 = some (.aload 0, 1, [], []) := by decide +kernel
theorem f51_10 : fr 51 10 = some (.invokevirtual 46, 3, [], []) := by decide +kernel
theorem f51_13 : fr 51 13 = some (.iconst 41, 2, [], []) := by decide +kernel
theorem f51_15 : fr 51 15 = some (.if_icmp .eq 20, 3, [0], []) := by decide +kernel
theorem f51_18 : fr 51 18 = some (.iconst 0, 1, [], []) := by decide +kernel
theorem f51_19 : fr 51 19 = some (.ireturn, 1, [], []) := by decide +kernel
theorem f51_20 : fr 51 20 = some (.aload 0, 1, [0], []) := by decide +kernel
theorem f51_21 : fr 51 21 = some (.dup, 1, [], []) := by decide +kernel
theorem f51_22 : fr 51 22 = some (.getfield 4004, 3, [], []) := by decide +kernel
theorem f51_25 : fr 51 25 = some (.iconst 1, 1, [], []) := by decide +kernel
theorem f51_26 : fr 51 26 = some (.iadd, 1, [], []) := by decide +kernel
theorem f51_27 : fr 51 27 = some (.putfield 4004, 3, [], []) := by decide +kernel
theorem f51_30 : fr 51 30 = some (.iconst 1, 1, [], []) := by decide +kernel
theorem f51_31 : fr 51 31 = some (.ireturn, 1, [], []) := by decide +kernel
theorem t51_0 {X : XX} {d : Nat} {sz sl : Nat} {sh : Nat → Nat × Nat} {R : Nat → Nat → Option Nat} {I : Nat → Nat → Int32} {J : Nat → Nat → Int64} (hS : SF sh R) {l1 : Int32} : exe X d 51 0 [Value.ref 2, Value.int l1] [] (sz, sl, sh, R, I, J) =
    ((ev X d 44 [Value.ref 2, Value.int (0), Value.int l1] (sz, sl, sh, R, I, J)).bind fun q => exe X d 51 6 [Value.ref 2, dm] (q.1.toList ++ []) q.2) :=
  tq ((E_aload (v := Value.ref 2) rfl rfl f51_0)) (tq ((E_iconst (x := (0)) (by decide) f51_1)) (tq ((E_iload (x := l1) rfl f51_2)) ((tq ((E_callV pn_44 pc_44 rfl rfl (Nat.le_of_ble_eq_true rfl) f51_3)) (if_pos (zS2 hS))))))
theorem t51_6 {X : XX} {d : Nat} {sz sl : Nat} {sh : Nat → Nat × Nat} {R : Nat → Nat → Option Nat} {I : Nat → Nat → Int32} {J : Nat → Nat → Int64} (hS : SF sh R) {s0 : Int32} : exe X d 51 6 [Value.ref 2, dm] [Value.int s0] (sz, sl, sh, R, I, J) =
    (if s0 = 0 then some (some (Value.int (0)), (sz, sl, sh, R, I, J)) else ((ev X d 46 [Value.ref 2] (sz, sl, sh, R, I, J)).bind fun q => exe X d 51 13 [Value.ref 2, dm] (q.1.toList ++ []) q.2)) :=
  tq ((E_if_eq f51_6)) (ite_c (tq ((E_iconst (x := (0)) (by decide) f51_18)) (tq (E_zret pr_51 f51_19) (if_pos (by decide)))) (tq ((E_aload (v := Value.ref 2) rfl rfl f51_9)) ((tq ((E_callV pn_46 pc_46 rfl rfl (Nat.le_of_ble_eq_true rfl) f51_10)) (if_pos (zS2 hS))))))
theorem t51_13 {X : XX} {d : Nat} {sz sl : Nat} {sh : Nat → Nat × Nat} {R : Nat → Nat → Option Nat} {I : Nat → Nat → Int32} {J : Nat → Nat → Int64} (hS : SF sh R) {s0 : Int32} : exe X d 51 13 [Value.ref 2, dm] [Value.int s0] (sz, sl, sh, R, I, J) =
    (if s0 = (41) then some (some (Value.int (1)), (sz, sl, sh, R, (u2 I 2 4 ((I 2 4) + (1))), J)) else some (some (Value.int (0)), (sz, sl, sh, R, I, J))) :=
  tq ((E_iconst (x := (41)) (by decide) f51_13)) (tq ((E_ic_eq f51_15)) (ite_c (tq ((E_aload (v := Value.ref 2) rfl rfl f51_20)) (tq ((E_dup rfl f51_21)) (tq (tq ((G4004 f51_22)) (if_pos (zS2 hS))) (tq ((E_iconst (x := (1)) (by decide) f51_25)) (tq ((E_iadd f51_26)) (tq (tq ((P4004 f51_27)) (if_pos (zS2 hS))) (tq ((E_iconst (x := (1)) (by decide) f51_30)) (tq (E_zret pr_51 f51_31) (if_pos (by decide)))))))))) (tq ((E_iconst (x := (0)) (by decide) f51_18)) (tq (E_zret pr_51 f51_19) (if_pos (by decide))))))
theorem n51 {X : XX} {d : Nat} {h : HP} {a0 : Int32} : ev X (d + 1) 51 [Value.ref 2, Value.int a0] h = exe X d 51 0 [Value.ref 2, Value.int a0] [] h := ev_exe (Nat.le_of_ble_eq_true rfl)
theorem f52_0 : fr 52 0 = some (.aload 0, 1, [], []) := by decide +kernel
theorem f52_1 : fr 52 1 = some (.iload 1, 1, [1], []) := by decide +kernel
theorem f52_2 : fr 52 2 = some (.invokevirtual 45, 3, [], []) := by decide +kernel
theorem f52_5 : fr 52 5 = some (.ifCond .ne 10, 3, [0], []) := by decide +kernel
theorem f52_8 : fr 52 8 = some (.iconst 0, 1, [], []) := by decide +kernel
theorem f52_9 : fr 52 9 = some (.ireturn, 1, [], []) := by decide +kernel
theorem f52_10 : fr 52 10 = some (.aload 0, 1, [], []) := by decide +kernel
theorem f52_11 : fr 52 11 = some (.iconst 0, 1, [], []) := by decide +kernel
theorem f52_12 : fr 52 12 = some (.invokevirtual 48, 3, [], []) := by decide +kernel
theorem f52_15 : fr 52 15 = some (.aload 0, 1, [0], []) := by decide +kernel
theorem f52_16 : fr 52 16 = some (.iconst 20061, 3, [], []) := by decide +kernel
theorem f52_19 : fr 52 19 = some (.invokevirtual 48, 3, [], []) := by decide +kernel
theorem f52_22 : fr 52 22 = some (.iconst 1, 1, [], []) := by decide +kernel
theorem f52_23 : fr 52 23 = some (.ireturn, 1, [], []) := by decide +kernel
theorem t52_0 {X : XX} {d : Nat} {sz sl : Nat} {sh : Nat → Nat × Nat} {R : Nat → Nat → Option Nat} {I : Nat → Nat → Int32} {J : Nat → Nat → Int64} (hS : SF sh R) {l1 : Int32} : exe X d 52 0 [Value.ref 2, Value.int l1] [] (sz, sl, sh, R, I, J) =
    ((ev X d 45 [Value.ref 2, Value.int l1] (sz, sl, sh, R, I, J)).bind fun q => exe X d 52 5 [Value.ref 2, dm] (q.1.toList ++ []) q.2) :=
  tq ((E_aload (v := Value.ref 2) rfl rfl f52_0)) (tq ((E_iload (x := l1) rfl f52_1)) ((tq ((E_callV pn_45 pc_45 rfl rfl (Nat.le_of_ble_eq_true rfl) f52_2)) (if_pos (zS2 hS)))))
theorem t52_5 {X : XX} {d : Nat} {sz sl : Nat} {sh : Nat → Nat × Nat} {R : Nat → Nat → Option Nat} {I : Nat → Nat → Int32} {J : Nat → Nat → Int64} (hS : SF sh R) {s0 : Int32} : exe X d 52 5 [Value.ref 2, dm] [Value.int s0] (sz, sl, sh, R, I, J) =
    (if ¬ s0 = 0 then ((ev X d 48 [Value.ref 2, Value.int (0)] (sz, sl, sh, R, I, J)).bind fun q => exe X d 52 15 [Value.ref 2, dm] (q.1.toList ++ []) q.2) else some (some (Value.int (0)), (sz, sl, sh, R, I, J))) :=
  tq ((E_if_ne f52_5)) (ite_c (tq ((E_aload (v := Value.ref 2) rfl rfl f52_10)) (tq ((E_iconst (x := (0)) (by decide) f52_11)) ((tq ((E_callV pn_48 pc_48 rfl rfl (Nat.le_of_ble_eq_true rfl) f52_12)) (if_pos (zS2 hS)))))) (tq ((E_iconst (x := (0)) (by decide) f52_8)) (tq (E_zret pr_52 f52_9) (if_pos (by decide)))))
theorem t52_15 {X : XX} {d : Nat} {sz sl : Nat} {sh : Nat → Nat × Nat} {R : Nat → Nat → Option Nat} {I : Nat → Nat → Int32} {J : Nat → Nat → Int64} (hS : SF sh R)  : exe X d 52 15 [Value.ref 2, dm] [] (sz, sl, sh, R, I, J) =
    ((ev X d 48 [Value.ref 2, Value.int (20061)] (sz, sl, sh, R, I, J)).bind fun q => exe X d 52 22 [dm, dm] (q.1.toList ++ []) q.2) :=
  tq ((E_aload (v := Value.ref 2) rfl rfl f52_15)) (tq ((E_iconst (x := (20061)) (by decide) f52_16)) ((tq ((E_callV pn_48 pc_48 rfl rfl (Nat.le_of_ble_eq_true rfl) f52_19)) (if_pos (zS2 hS)))))
theorem t52_22 {X : XX} {d : Nat} {sz sl : Nat} {sh : Nat → Nat × Nat} {R : Nat → Nat → Option Nat} {I : Nat → Nat → Int32} {J : Nat → Nat → Int64}  : exe X d 52 22 [dm, dm] [] (sz, sl, sh, R, I, J) =
    some (some (Value.int (1)), (sz, sl, sh, R, I, J)) :=
  tq ((E_iconst (x := (1)) (by decide) f52_22)) (tq (E_zret pr_52 f52_23) (if_pos (by decide)))
theorem n52 {X : XX} {d : Nat} {h : HP} {a0 : Int32} : ev X (d + 1) 52 [Value.ref 2, Value.int a0] h = exe X d 52 0 [Value.ref 2, Value.int a0] [] h := ev_exe (Nat.le_of_ble_eq_true rfl)
theorem f53_0 : fr 53 0 = some (.aload 0, 1, [], []) := by decide +kernel
theorem f53_1 : fr 53 1 = some (.iconst 0, 1, [], []) := by decide +kernel
theorem f53_2 : fr 53 2 = some (.invokevirtual 48, 3, [], []) := by decide +kernel
theorem f53_5 : fr 53 5 = some (.aload 0, 1, [], []) := by decide +kernel
theorem f53_6 : fr 53 6 = some (.iload 1, 1, [1], []) := by decide +kernel
theorem f53_7 : fr 53 7 = some (.invokevirtual 45, 3, [], []) := by decide +kernel
theorem f53_10 : fr 53 10 = some (.ifCond .ne 15, 3, [0], []) := by decide +kernel
theorem f53_13 : fr 53 13 = some (.iconst 0, 1, [], []) := by decide +kernel
theorem f53_14 : fr 53 14 = some (.ireturn, 1, [], []) := by decide +kernel
theorem f53_15 : fr 53 15 = some (.aload 0, 1, [0], []) := by decide +kernel
theorem f53_16 : fr 53 16 = some (.iconst 20045, 3, [], []) := by decide +kernel
theorem f53_19 : fr 53 19 = some (.invokevirtual 48, 3, [], []) := by decide +kernel
theorem f53_22 : fr 53 22 = some (.iconst 1, 1, [], []) := by decide +kernel
theorem f53_23 : fr 53 23 = some (.ireturn, 1, [], []) := by decide +kernel
theorem t53_0 {X : XX} {d : Nat} {sz sl : Nat} {sh : Nat → Nat × Nat} {R : Nat → Nat → Option Nat} {I : Nat → Nat → Int32} {J : Nat → Nat → Int64} (hS : SF sh R) {l1 : Int32} : exe X d 53 0 [Value.ref 2, Value.int l1] [] (sz, sl, sh, R, I, J) =
    ((ev X d 48 [Value.ref 2, Value.int (0)] (sz, sl, sh, R, I, J)).bind fun q => exe X d 53 5 [Value.ref 2, Value.int l1] (q.1.toList ++ []) q.2) :=
  tq ((E_aload (v := Value.ref 2) rfl rfl f53_0)) (tq ((E_iconst (x := (0)) (by decide) f53_1)) ((tq ((E_callV pn_48 pc_48 rfl rfl (Nat.le_of_ble_eq_true rfl) f53_2)) (if_pos (zS2 hS)))))
theorem t53_5 {X : XX} {d : Nat} {sz sl : Nat} {sh : Nat → Nat × Nat} {R : Nat → Nat → Option Nat} {I : Nat → Nat → Int32} {J : Nat → Nat → Int64} (hS : SF sh R) {l1 : Int32} : exe X d 53 5 [Value.ref 2, Value.int l1] [] (sz, sl, sh, R, I, J) =
    ((ev X d 45 [Value.ref 2, Value.int l1] (sz, sl, sh, R, I, J)).bind fun q => exe X d 53 10 [Value.ref 2, dm] (q.1.toList ++ []) q.2) :=
  tq ((E_aload (v := Value.ref 2) rfl rfl f53_5)) (tq ((E_iload (x := l1) rfl f53_6)) ((tq ((E_callV pn_45 pc_45 rfl rfl (Nat.le_of_ble_eq_true rfl) f53_7)) (if_pos (zS2 hS)))))
theorem t53_10 {X : XX} {d : Nat} {sz sl : Nat} {sh : Nat → Nat × Nat} {R : Nat → Nat → Option Nat} {I : Nat → Nat → Int32} {J : Nat → Nat → Int64} (hS : SF sh R) {s0 : Int32} : exe X d 53 10 [Value.ref 2, dm] [Value.int s0] (sz, sl, sh, R, I, J) =
    (if ¬ s0 = 0 then ((ev X d 48 [Value.ref 2, Value.int (20045)] (sz, sl, sh, R, I, J)).bind fun q => exe X d 53 22 [dm, dm] (q.1.toList ++ []) q.2) else some (some (Value.int (0)), (sz, sl, sh, R, I, J))) :=
  tq ((E_if_ne f53_10)) (ite_c (tq ((E_aload (v := Value.ref 2) rfl rfl f53_15)) (tq ((E_iconst (x := (20045)) (by decide) f53_16)) ((tq ((E_callV pn_48 pc_48 rfl rfl (Nat.le_of_ble_eq_true rfl) f53_19)) (if_pos (zS2 hS)))))) (tq ((E_iconst (x := (0)) (by decide) f53_13)) (tq (E_zret pr_53 f53_14) (if_pos (by decide)))))
theorem t53_22 {X : XX} {d : Nat} {sz sl : Nat} {sh : Nat → Nat × Nat} {R : Nat → Nat → Option Nat} {I : Nat → Nat → Int32} {J : Nat → Nat → Int64}  : exe X d 53 22 [dm, dm] [] (sz, sl, sh, R, I, J) =
    some (some (Value.int (1)), (sz, sl, sh, R, I, J)) :=
  tq ((E_iconst (x := (1)) (by decide) f53_22)) (tq (E_zret pr_53 f53_23) (if_pos (by decide)))
theorem n53 {X : XX} {d : Nat} {h : HP} {a0 : Int32} : ev X (d + 1) 53 [Value.ref 2, Value.int a0] h = exe X d 53 0 [Value.ref 2, Value.int a0] [] h := ev_exe (Nat.le_of_ble_eq_true rfl)
theorem f54_0 : fr 54 0 = some (.iload 0, 1, [0], []) := by decide +kernel
theorem f54_1 : fr 54 1 = some (.lookupswitch 102 #[(37, 100), (38, 94), (42, 100), (43, 98), (45, 98), (47, 100), (60, 96), (61, 96), (62, 96), (124, 92)], 91, [], []) := by decide +kernel
theorem f54_92 : fr 54 92 = some (.iconst 0, 1, [], []) := by decide +kernel
theorem f54_93 : fr 54 93 = some (.ireturn, 1, [], []) := by decide +kernel
theorem f54_94 : fr 54 94 = some (.iconst 1, 1, [], []) := by decide +kernel
theorem f54_95 : fr 54 95 = some (.ireturn, 1, [], []) := by decide +kernel
theorem f54_96 : fr 54 96 = some (.iconst 2, 1, [], []) := by decide +kernel
theorem f54_97 : fr 54 97 = some (.ireturn, 1, [], []) := by decide +kernel
theorem f54_98 : fr 54 98 = some (.iconst 3, 1, [], []) := by decide +kernel
theorem f54_99 : fr 54 99 = some (.ireturn, 1, [], []) := by decide +kernel
theorem f54_100 : fr 54 100 = some (.iconst 4, 1, [], []) := by decide +kernel
theorem f54_101 : fr 54 101 = some (.ireturn, 1, [], []) := by decide +kernel
theorem f54_102 : fr 54 102 = some (.iconst (-1), 1, [], []) := by decide +kernel
theorem f54_103 : fr 54 103 = some (.ireturn, 1, [], []) := by decide +kernel
theorem t54_0 {X : XX} {d : Nat} {sz sl : Nat} {sh : Nat → Nat × Nat} {R : Nat → Nat → Option Nat} {I : Nat → Nat → Int32} {J : Nat → Nat → Int64} {l0 : Int32} : exe X d 54 0 [Value.int l0] [] (sz, sl, sh, R, I, J) =
    (if l0 = (37) then some (some (Value.int (4)), (sz, sl, sh, R, I, J)) else (if l0 = (38) then some (some (Value.int (1)), (sz, sl, sh, R, I, J)) else (if l0 = (42) then some (some (Value.int (4)), (sz, sl, sh, R, I, J)) else (if l0 = (43) then some (some (Value.int (3)), (sz, sl, sh, R, I, J)) else (if l0 = (45) then some (some (Value.int (3)), (sz, sl, sh, R, I, J)) else (if l0 = (47) then some (some (Value.int (4)), (sz, sl, sh, R, I, J)) else (if l0 = (60) then some (some (Value.int (2)), (sz, sl, sh, R, I, J)) else (if l0 = (61) then some (some (Value.int (2)), (sz, sl, sh, R, I, J)) else (if l0 = (62) then some (some (Value.int (2)), (sz, sl, sh, R, I, J)) else (if l0 = (124) then some (some (Value.int (0)), (sz, sl, sh, R, I, J)) else some (some (Value.int (-1)), (sz, sl, sh, R, I, J)))))))))))) :=
  tq ((E_iload (x := l0) rfl f54_0)) (tq ((E_sw f54_1)) (sw_c (by decide) (tq ((E_iconst (x := (4)) (by decide) f54_100)) ((E_iret pr_54 f54_101))) (sw_c (by decide) (tq ((E_iconst (x := (1)) (by decide) f54_94)) ((E_iret pr_54 f54_95))) (sw_c (by decide) (tq ((E_iconst (x := (4)) (by decide) f54_100)) ((E_iret pr_54 f54_101))) (sw_c (by decide) (tq ((E_iconst (x := (3)) (by decide) f54_98)) ((E_iret pr_54 f54_99))) (sw_c (by decide) (tq ((E_iconst (x := (3)) (by decide) f54_98)) ((E_iret pr_54 f54_99))) (sw_c (by decide) (tq ((E_iconst (x := (4)) (by decide) f54_100)) ((E_iret pr_54 f54_101))) (sw_c (by decide) (tq ((E_iconst (x := (2)) (by decide) f54_96)) ((E_iret pr_54 f54_97))) (sw_c (by decide) (tq ((E_iconst (x := (2)) (by decide) f54_96)) ((E_iret pr_54 f54_97))) (sw_c (by decide) (tq ((E_iconst (x := (2)) (by decide) f54_96)) ((E_iret pr_54 f54_97))) (sw_c (by decide) (tq ((E_iconst (x := (0)) (by decide) f54_92)) ((E_iret pr_54 f54_93))) (tq ((E_iconst (x := (-1)) (by decide) f54_102)) ((E_iret pr_54 f54_103))))))))))))))
theorem n54 {X : XX} {d : Nat} {h : HP} {a0 : Int32} : ev X (d + 1) 54 [Value.int a0] h = exe X d 54 0 [Value.int a0] [] h := ev_exe (Nat.le_of_ble_eq_true rfl)
theorem f55_0 : fr 55 0 = some (.aload 0, 1, [], []) := by decide +kernel
theorem f55_1 : fr 55 1 = some (.monitorexit, 3, [], []) := by decide +kernel
theorem f55_4 : fr 55 4 = some (.aload 0, 1, [], []) := by decide +kernel
theorem f55_5 : fr 55 5 = some (.iconst 7, 2, [], []) := by decide +kernel
theorem f55_7 : fr 55 7 = some (.newarray .int, 2, [], []) := by decide +kernel
theorem f55_9 : fr 55 9 = some (.putfield 3002, 3, [], []) := by decide +kernel
theorem f55_12 : fr 55 12 = some (.iconst 0, 1, [], []) := by decide +kernel
theorem f55_13 : fr 55 13 = some (.iload 2, 1, [2], []) := by decide +kernel
theorem f55_14 : fr 55 14 = some (.aload 1, 1, [], []) := by decide +kernel
theorem f55_15 : fr 55 15 = some (.arraylength, 1, [], []) := by decide +kernel
theorem f55_16 : fr 55 16 = some (.fsub, 3, [], []) := by decide +kernel
theorem f55_19 : fr 55 19 = some (.fadd, 3, [], []) := by decide +kernel
theorem f55_22 : fr 55 22 = some (.istore 3, 1, [], []) := by decide +kernel
theorem f55_23 : fr 55 23 = some (.aload 0, 1, [], []) := by decide +kernel
theorem f55_24 : fr 55 24 = some (.iload 3, 1, [], []) := by decide +kernel
theorem f55_25 : fr 55 25 = some (.newarray .int, 2, [], []) := by decide +kernel
theorem f55_27 : fr 55 27 = some (.putfield 3000, 3, [], []) := by decide +kernel
theorem f55_30 : fr 55 30 = some (.aload 0, 1, [], []) := by decide +kernel
theorem f55_31 : fr 55 31 = some (.iload 3, 1, [], []) := by decide +kernel
theorem f55_32 : fr 55 32 = some (.iconst 1, 1, [], []) := by decide +kernel
theorem f55_33 : fr 55 33 = some (.iadd, 1, [], []) := by decide +kernel
theorem f55_34 : fr 55 34 = some (.newarray .int, 2, [], []) := by decide +kernel
theorem f55_36 : fr 55 36 = some (.putfield 3001, 3, [], []) := by decide +kernel
theorem f55_39 : fr 55 39 = some (.aload 1, 1, [1], []) := by decide +kernel
theorem f55_40 : fr 55 40 = some (.iconst 0, 1, [], []) := by decide +kernel
theorem f55_41 : fr 55 41 = some (.aload 0, 1, [0], []) := by decide +kernel
theorem f55_42 : fr 55 42 = some (.getfield 3000, 3, [], []) := by decide +kernel
theorem f55_45 : fr 55 45 = some (.iconst 0, 1, [], []) := by decide +kernel
theorem f55_46 : fr 55 46 = some (.iload 3, 1, [3], []) := by decide +kernel
theorem f55_47 : fr 55 47 = some (.monitorenter, 3, [], []) := by decide +kernel
theorem f55_50 : fr 55 50 = some (.return_, 1, [], []) := by decide +kernel
theorem t55_0 {X : XX} {d : Nat} {sz sl : Nat} {sh : Nat → Nat × Nat} {R : Nat → Nat → Option Nat} {I : Nat → Nat → Int32} {J : Nat → Nat → Int64} {l0 : Nat} (h0 : sh l0 = (10, 0)) {l1 : Nat} {l2 : Int32} : exe X d 55 0 [Value.ref l0, Value.ref l1, Value.int l2, dm] [] (sz, sl, sh, R, I, J) =
    exe X d 55 9 [Value.ref l0, Value.ref l1, Value.int l2, dm] [Value.ref sz, Value.ref l0] ((sz + 1), (sl + 7), (ur sh sz (0, 7)), (ur R sz (fun _ => none)), (ur I sz (fun _ => 0)), (ur J sz (fun _ => 0))) :=
  tq ((E_aload (v := Value.ref l0) rfl rfl f55_0)) (tq ((E_obj (Nat.le_of_ble_eq_true rfl) f55_1)) (tq ((E_aload (v := Value.ref l0) rfl rfl f55_4)) (tq ((E_iconst (x := (7)) (by decide) f55_5)) ((E_newI (m := 7) (by decide) (by decide) (by decide) f55_7)))))
theorem t55_9 {X : XX} {d : Nat} {sz sl : Nat} {sh : Nat → Nat × Nat} {R : Nat → Nat → Option Nat} {I : Nat → Nat → Int32} {J : Nat → Nat → Int64} {l0 : Nat} (h0 : sh l0 = (10, 0)) {l1 : Nat} {l2 : Int32} {s0 : Value} (k0 : isB s0 = true) {s1 : Value} (k1 : isB s1 = true) : exe X d 55 9 [Value.ref l0, Value.ref l1, Value.int l2, dm] [s0, s1] (sz, sl, sh, R, I, J) =
    (rf (s1) fun p1 => (orf (s0) fun q2 => (if sh p1 = (10, 0) then exe X d 55 12 [Value.ref l0, Value.ref l1, Value.int l2, dm] [] (sz, sl, sh, (u2 R p1 2 q2), I, J) else none))) :=
  (P3002 f55_9)
theorem t55_12 {X : XX} {d : Nat} {sz sl : Nat} {sh : Nat → Nat × Nat} {R : Nat → Nat → Option Nat} {I : Nat → Nat → Int32} {J : Nat → Nat → Int64} {l0 : Nat} (h0 : sh l0 = (10, 0)) {l1 : Nat} {l2 : Int32} : exe X d 55 12 [Value.ref l0, Value.ref l1, Value.int l2, dm] [] (sz, sl, sh, R, I, J) =
    (if (sh l1).1 < 7 then (if ¬ (if (0) < (if (Int32.ofNat (sh l1).2) < l2 then (Int32.ofNat (sh l1).2) else l2) then (if (Int32.ofNat (sh l1).2) < l2 then (Int32.ofNat (sh l1).2) else l2) else (0)) < 0 ∧ (if (0) < (if (Int32.ofNat (sh l1).2) < l2 then (Int32.ofNat (sh l1).2) else l2) then (if (Int32.ofNat (sh l1).2) < l2 then (Int32.ofNat (sh l1).2) else l2) else (0)).toNatClampNeg ≤ 60000 then exe X d 55 27 [Value.ref l0, Value.ref l1, dm, Value.int (if (0) < (if (Int32.ofNat (sh l1).2) < l2 then (Int32.ofNat (sh l1).2) else l2) then (if (Int32.ofNat (sh l1).2) < l2 then (Int32.ofNat (sh l1).2) else l2) else (0))] [Value.ref sz, Value.ref l0] ((sz + 1), (sl + (if (0) < (if (Int32.ofNat (sh l1).2) < l2 then (Int32.ofNat (sh l1).2) else l2) then (if (Int32.ofNat (sh l1).2) < l2 then (Int32.ofNat (sh l1).2) else l2) else (0)).toNatClampNeg), (ur sh sz (0, (if (0) < (if (Int32.ofNat (sh l1).2) < l2 then (Int32.ofNat (sh l1).2) else l2) then (if (Int32.ofNat (sh l1).2) < l2 then (Int32.ofNat (sh l1).2) else l2) else (0)).toNatClampNeg)), (ur R sz (fun _ => none)), (ur I sz (fun _ => 0)), (ur J sz (fun _ => 0))) else none) else none) :=
  tq ((E_iconst (x := (0)) (by decide) f55_12)) (tq ((E_iload (x := l2) rfl f55_13)) (tq ((E_aload (v := Value.ref l1) rfl rfl f55_14)) (tq (E_len f55_15) (ite_c (tq ((E_fsub (Nat.le_of_ble_eq_true rfl) f55_16)) (tq ((E_fadd (Nat.le_of_ble_eq_true rfl) f55_19)) (tq ((E_istore rfl f55_22)) (tq ((E_aload (v := Value.ref l0) rfl rfl f55_23)) (tq ((E_iload (x := (if (0) < (if (Int32.ofNat (sh l1).2) < l2 then (Int32.ofNat (sh l1).2) else l2) then (if (Int32.ofNat (sh l1).2) < l2 then (Int32.ofNat (sh l1).2) else l2) else (0))) rfl f55_24)) ((E_newI' f55_25))))))) rfl))))
theorem t55_27 {X : XX} {d : Nat} {sz sl : Nat} {sh : Nat → Nat × Nat} {R : Nat → Nat → Option Nat} {I : Nat → Nat → Int32} {J : Nat → Nat → Int64} {l0 : Nat} (h0 : sh l0 = (10, 0)) {l1 : Nat} {l3 : Int32} {s0 : Value} (k0 : isB s0 = true) {s1 : Value} (k1 : isB s1 = true) : exe X d 55 27 [Value.ref l0, Value.ref l1, dm, Value.int l3] [s0, s1] (sz, sl, sh, R, I, J) =
    (rf (s1) fun p1 => (orf (s0) fun q2 => (if sh p1 = (10, 0) then exe X d 55 30 [Value.ref l0, Value.ref l1, dm, Value.int l3] [] (sz, sl, sh, (u2 R p1 0 q2), I, J) else none))) :=
  (P3000 f55_27)
theorem t55_30 {X : XX} {d : Nat} {sz sl : Nat} {sh : Nat → Nat × Nat} {R : Nat → Nat → Option Nat} {I : Nat → Nat → Int32} {J : Nat → Nat → Int64} {l0 : Nat} (h0 : sh l0 = (10, 0)) {l1 : Nat} {l3 : Int32} : exe X d 55 30 [Value.ref l0, Value.ref l1, dm, Value.int l3] [] (sz, sl, sh, R, I, J) =
    (if ¬ (l3 + (1)) < 0 ∧ (l3 + (1)).toNatClampNeg ≤ 60000 then exe X d 55 36 [Value.ref l0, Value.ref l1, dm, Value.int l3] [Value.ref sz, Value.ref l0] ((sz + 1), (sl + (l3 + (1)).toNatClampNeg), (ur sh sz (0, (l3 + (1)).toNatClampNeg)), (ur R sz (fun _ => none)), (ur I sz (fun _ => 0)), (ur J sz (fun _ => 0))) else none) :=
  tq ((E_aload (v := Value.ref l0) rfl rfl f55_30)) (tq ((E_iload (x := l3) rfl f55_31)) (tq ((E_iconst (x := (1)) (by decide) f55_32)) (tq ((E_iadd f55_33)) ((E_newI' f55_34)))))
theorem t55_36 {X : XX} {d : Nat} {sz sl : Nat} {sh : Nat → Nat × Nat} {R : Nat → Nat → Option Nat} {I : Nat → Nat → Int32} {J : Nat → Nat → Int64} {l0 : Nat} (h0 : sh l0 = (10, 0)) {l1 : Nat} {l3 : Int32} {s0 : Value} (k0 : isB s0 = true) {s1 : Value} (k1 : isB s1 = true) : exe X d 55 36 [Value.ref l0, Value.ref l1, dm, Value.int l3] [s0, s1] (sz, sl, sh, R, I, J) =
    (rf (s1) fun p1 => (orf (s0) fun q2 => (if sh p1 = (10, 0) then exe X d 55 39 [Value.ref l0, Value.ref l1, dm, Value.int l3] [] (sz, sl, sh, (u2 R p1 1 q2), I, J) else none))) :=
  (P3001 f55_36)
theorem t55_39 {X : XX} {d : Nat} {sz sl : Nat} {sh : Nat → Nat × Nat} {R : Nat → Nat → Option Nat} {I : Nat → Nat → Int32} {J : Nat → Nat → Int64} {l0 : Nat} (h0 : sh l0 = (10, 0)) {l1 : Nat} {l3 : Int32} : exe X d 55 39 [Value.ref l0, Value.ref l1, dm, Value.int l3] [] (sz, sl, sh, R, I, J) =
    (rf ((rfv (R l0 0))) fun p1 => rf (Value.ref l1) fun p2 => (if ((¬ ((0) : Int32) < 0 ∧ ¬ ((0) : Int32) < 0 ∧ ¬ (l3 : Int32) < 0) ∧ 0 + l3.toNatClampNeg ≤ (sh p2).2 ∧ 0 + l3.toNatClampNeg ≤ (sh p1).2) then (if (sh p2).1 = 0 ∧ (sh p1).1 = 0 then exe X d 55 50 [dm, dm, dm, dm] [] (sz, sl, sh, R, (ur I p1 (va_cpy (I p2) (I p1) 0 0 l3.toNatClampNeg)), J) else if (sh p2).1 = 1 ∧ (sh p1).1 = 1 then exe X d 55 50 [dm, dm, dm, dm] [] (sz, sl, sh, R, I, (ur J p1 (va_cpy (J p2) (J p1) 0 0 l3.toNatClampNeg))) else none) else none)) :=
  tq ((E_aload (v := Value.ref l1) rfl rfl f55_39)) (tq ((E_iconst (x := (0)) (by decide) f55_40)) (tq ((E_aload (v := Value.ref l0) rfl rfl f55_41)) (tq (tq ((G3000 f55_42)) (if_pos h0)) (tq ((E_iconst (x := (0)) (by decide) f55_45)) (tq ((E_iload (x := l3) rfl f55_46)) ((E_copy (Nat.le_of_ble_eq_true rfl) f55_47)))))))
theorem t55_50 {X : XX} {d : Nat} {sz sl : Nat} {sh : Nat → Nat × Nat} {R : Nat → Nat → Option Nat} {I : Nat → Nat → Int32} {J : Nat → Nat → Int64}  : exe X d 55 50 [dm, dm, dm, dm] [] (sz, sl, sh, R, I, J) =
    some (none, (sz, sl, sh, R, I, J)) :=
  (E_vret pr_55 f55_50)
theorem n55 {X : XX} {d : Nat} {h : HP} {l0 : Nat} {a0 : Nat} {a1 : Int32} : ev X (d + 1) 55 [Value.ref l0, Value.ref a0, Value.int a1] h = exe X d 55 0 [Value.ref l0, Value.ref a0, Value.int a1, dm] [] h := ev_exe (Nat.le_of_ble_eq_true rfl)
theorem f56_0 : fr 56 0 = some (.aload 0, 1, [], []) := by decide +kernel
theorem f56_1 : fr 56 1 = some (.iload 1, 1, [1], []) := by decide +kernel
theorem f56_2 : fr 56 2 = some (.invokevirtual 57, 3, [], []) := by decide +kernel
theorem f56_5 : fr 56 5 = some (.astore 4, 2, [], []) := by decide +kernel
theorem f56_7 : fr 56 7 = some (.aload 0, 1, [0], []) := by decide +kernel
theorem f56_8 : fr 56 8 = some (.iload 2, 1, [], []) := by decide +kernel
theorem f56_9 : fr 56 9 = some (.invokevirtual 18, 3, [], []) := by decide +kernel
theorem f56_12 : fr 56 12 = some (.astore 5, 2, [], []) := by decide +kernel
theorem f56_14 : fr 56 14 = some (.iload 3, 1, [], []) := by decide +kernel
theorem f56_15 : fr 56 15 = some (.iconst 100, 2, [], []) := by decide +kernel
theorem f56_17 : fr 56 17 = some (.idiv, 1, [], []) := by decide +kernel
theorem f56_18 : fr 56 18 = some (.iconst 10, 2, [], []) := by decide +kernel
theorem f56_20 : fr 56 20 = some (.irem, 1, [], []) := by decide +kernel
theorem f56_21 : fr 56 21 = some (.istore 6, 2, [], []) := by decide +kernel
theorem f56_23 : fr 56 23 = some (.iload 3, 1, [], []) := by decide +kernel
theorem f56_24 : fr 56 24 = some (.iconst 10, 2, [], []) := by decide +kernel
theorem f56_26 : fr 56 26 = some (.irem, 1, [], []) := by decide +kernel
theorem f56_27 : fr 56 27 = some (.istore 7, 2, [], []) := by decide +kernel
theorem f56_29 : fr 56 29 = some (.aload 4, 2, [], []) := by decide +kernel
theorem f56_31 : fr 56 31 = some (.ifnull 62, 3, [], [2, 3, 4, 5, 6, 7]) := by decide +kernel
theorem f56_34 : fr 56 34 = some (.aload 5, 2, [], []) := by decide +kernel
theorem f56_36 : fr 56 36 = some (.ifnull 62, 3, [], [2, 3, 4, 5, 6, 7]) := by decide +kernel
theorem f56_39 : fr 56 39 = some (.iload 3, 1, [], []) := by decide +kernel
theorem f56_40 : fr 56 40 = some (.iconst 0, 1, [], []) := by decide +kernel
theorem f56_41 : fr 56 41 = some (.iconst 7999, 3, [], []) := by decide +kernel
theorem f56_44 : fr 56 44 = some (.invokestatic 10, 3, [], []) := by decide +kernel
theorem f56_47 : fr 56 47 = some (.ifCond .eq 62, 3, [], [2, 3, 4, 5, 6, 7]) := by decide +kernel
theorem f56_50 : fr 56 50 = some (.iload 6, 2, [], []) := by decide +kernel
theorem f56_52 : fr 56 52 = some (.iconst 1, 1, [], []) := by decide +kernel
theorem f56_53 : fr 56 53 = some (.if_icmp .gt 62, 3, [], [2, 3, 4, 5, 6, 7]) := by decide +kernel
theorem f56_56 : fr 56 56 = some (.iload 7, 2, [], []) := by decide +kernel
theorem f56_58 : fr 56 58 = some (.iconst 1, 1, [], []) := by decide +kernel
theorem f56_59 : fr 56 59 = some (.if_icmp .le 64, 3, [2, 3, 4, 5, 6, 7], []) := by decide +kernel
theorem f56_62 : fr 56 62 = some (.iconst (-1), 1, [], []) := by decide +kernel
theorem f56_63 : fr 56 63 = some (.ireturn, 1, [], []) := by decide +kernel
theorem f56_64 : fr 56 64 = some (.aload 4, 2, [4], []) := by decide +kernel
theorem f56_66 : fr 56 66 = some (.aload 5, 2, [5], []) := by decide +kernel
theorem f56_68 : fr 56 68 = some (.iload 2, 1, [2], []) := by decide +kernel
theorem f56_69 : fr 56 69 = some (.iconst 10, 2, [], []) := by decide +kernel
theorem f56_71 : fr 56 71 = some (.irem, 1, [], []) := by decide +kernel
theorem f56_72 : fr 56 72 = some (.iload 3, 1, [], []) := by decide +kernel
theorem f56_73 : fr 56 73 = some (.iconst 1000, 3, [], []) := by decide +kernel
theorem f56_76 : fr 56 76 = some (.idiv, 1, [], []) := by decide +kernel
theorem f56_77 : fr 56 77 = some (.iload 6, 2, [6], []) := by decide +kernel
theorem f56_79 : fr 56 79 = some (.iload 3, 1, [3], []) := by decide +kernel
theorem f56_80 : fr 56 80 = some (.iconst 10, 2, [], []) := by decide +kernel
theorem f56_82 : fr 56 82 = some (.idiv, 1, [], []) := by decide +kernel
theorem f56_83 : fr 56 83 = some (.iconst 10, 2, [], []) := by decide +kernel
theorem f56_85 : fr 56 85 = some (.irem, 1, [], []) := by decide +kernel
theorem f56_86 : fr 56 86 = some (.iload 7, 2, [7], []) := by decide +kernel
theorem f56_88 : fr 56 88 = some (.invokevirtual 58, 3, [], []) := by decide +kernel
theorem f56_91 : fr 56 91 = some (.ireturn, 1, [], []) := by decide +kernel
theorem t56_0 {X : XX} {d : Nat} {sz sl : Nat} {sh : Nat → Nat × Nat} {R : Nat → Nat → Option Nat} {I : Nat → Nat → Int32} {J : Nat → Nat → Int64} (hS : SF sh R) {l1 : Int32} {l2 : Int32} {l3 : Int32} : exe X d 56 0 [Value.ref 0, Value.int l1, Value.int l2, Value.int l3, dm, dm, dm, dm] [] (sz, sl, sh, R, I, J) =
    ((ev X d 57 [Value.ref 0, Value.int l1] (sz, sl, sh, R, I, J)).bind fun q => exe X d 56 5 [Value.ref 0, dm, Value.int l2, Value.int l3, dm, dm, dm, dm] (q.1.toList ++ []) q.2) :=
  tq ((E_aload (v := Value.ref 0) rfl rfl f56_0)) (tq ((E_iload (x := l1) rfl f56_1)) ((tq ((E_callV pn_57 pc_57 rfl rfl (Nat.le_of_ble_eq_true rfl) f56_2)) (if_pos (zS0 hS)))))
theorem t56_5 {X : XX} {d : Nat} {sz sl : Nat} {sh : Nat → Nat × Nat} {R : Nat → Nat → Option Nat} {I : Nat → Nat → Int32} {J : Nat → Nat → Int64} (hS : SF sh R) {l2 : Int32} {l3 : Int32} {s0 : Value} (k0 : isB s0 = true) : exe X d 56 5 [Value.ref 0, dm, Value.int l2, Value.int l3, dm, dm, dm, dm] [s0] (sz, sl, sh, R, I, J) =
    ((ev X d 18 [Value.ref 0, Value.int l2] (sz, sl, sh, R, I, J)).bind fun q => exe X d 56 12 [dm, dm, Value.int l2, Value.int l3, s0, dm, dm, dm] (q.1.toList ++ []) q.2) :=
  tq ((E_astore k0 rfl f56_5)) (tq ((E_aload (v := Value.ref 0) rfl rfl f56_7)) (tq ((E_iload (x := l2) rfl f56_8)) ((tq ((E_callV pn_18 pc_18 rfl rfl (Nat.le_of_ble_eq_true rfl) f56_9)) (if_pos (zS0 hS))))))
theorem t56_12 {X : XX} {d : Nat} {sz sl : Nat} {sh : Nat → Nat × Nat} {R : Nat → Nat → Option Nat} {I : Nat → Nat → Int32} {J : Nat → Nat → Int64} {l2 : Int32} {l3 : Int32} {l4 : Value} (h4 : isB l4 = true) {s0 : Value} (k0 : isB s0 = true) : exe X d 56 12 [dm, dm, Value.int l2, Value.int l3, l4, dm, dm, dm] [s0] (sz, sl, sh, R, I, J) =
    (nn (l4) (some (some (Value.int (-1)), (sz, sl, sh, R, I, J))) ((nn (s0) (some (some (Value.int (-1)), (sz, sl, sh, R, I, J))) (((ev X d 10 [Value.int l3, Value.int (0), Value.int (7999)] (sz, sl, sh, R, I, J)).bind fun q => exe X d 56 47 [dm, dm, Value.int l2, Value.int l3, l4, s0, Value.int ((l3 / (100)) - (l3 / (100)) / (10) * (10)), Value.int (l3 - l3 / (10) * (10))] (q.1.toList ++ []) q.2))))) :=
  tq ((E_astore k0 (okS_A (Nat.lt_of_sub_eq_succ rfl) rfl h4) f56_12)) (tq ((E_iload (x := l3) rfl f56_14)) (tq ((E_iconst (x := (100)) (by decide) f56_15)) (tq ((E_idiv (by decide) f56_17)) (tq ((E_iconst (x := (10)) (by decide) f56_18)) (tq ((E_irem (by decide) f56_20)) (tq ((E_istore (okS_A (Nat.lt_of_sub_eq_succ rfl) rfl k0) f56_21)) (tq ((E_iload (x := l3) rfl f56_23)) (tq ((E_iconst (x := (10)) (by decide) f56_24)) (tq ((E_irem (by decide) f56_26)) (tq ((E_istore rfl f56_27)) (tq ((E_aload (v := l4) rfl (isBA h4) f56_29)) (tq ((E_ifnull f56_31)) (nn_c (tq ((E_iconst (x := (-1)) (by decide) f56_62)) ((E_iret pr_56 f56_63))) (tq ((E_aload (v := s0) rfl (isBA k0) f56_34)) (tq ((E_ifnull f56_36)) (nn_c (tq ((E_iconst (x := (-1)) (by decide) f56_62)) ((E_iret pr_56 f56_63))) (tq ((E_iload (x := l3) rfl f56_39)) (tq ((E_iconst (x := (0)) (by decide) f56_40)) (tq ((E_iconst (x := (7999)) (by decide) f56_41)) ((E_callS pn_10 rfl rfl (Nat.le_of_ble_eq_true rfl) (Nat.le_of_ble_eq_true rfl) f56_44)))))))))))))))))))))
theorem t56_47 {X : XX} {d : Nat} {sz sl : Nat} {sh : Nat → Nat × Nat} {R : Nat → Nat → Option Nat} {I : Nat → Nat → Int32} {J : Nat → Nat → Int64} {l2 : Int32} {l3 : Int32} {l4 : Value} (h4 : isB l4 = true) {l5 : Value} (h5 : isB l5 = true) {l6 : Int32} {l7 : Int32} {s0 : Int32} : exe X d 56 47 [dm, dm, Value.int l2, Value.int l3, l4, l5, Value.int l6, Value.int l7] [Value.int s0] (sz, sl, sh, R, I, J) =
    (if s0 = 0 then some (some (Value.int (-1)), (sz, sl, sh, R, I, J)) else (if (1) < l6 then some (some (Value.int (-1)), (sz, sl, sh, R, I, J)) else (if l7 ≤ (1) then (rf (l4) fun p1 => if sh p1 = (10, 0) then ((ev X d 58 [Value.ref p1, l5, Value.int (l2 - l2 / (10) * (10)), Value.int (l3 / (1000)), Value.int l6, Value.int ((l3 / (10)) - (l3 / (10)) / (10) * (10)), Value.int l7] (sz, sl, sh, R, I, J)).bind fun q => exe X d 56 91 [dm, dm, dm, dm, dm, dm, dm, dm] (q.1.toList ++ []) q.2) else none) else some (some (Value.int (-1)), (sz, sl, sh, R, I, J))))) :=
  tq ((E_if_eq f56_47)) (ite_c (tq ((E_iconst (x := (-1)) (by decide) f56_62)) ((E_iret pr_56 f56_63))) (tq ((E_iload (x := l6) rfl f56_50)) (tq ((E_iconst (x := (1)) (by decide) f56_52)) (tq ((E_ic_gt f56_53)) (ite_c (tq ((E_iconst (x := (-1)) (by decide) f56_62)) ((E_iret pr_56 f56_63))) (tq ((E_iload (x := l7) rfl f56_56)) (tq ((E_iconst (x := (1)) (by decide) f56_58)) (tq ((E_ic_le f56_59)) (ite_c (tq ((E_aload (v := l4) rfl (isBA h4) f56_64)) (tq ((E_aload (v := l5) rfl (isBA h5) f56_66)) (tq ((E_iload (x := l2) rfl f56_68)) (tq ((E_iconst (x := (10)) (by decide) f56_69)) (tq ((E_irem (by decide) f56_71)) (tq ((E_iload (x := l3) rfl f56_72)) (tq ((E_iconst (x := (1000)) (by decide) f56_73)) (tq ((E_idiv (by decide) f56_76)) (tq ((E_iload (x := l6) rfl f56_77)) (tq ((E_iload (x := l3) rfl f56_79)) (tq ((E_iconst (x := (10)) (by decide) f56_80)) (tq ((E_idiv (by decide) f56_82)) (tq ((E_iconst (x := (10)) (by decide) f56_83)) (tq ((E_irem (by decide) f56_85)) (tq ((E_iload (x := l7) rfl f56_86)) ((E_callV pn_58 pc_58 rfl rfl (Nat.le_of_ble_eq_true rfl) f56_88))))))))))))))))) (tq ((E_iconst (x := (-1)) (by decide) f56_62)) ((E_iret pr_56 f56_63))))))))))))
theorem t56_91 {X : XX} {d : Nat} {sz sl : Nat} {sh : Nat → Nat × Nat} {R : Nat → Nat → Option Nat} {I : Nat → Nat → Int32} {J : Nat → Nat → Int64} {s0 : Int32} : exe X d 56 91 [dm, dm, dm, dm, dm, dm, dm, dm] [Value.int s0] (sz, sl, sh, R, I, J) =
    some (some (Value.int s0), (sz, sl, sh, R, I, J)) :=
  (E_iret pr_56 f56_91)
theorem n56 {X : XX} {d : Nat} {h : HP} {a0 : Int32} {a1 : Int32} {a2 : Int32} : ev X (d + 1) 56 [Value.ref 0, Value.int a0, Value.int a1, Value.int a2] h = exe X d 56 0 [Value.ref 0, Value.int a0, Value.int a1, Value.int a2, dm, dm, dm, dm] [] h := ev_exe (Nat.le_of_ble_eq_true rfl)
theorem f57_0 : fr 57 0 = some (.iload 1, 1, [], []) := by decide +kernel
theorem f57_1 : fr 57 1 = some (.iconst 0, 1, [], []) := by decide +kernel
theorem f57_2 : fr 57 2 = some (.aload 0, 1, [], []) := by decide +kernel
theorem f57_3 : fr 57 3 = some (.getfield 4, 3, [], []) := by decide +kernel
theorem f57_6 : fr 57 6 = some (.iconst 1, 1, [], []) := by decide +kernel
theorem f57_7 : fr 57 7 = some (.isub, 1, [], []) := by decide +kernel
theorem f57_8 : fr 57 8 = some (.invokestatic 10, 3, [], []) := by decide +kernel
theorem f57_11 : fr 57 11 = some (.ifCond .eq 32, 3, [], [0, 1]) := by decide +kernel
theorem f57_14 : fr 57 14 = some (.iload 1, 1, [], []) := by decide +kernel
theorem f57_15 : fr 57 15 = some (.aload 0, 1, [], []) := by decide +kernel
theorem f57_16 : fr 57 16 = some (.getfield 3, 3, [], []) := by decide +kernel
theorem f57_19 : fr 57 19 = some (.arraylength, 1, [], []) := by decide +kernel
theorem f57_20 : fr 57 20 = some (.if_icmp .ge 32, 3, [], [0, 1]) := by decide +kernel
theorem f57_23 : fr 57 23 = some (.aload 0, 1, [0], []) := by decide +kernel
theorem f57_24 : fr 57 24 = some (.getfield 3, 3, [], []) := by decide +kernel
theorem f57_27 : fr 57 27 = some (.iload 1, 1, [1], []) := by decide +kernel
theorem f57_28 : fr 57 28 = some (.aaload, 1, [], []) := by decide +kernel
theorem f57_29 : fr 57 29 = some (.goto 33, 3, [], []) := by decide +kernel
theorem f57_32 : fr 57 32 = some (.aconst_null, 1, [], []) := by decide +kernel
theorem f57_33 : fr 57 33 = some (.areturn, 1, [], []) := by decide +kernel
theorem t57_0 {X : XX} {d : Nat} {sz sl : Nat} {sh : Nat → Nat × Nat} {R : Nat → Nat → Option Nat} {I : Nat → Nat → Int32} {J : Nat → Nat → Int64} (hS : SF sh R) {l1 : Int32} : exe X d 57 0 [Value.ref 0, Value.int l1] [] (sz, sl, sh, R, I, J) =
    ((ev X d 10 [Value.int l1, Value.int (0), Value.int ((I 0 4) - (1))] (sz, sl, sh, R, I, J)).bind fun q => exe X d 57 11 [Value.ref 0, Value.int l1] (q.1.toList ++ []) q.2) :=
  tq ((E_iload (x := l1) rfl f57_0)) (tq ((E_iconst (x := (0)) (by decide) f57_1)) (tq ((E_aload (v := Value.ref 0) rfl rfl f57_2)) (tq (tq ((G4 f57_3)) (if_pos (zS0 hS))) (tq ((E_iconst (x := (1)) (by decide) f57_6)) (tq ((E_isub f57_7)) ((E_callS pn_10 rfl rfl (Nat.le_of_ble_eq_true rfl) (Nat.le_of_ble_eq_true rfl) f57_8)))))))
theorem t57_11 {X : XX} {d : Nat} {sz sl : Nat} {sh : Nat → Nat × Nat} {R : Nat → Nat → Option Nat} {I : Nat → Nat → Int32} {J : Nat → Nat → Int64} (hS : SF sh R) {l1 : Int32} {s0 : Int32} : exe X d 57 11 [Value.ref 0, Value.int l1] [Value.int s0] (sz, sl, sh, R, I, J) =
    (if s0 = 0 then some (some (Value.null), (sz, sl, sh, R, I, J)) else (if (4) ≤ l1 then some (some (Value.null), (sz, sl, sh, R, I, J)) else (if inb l1 4 then some (some ((rfv (R 5 l1.toNatClampNeg))), (sz, sl, sh, R, I, J)) else none))) :=
  tq ((E_if_eq f57_11)) (ite_c (tq ((E_null f57_32)) (tq (E_aret pr_57 f57_33) (if_pos rfl))) (tq ((E_iload (x := l1) rfl f57_14)) (tq ((E_aload (v := Value.ref 0) rfl rfl f57_15)) (tq (tq ((G3 f57_16)) (if_pos (zS0 hS))) (tq (exe_R (zR0_3 hS)) (tq (tq (E_len f57_19) (ite_len (m := 4) (A := fun m => exe X d 57 20 [Value.ref 0, Value.int l1] (.int (Int32.ofNat m) :: [Value.int l1]) (sz, sl, sh, R, I, J)) (zS5 hS) (by decide))) (tq ((E_ic_ge f57_20)) (ite_c (tq ((E_null f57_32)) (tq (E_aret pr_57 f57_33) (if_pos rfl))) (tq ((E_aload (v := Value.ref 0) rfl rfl f57_23)) (tq (tq ((G3 f57_24)) (if_pos (zS0 hS))) (tq (exe_R (zR0_3 hS)) (tq ((E_iload (x := l1) rfl f57_27)) (tq (tq ((E_aald f57_28)) (ite_aq (zS5 hS) (by decide))) (ite_c (tq ((E_goto f57_29)) (tq (E_aret pr_57 f57_33) (if_pos (isB_rfv _)))) rfl))))))))))))))
theorem n57 {X : XX} {d : Nat} {h : HP} {a0 : Int32} : ev X (d + 1) 57 [Value.ref 0, Value.int a0] h = exe X d 57 0 [Value.ref 0, Value.int a0] [] h := ev_exe (Nat.le_of_ble_eq_true rfl)
theorem f58_0 : fr 58 0 = some (.aload 1, 1, [], []) := by decide +kernel
theorem f58_1 : fr 58 1 = some (.invokevirtual 15, 3, [], []) := by decide +kernel
theorem f58_4 : fr 58 4 = some (.istore 7, 2, [], []) := by decide +kernel
theorem f58_6 : fr 58 6 = some (.iload 2, 1, [], []) := by decide +kernel
theorem f58_7 : fr 58 7 = some (.iload 3, 1, [], []) := by decide +kernel
theorem f58_8 : fr 58 8 = some (.isub, 1, [], []) := by decide +kernel
theorem f58_9 : fr 58 9 = some (.fneg, 3, [], []) := by decide +kernel
theorem f58_12 : fr 58 12 = some (.istore 8, 2, [], []) := by decide +kernel
theorem f58_14 : fr 58 14 = some (.aload 0, 1, [], []) := by decide +kernel
theorem f58_15 : fr 58 15 = some (.aload 1, 1, [], []) := by decide +kernel
theorem f58_16 : fr 58 16 = some (.getfield 8002, 3, [], []) := by decide +kernel
theorem f58_19 : fr 58 19 = some (.aload 1, 1, [], []) := by decide +kernel
theorem f58_20 : fr 58 20 = some (.getfield 8001, 3, [], []) := by decide +kernel
theorem f58_23 : fr 58 23 = some (.iload 7, 2, [], []) := by decide +kernel
theorem f58_25 : fr 58 25 = some (.iload 8, 2, [8], []) := by decide +kernel
theorem f58_27 : fr 58 27 = some (.iload 4, 2, [], []) := by decide +kernel
theorem f58_29 : fr 58 29 = some (.iload 5, 2, [], []) := by decide +kernel
theorem f58_31 : fr 58 31 = some (.iload 6, 2, [], []) := by decide +kernel
theorem f58_33 : fr 58 33 = some (.invokevirtual 59, 3, [], []) := by decide +kernel
theorem f58_36 : fr 58 36 = some (.istore 9, 2, [], []) := by decide +kernel
theorem f58_38 : fr 58 38 = some (.iload 6, 2, [], []) := by decide +kernel
theorem f58_40 : fr 58 40 = some (.ifCond .ne 46, 3, [0, 1, 2, 3, 4, 5, 6, 7], []) := by decide +kernel
theorem f58_43 : fr 58 43 = some (.iload 9, 2, [9], []) := by decide +kernel
theorem f58_45 : fr 58 45 = some (.ireturn, 1, [], []) := by decide +kernel
theorem f58_46 : fr 58 46 = some (.iload 2, 1, [2], []) := by decide +kernel
theorem f58_47 : fr 58 47 = some (.iconst 7, 2, [], []) := by decide +kernel
theorem f58_49 : fr 58 49 = some (.iload 3, 1, [3], []) := by decide +kernel
theorem f58_50 : fr 58 50 = some (.isub, 1, [], []) := by decide +kernel
theorem f58_51 : fr 58 51 = some (.isub, 1, [], []) := by decide +kernel
theorem f58_52 : fr 58 52 = some (.fneg, 3, [], []) := by decide +kernel
theorem f58_55 : fr 58 55 = some (.istore 10, 2, [], []) := by decide +kernel
theorem f58_57 : fr 58 57 = some (.iload 9, 2, [9], []) := by decide +kernel
theorem f58_59 : fr 58 59 = some (.aload 0, 1, [0], []) := by decide +kernel
theorem f58_60 : fr 58 60 = some (.aload 1, 1, [], []) := by decide +kernel
theorem f58_61 : fr 58 61 = some (.getfield 8002, 3, [], []) := by decide +kernel
theorem f58_64 : fr 58 64 = some (.aload 1, 1, [1], []) := by decide +kernel
theorem f58_65 : fr 58 65 = some (.getfield 8001, 3, [], []) := by decide +kernel
theorem f58_68 : fr 58 68 = some (.iload 7, 2, [7], []) := by decide +kernel
theorem f58_70 : fr 58 70 = some (.iload 10, 2, [10], []) := by decide +kernel
theorem f58_72 : fr 58 72 = some (.iload 4, 2, [4], []) := by decide +kernel
theorem f58_74 : fr 58 74 = some (.iload 5, 2, [5], []) := by decide +kernel
theorem f58_76 : fr 58 76 = some (.iload 6, 2, [6], []) := by decide +kernel
theorem f58_78 : fr 58 78 = some (.invokevirtual 59, 3, [], []) := by decide +kernel
theorem f58_81 : fr 58 81 = some (.iadd, 1, [], []) := by decide +kernel
theorem f58_82 : fr 58 82 = some (.ireturn, 1, [], []) := by decide +kernel
theorem t58_0 {X : XX} {d : Nat} {sz sl : Nat} {sh : Nat → Nat × Nat} {R : Nat → Nat → Option Nat} {I : Nat → Nat → Int32} {J : Nat → Nat → Int64} {l0 : Nat} (h0 : sh l0 = (10, 0)) {l1 : Nat} {l2 : Int32} {l3 : Int32} {l4 : Int32} {l5 : Int32} {l6 : Int32} : exe X d 58 0 [Value.ref l0, Value.ref l1, Value.int l2, Value.int l3, Value.int l4, Value.int l5, Value.int l6, dm, dm, dm, dm] [] (sz, sl, sh, R, I, J) =
    (if sh l1 = (15, 0) then ((ev X d 15 [Value.ref l1] (sz, sl, sh, R, I, J)).bind fun q => exe X d 58 4 [Value.ref l0, Value.ref l1, Value.int l2, Value.int l3, Value.int l4, Value.int l5, Value.int l6, dm, dm, dm, dm] (q.1.toList ++ []) q.2) else none) :=
  tq ((E_aload (v := Value.ref l1) rfl rfl f58_0)) (tq ((E_callV pn_15 pc_15 rfl rfl (Nat.le_of_ble_eq_true rfl) f58_1)) rf_ref)
theorem t58_4 {X : XX} {d : Nat} {sz sl : Nat} {sh : Nat → Nat × Nat} {R : Nat → Nat → Option Nat} {I : Nat → Nat → Int32} {J : Nat → Nat → Int64} {l0 : Nat} (h0 : sh l0 = (10, 0)) {l1 : Nat} {l2 : Int32} {l3 : Int32} {l4 : Int32} {l5 : Int32} {l6 : Int32} {s0 : Int32} : exe X d 58 4 [Value.ref l0, Value.ref l1, Value.int l2, Value.int l3, Value.int l4, Value.int l5, Value.int l6, dm, dm, dm, dm] [Value.int s0] (sz, sl, sh, R, I, J) =
    (rf (Value.ref l1) fun p1 => if sh p1 = (15, 0) then (rf (Value.ref l1) fun p2 => if sh p2 = (15, 0) then ((ev X d 59 [Value.ref l0, Value.int (I p1 2), Value.int (I p2 1), Value.int s0, Value.int (if 0 ≤ (l2 - l3) then (l2 - l3) else 0 - (l2 - l3)), Value.int l4, Value.int l5, Value.int l6] (sz, sl, sh, R, I, J)).bind fun q => exe X d 58 36 [Value.ref l0, Value.ref l1, Value.int l2, Value.int l3, Value.int l4, Value.int l5, Value.int l6, Value.int s0, dm, dm, dm] (q.1.toList ++ []) q.2) else none) else none) :=
  tq ((E_istore rfl f58_4)) (tq ((E_iload (x := l2) rfl f58_6)) (tq ((E_iload (x := l3) rfl f58_7)) (tq ((E_isub f58_8)) (tq ((E_fneg (Nat.le_of_ble_eq_true rfl) f58_9)) (tq ((E_istore rfl f58_12)) (tq ((E_aload (v := Value.ref l0) rfl rfl f58_14)) (tq ((E_aload (v := Value.ref l1) rfl rfl f58_15)) (tq ((G8002 f58_16)) (rf_c fun p1 => ite_c (tq ((E_aload (v := Value.ref l1) rfl rfl f58_19)) (tq ((G8001 f58_20)) (rf_c fun p2 => ite_c (tq ((E_iload (x := s0) rfl f58_23)) (tq ((E_iload (x := (if 0 ≤ (l2 - l3) then (l2 - l3) else 0 - (l2 - l3))) rfl f58_25)) (tq ((E_iload (x := l4) rfl f58_27)) (tq ((E_iload (x := l5) rfl f58_29)) (tq ((E_iload (x := l6) rfl f58_31)) ((tq ((E_callV pn_59 pc_59 rfl rfl (Nat.le_of_ble_eq_true rfl) f58_33)) (if_pos h0)))))))) rfl))) rfl)))))))))
theorem t58_36 {X : XX} {d : Nat} {sz sl : Nat} {sh : Nat → Nat × Nat} {R : Nat → Nat → Option Nat} {I : Nat → Nat → Int32} {J : Nat → Nat → Int64} {l0 : Nat} (h0 : sh l0 = (10, 0)) {l1 : Nat} {l2 : Int32} {l3 : Int32} {l4 : Int32} {l5 : Int32} {l6 : Int32} {l7 : Int32} {s0 : Int32} : exe X d 58 36 [Value.ref l0, Value.ref l1, Value.int l2, Value.int l3, Value.int l4, Value.int l5, Value.int l6, Value.int l7, dm, dm, dm] [Value.int s0] (sz, sl, sh, R, I, J) =
    (if ¬ l6 = 0 then (rf (Value.ref l1) fun p1 => if sh p1 = (15, 0) then (rf (Value.ref l1) fun p2 => if sh p2 = (15, 0) then ((ev X d 59 [Value.ref l0, Value.int (I p1 2), Value.int (I p2 1), Value.int l7, Value.int (if 0 ≤ (l2 - ((7) - l3)) then (l2 - ((7) - l3)) else 0 - (l2 - ((7) - l3))), Value.int l4, Value.int l5, Value.int l6] (sz, sl, sh, R, I, J)).bind fun q => exe X d 58 81 [dm, dm, dm, dm, dm, dm, dm, dm, dm, dm, dm] (q.1.toList ++ [Value.int s0]) q.2) else none) else none) else some (some (Value.int s0), (sz, sl, sh, R, I, J))) :=
  tq ((E_istore rfl f58_36)) (tq ((E_iload (x := l6) rfl f58_38)) (tq ((E_if_ne f58_40)) (ite_c (tq ((E_iload (x := l2) rfl f58_46)) (tq ((E_iconst (x := (7)) (by decide) f58_47)) (tq ((E_iload (x := l3) rfl f58_49)) (tq ((E_isub f58_50)) (tq ((E_isub f58_51)) (tq ((E_fneg (Nat.le_of_ble_eq_true rfl) f58_52)) (tq ((E_istore rfl f58_55)) (tq ((E_iload (x := s0) rfl f58_57)) (tq ((E_aload (v := Value.ref l0) rfl rfl f58_59)) (tq ((E_aload (v := Value.ref l1) rfl rfl f58_60)) (tq ((G8002 f58_61)) (rf_c fun p1 => ite_c (tq ((E_aload (v := Value.ref l1) rfl rfl f58_64)) (tq ((G8001 f58_65)) (rf_c fun p2 => ite_c (tq ((E_iload (x := l7) rfl f58_68)) (tq ((E_iload (x := (if 0 ≤ (l2 - ((7) - l3)) then (l2 - ((7) - l3)) else 0 - (l2 - ((7) - l3)))) rfl f58_70)) (tq ((E_iload (x := l4) rfl f58_72)) (tq ((E_iload (x := l5) rfl f58_74)) (tq ((E_iload (x := l6) rfl f58_76)) ((tq ((E_callV pn_59 pc_59 rfl rfl (Nat.le_of_ble_eq_true rfl) f58_78)) (if_pos h0)))))))) rfl))) rfl)))))))))))) (tq ((E_iload (x := s0) rfl f58_43)) ((E_iret pr_58 f58_45))))))
theorem t58_81 {X : XX} {d : Nat} {sz sl : Nat} {sh : Nat → Nat × Nat} {R : Nat → Nat → Option Nat} {I : Nat → Nat → Int32} {J : Nat → Nat → Int64} {s0 : Int32} {s1 : Int32} : exe X d 58 81 [dm, dm, dm, dm, dm, dm, dm, dm, dm, dm, dm] [Value.int s0, Value.int s1] (sz, sl, sh, R, I, J) =
    some (some (Value.int (s1 + s0)), (sz, sl, sh, R, I, J)) :=
  tq ((E_iadd f58_81)) ((E_iret pr_58 f58_82))
theorem n58 {X : XX} {d : Nat} {h : HP} {l0 : Nat} {a0 : Nat} {a1 : Int32} {a2 : Int32} {a3 : Int32} {a4 : Int32} {a5 : Int32} : ev X (d + 1) 58 [Value.ref l0, Value.ref a0, Value.int a1, Value.int a2, Value.int a3, Value.int a4, Value.int a5] h = exe X d 58 0 [Value.ref l0, Value.ref a0, Value.int a1, Value.int a2, Value.int a3, Value.int a4, Value.int a5, dm, dm, dm, dm] [] h := ev_exe (Nat.le_of_ble_eq_true rfl)
theorem f59_0 : fr 59 0 = some (.aload 0, 1, [], []) := by decide +kernel
theorem f59_1 : fr 59 1 = some (.getfield 3002, 3, [], []) := by decide +kernel
theorem f59_4 : fr 59 4 = some (.iconst 0, 1, [], []) := by decide +kernel
theorem f59_5 : fr 59 5 = some (.iload 1, 1, [1], []) := by decide +kernel
theorem f59_6 : fr 59 6 = some (.iastore, 1, [], []) := by decide +kernel
theorem f59_7 : fr 59 7 = some (.aload 0, 1, [], []) := by decide +kernel
theorem f59_8 : fr 59 8 = some (.getfield 3002, 3, [], []) := by decide +kernel
theorem f59_11 : fr 59 11 = some (.iconst 1, 1, [], []) := by decide +kernel
theorem f59_12 : fr 59 12 = some (.iload 2, 1, [2], []) := by decide +kernel
theorem f59_13 : fr 59 13 = some (.iastore, 1, [], []) := by decide +kernel
theorem f59_14 : fr 59 14 = some (.aload 0, 1, [], []) := by decide +kernel
theorem f59_15 : fr 59 15 = some (.getfield 3002, 3, [], []) := by decide +kernel
theorem f59_18 : fr 59 18 = some (.iconst 2, 1, [], []) := by decide +kernel
theorem f59_19 : fr 59 19 = some (.iload 3, 1, [3], []) := by decide +kernel
theorem f59_20 : fr 59 20 = some (.iastore, 1, [], []) := by decide +kernel
theorem f59_21 : fr 59 21 = some (.aload 0, 1, [], []) := by decide +kernel
theorem f59_22 : fr 59 22 = some (.getfield 3002, 3, [], []) := by decide +kernel
theorem f59_25 : fr 59 25 = some (.iconst 3, 1, [], []) := by decide +kernel
theorem f59_26 : fr 59 26 = some (.iload 4, 2, [4], []) := by decide +kernel
theorem f59_28 : fr 59 28 = some (.iastore, 1, [], []) := by decide +kernel
theorem f59_29 : fr 59 29 = some (.aload 0, 1, [], []) := by decide +kernel
theorem f59_30 : fr 59 30 = some (.getfield 3002, 3, [], []) := by decide +kernel
theorem f59_33 : fr 59 33 = some (.iconst 4, 1, [], []) := by decide +kernel
theorem f59_34 : fr 59 34 = some (.iload 5, 2, [5], []) := by decide +kernel
theorem f59_36 : fr 59 36 = some (.iastore, 1, [], []) := by decide +kernel
theorem f59_37 : fr 59 37 = some (.aload 0, 1, [], []) := by decide +kernel
theorem f59_38 : fr 59 38 = some (.getfield 3002, 3, [], []) := by decide +kernel
theorem f59_41 : fr 59 41 = some (.iconst 5, 1, [], []) := by decide +kernel
theorem f59_42 : fr 59 42 = some (.iload 6, 2, [6], []) := by decide +kernel
theorem f59_44 : fr 59 44 = some (.iastore, 1, [], []) := by decide +kernel
theorem f59_45 : fr 59 45 = some (.aload 0, 1, [], []) := by decide +kernel
theorem f59_46 : fr 59 46 = some (.getfield 3002, 3, [], []) := by decide +kernel
theorem f59_49 : fr 59 49 = some (.iconst 6, 2, [], []) := by decide +kernel
theorem f59_51 : fr 59 51 = some (.iload 7, 2, [7], []) := by decide +kernel
theorem f59_53 : fr 59 53 = some (.iastore, 1, [], []) := by decide +kernel
theorem f59_54 : fr 59 54 = some (.iconst 0, 1, [], []) := by decide +kernel
theorem f59_55 : fr 59 55 = some (.istore 8, 2, [], []) := by decide +kernel
theorem f59_57 : fr 59 57 = some (.iconst 1, 1, [], []) := by decide +kernel
theorem f59_58 : fr 59 58 = some (.istore 9, 2, [], []) := by decide +kernel
theorem f59_60 : fr 59 60 = some (.iconst 0, 1, [], []) := by decide +kernel
theorem f59_61 : fr 59 61 = some (.istore 10, 2, [], []) := by decide +kernel
theorem f59_63 : fr 59 63 = some (.iload 10, 2, [], []) := by decide +kernel
theorem f59_65 : fr 59 65 = some (.aload 0, 1, [], []) := by decide +kernel
theorem f59_66 : fr 59 66 = some (.getfield 3000, 3, [], []) := by decide +kernel
theorem f59_69 : fr 59 69 = some (.arraylength, 1, [], []) := by decide +kernel
theorem f59_70 : fr 59 70 = some (.if_icmp .ge 248, 3, [], [0, 8, 9, 10]) := by decide +kernel
theorem f59_73 : fr 59 73 = some (.aload 0, 1, [], []) := by decide +kernel
theorem f59_74 : fr 59 74 = some (.getfield 3000, 3, [], []) := by decide +kernel
theorem f59_77 : fr 59 77 = some (.iload 10, 2, [], []) := by decide +kernel
theorem f59_79 : fr 59 79 = some (.iaload, 1, [], []) := by decide +kernel
theorem f59_80 : fr 59 80 = some (.istore 11, 2, [], []) := by decide +kernel
theorem f59_82 : fr 59 82 = some (.iload 9, 2, [], []) := by decide +kernel
theorem f59_84 : fr 59 84 = some (.ifCond .ne 105, 3, [9], []) := by decide +kernel
theorem f59_87 : fr 59 87 = some (.iload 11, 2, [11], []) := by decide +kernel
theorem f59_89 : fr 59 89 = some (.iconst 20059, 3, [], []) := by decide +kernel
theorem f59_92 : fr 59 92 = some (.if_icmp .ne 99, 3, [], []) := by decide +kernel
theorem f59_95 : fr 59 95 = some (.iconst 1, 1, [], []) := by decide +kernel
theorem f59_96 : fr 59 96 = some (.goto 100, 3, [], []) := by decide +kernel
theorem f59_99 : fr 59 99 = some (.iconst 0, 1, [], []) := by decide +kernel
theorem f59_100 : fr 59 100 = some (.istore 9, 2, [], []) := by decide +kernel
theorem f59_102 : fr 59 102 = some (.goto 242, 3, [], []) := by decide +kernel
theorem f59_105 : fr 59 105 = some (.iload 11, 2, [], []) := by decide +kernel
theorem f59_107 : fr 59 107 = some (.iconst 20000, 3, [], []) := by decide +kernel
theorem f59_110 : fr 59 110 = some (.if_icmp .ge 145, 3, [], []) := by decide +kernel
theorem f59_113 : fr 59 113 = some (.iload 8, 2, [8], []) := by decide +kernel
theorem f59_115 : fr 59 115 = some (.iconst 1, 1, [], []) := by decide +kernel
theorem f59_116 : fr 59 116 = some (.iadd, 1, [], []) := by decide +kernel
theorem f59_117 : fr 59 117 = some (.aload 0, 1, [], []) := by decide +kernel
theorem f59_118 : fr 59 118 = some (.getfield 3001, 3, [], []) := by decide +kernel
theorem f59_121 : fr 59 121 = some (.arraylength, 1, [], []) := by decide +kernel
theorem f59_122 : fr 59 122 = some (.iconst 1, 1, [], []) := by decide +kernel
theorem f59_123 : fr 59 123 = some (.isub, 1, [], []) := by decide +kernel
theorem f59_124 : fr 59 124 = some (.fsub, 3, [], []) := by decide +kernel
theorem f59_127 : fr 59 127 = some (.istore 8, 2, [], []) := by decide +kernel
theorem f59_129 : fr 59 129 = some (.aload 0, 1, [], []) := by decide +kernel
theorem f59_130 : fr 59 130 = some (.getfield 3001, 3, [], []) := by decide +kernel
theorem f59_133 : fr 59 133 = some (.iload 8, 2, [], []) := by decide +kernel
theorem f59_135 : fr 59 135 = some (.aload 0, 1, [], []) := by decide +kernel
theorem f59_136 : fr 59 136 = some (.iload 11, 2, [11], []) := by decide +kernel
theorem f59_138 : fr 59 138 = some (.invokevirtual 60, 3, [], []) := by decide +kernel
theorem f59_141 : fr 59 141 = some (.iastore, 1, [], []) := by decide +kernel
theorem f59_142 : fr 59 142 = some (.goto 242, 3, [], []) := by decide +kernel
theorem f59_145 : fr 59 145 = some (.iload 11, 2, [], []) := by decide +kernel
theorem f59_147 : fr 59 147 = some (.iconst 20063, 3, [], []) := by decide +kernel
theorem f59_150 : fr 59 150 = some (.if_icmp .ne 176, 3, [9, 11], []) := by decide +kernel
theorem f59_153 : fr 59 153 = some (.aload 0, 1, [], []) := by decide +kernel
theorem f59_154 : fr 59 154 = some (.getfield 3001, 3, [], []) := by decide +kernel
theorem f59_157 : fr 59 157 = some (.iload 8, 2, [8], []) := by decide +kernel
theorem f59_159 : fr 59 159 = some (.iaload, 1, [], []) := by decide +kernel
theorem f59_160 : fr 59 160 = some (.ifCond .eq 167, 3, [], []) := by decide +kernel
theorem f59_163 : fr 59 163 = some (.iconst 1, 1, [], []) := by decide +kernel
theorem f59_164 : fr 59 164 = some (.goto 168, 3, [], []) := by decide +kernel
theorem f59_167 : fr 59 167 = some (.iconst 0, 1, [], []) := by decide +kernel
theorem f59_168 : fr 59 168 = some (.istore 9, 2, [], []) := by decide +kernel
theorem f59_170 : fr 59 170 = some (.iconst 0, 1, [], []) := by decide +kernel
theorem f59_171 : fr 59 171 = some (.istore 8, 2, [], []) := by decide +kernel
theorem f59_173 : fr 59 173 = some (.goto 242, 3, [], []) := by decide +kernel
theorem f59_176 : fr 59 176 = some (.iload 11, 2, [], []) := by decide +kernel
theorem f59_178 : fr 59 178 = some (.iconst 20059, 3, [], []) := by decide +kernel
theorem f59_181 : fr 59 181 = some (.if_icmp .ne 202, 3, [9, 10, 11], []) := by decide +kernel
theorem f59_184 : fr 59 184 = some (.iconst 0, 1, [], []) := by decide +kernel
theorem f59_185 : fr 59 185 = some (.iconst 9999, 3, [], []) := by decide +kernel
theorem f59_188 : fr 59 188 = some (.aload 0, 1, [0], []) := by decide +kernel
theorem f59_189 : fr 59 189 = some (.getfield 3001, 3, [], []) := by decide +kernel
theorem f59_192 : fr 59 192 = some (.iload 8, 2, [8], []) := by decide +kernel
theorem f59_194 : fr 59 194 = some (.iaload, 1, [], []) := by decide +kernel
theorem f59_195 : fr 59 195 = some (.fsub, 3, [], []) := by decide +kernel
theorem f59_198 : fr 59 198 = some (.fadd, 3, [], []) := by decide +kernel
theorem f59_201 : fr 59 201 = some (.ireturn, 1, [], []) := by decide +kernel
theorem f59_202 : fr 59 202 = some (.iload 8, 2, [], []) := by decide +kernel
theorem f59_204 : fr 59 204 = some (.ifCond .le 242, 3, [], [11]) := by decide +kernel
theorem f59_207 : fr 59 207 = some (.iinc 8 (-1), 3, [], []) := by decide +kernel
theorem f59_210 : fr 59 210 = some (.aload 0, 1, [], []) := by decide +kernel
theorem f59_211 : fr 59 211 = some (.getfield 3001, 3, [], []) := by decide +kernel
theorem f59_214 : fr 59 214 = some (.iload 8, 2, [], []) := by decide +kernel
theorem f59_216 : fr 59 216 = some (.iload 11, 2, [11], []) := by decide +kernel
theorem f59_218 : fr 59 218 = some (.iconst 20000, 3, [], []) := by decide +kernel
theorem f59_221 : fr 59 221 = some (.isub, 1, [], []) := by decide +kernel
theorem f59_222 : fr 59 222 = some (.aload 0, 1, [], []) := by decide +kernel
theorem f59_223 : fr 59 223 = some (.getfield 3001, 3, [], []) := by decide +kernel
theorem f59_226 : fr 59 226 = some (.iload 8, 2, [], []) := by decide +kernel
theorem f59_228 : fr 59 228 = some (.iaload, 1, [], []) := by decide +kernel
theorem f59_229 : fr 59 229 = some (.aload 0, 1, [], []) := by decide +kernel
theorem f59_230 : fr 59 230 = some (.getfield 3001, 3, [], []) := by decide +kernel
theorem f59_233 : fr 59 233 = some (.iload 8, 2, [], []) := by decide +kernel
theorem f59_235 : fr 59 235 = some (.iconst 1, 1, [], []) := by decide +kernel
theorem f59_236 : fr 59 236 = some (.iadd, 1, [], []) := by decide +kernel
theorem f59_237 : fr 59 237 = some (.iaload, 1, [], []) := by decide +kernel
theorem f59_238 : fr 59 238 = some (.invokestatic 61, 3, [], []) := by decide +kernel
theorem f59_241 : fr 59 241 = some (.iastore, 1, [], []) := by decide +kernel
theorem f59_242 : fr 59 242 = some (.iinc 10 1, 3, [], []) := by decide +kernel
theorem f59_245 : fr 59 245 = some (.goto 63, 3, [], []) := by decide +kernel
theorem f59_248 : fr 59 248 = some (.iconst 0, 1, [], []) := by decide +kernel
theorem f59_249 : fr 59 249 = some (.ireturn, 1, [], []) := by decide +kernel
theorem t59_0 {X : XX} {d : Nat} {sz sl : Nat} {sh : Nat → Nat × Nat} {R : Nat → Nat → Option Nat} {I : Nat → Nat → Int32} {J : Nat → Nat → Int64} {l0 : Nat} (h0 : sh l0 = (10, 0)) {l1 : Int32} {l2 : Int32} {l3 : Int32} {l4 : Int32} {l5 : Int32} {l6 : Int32} {l7 : Int32} : exe X d 59 0 [Value.ref l0, Value.int l1, Value.int l2, Value.int l3, Value.int l4, Value.int l5, Value.int l6, Value.int l7, dm, dm, dm, dm] [] (sz, sl, sh, R, I, J) =
    (rf ((rfv (R l0 2))) fun p1 => (if (sh p1).1 = 0 ∧ inb (0) (sh p1).2 then (rf ((rfv (R l0 2))) fun p2 => (if (sh p2).1 = 0 ∧ inb (1) (sh p2).2 then (rf ((rfv (R l0 2))) fun p3 => (if (sh p3).1 = 0 ∧ inb (2) (sh p3).2 then (rf ((rfv (R l0 2))) fun p4 => (if (sh p4).1 = 0 ∧ inb (3) (sh p4).2 then (rf ((rfv (R l0 2))) fun p5 => (if (sh p5).1 = 0 ∧ inb (4) (sh p5).2 then (rf ((rfv (R l0 2))) fun p6 => (if (sh p6).1 = 0 ∧ inb (5) (sh p6).2 then (rf ((rfv (R l0 2))) fun p7 => (if (sh p7).1 = 0 ∧ inb (6) (sh p7).2 then exe X d 59 63 [Value.ref l0, dm, dm, dm, dm, dm, dm, dm, Value.int (0), Value.int (1), Value.int (0), dm] [] (sz, sl, sh, R, (u2 (u2 (u2 (u2 (u2 (u2 (u2 I p1 0 l1) p2 1 l2) p3 2 l3) p4 3 l4) p5 4 l5) p6 5 l6) p7 6 l7), J) else none)) else none)) else none)) else none)) else none)) else none)) else none)) :=
  tq ((E_aload (v := Value.ref l0) rfl rfl f59_0)) (tq (tq ((G3002 f59_1)) (if_pos h0)) (tq ((E_iconst (x := (0)) (by decide) f59_4)) (tq ((E_iload (x := l1) rfl f59_5)) (tq ((E_iast f59_6)) (rf_c fun p1 => ite_c (tq ((E_aload (v := Value.ref l0) rfl rfl f59_7)) (tq (tq ((G3002 f59_8)) (if_pos h0)) (tq ((E_iconst (x := (1)) (by decide) f59_11)) (tq ((E_iload (x := l2) rfl f59_12)) (tq ((E_iast f59_13)) (rf_c fun p2 => ite_c (tq ((E_aload (v := Value.ref l0) rfl rfl f59_14)) (tq (tq ((G3002 f59_15)) (if_pos h0)) (tq ((E_iconst (x := (2)) (by decide) f59_18)) (tq ((E_iload (x := l3) rfl f59_19)) (tq ((E_iast f59_20)) (rf_c fun p3 => ite_c (tq ((E_aload (v := Value.ref l0) rfl rfl f59_21)) (tq (tq ((G3002 f59_22)) (if_pos h0)) (tq ((E_iconst (x := (3)) (by decide) f59_25)) (tq ((E_iload (x := l4) rfl f59_26)) (tq ((E_iast f59_28)) (rf_c fun p4 => ite_c (tq ((E_aload (v := Value.ref l0) rfl rfl f59_29)) (tq (tq ((G3002 f59_30)) (if_pos h0)) (tq ((E_iconst (x := (4)) (by decide) f59_33)) (tq ((E_iload (x := l5) rfl f59_34)) (tq ((E_iast f59_36)) (rf_c fun p5 => ite_c (tq ((E_aload (v := Value.ref l0) rfl rfl f59_37)) (tq (tq ((G3002 f59_38)) (if_pos h0)) (tq ((E_iconst (x := (5)) (by decide) f59_41)) (tq ((E_iload (x := l6) rfl f59_42)) (tq ((E_iast f59_44)) (rf_c fun p6 => ite_c (tq ((E_aload (v := Value.ref l0) rfl rfl f59_45)) (tq (tq ((G3002 f59_46)) (if_pos h0)) (tq ((E_iconst (x := (6)) (by decide) f59_49)) (tq ((E_iload (x := l7) rfl f59_51)) (tq ((E_iast f59_53)) (rf_c fun p7 => ite_c (tq ((E_iconst (x := (0)) (by decide) f59_54)) (tq ((E_istore rfl f59_55)) (tq ((E_iconst (x := (1)) (by decide) f59_57)) (tq ((E_istore rfl f59_58)) (tq ((E_iconst (x := (0)) (by decide) f59_60)) ((E_istore rfl f59_61))))))) rfl)))))) rfl)))))) rfl)))))) rfl)))))) rfl)))))) rfl)))))) rfl)))))
theorem t59_63 {X : XX} {d : Nat} {sz sl : Nat} {sh : Nat → Nat × Nat} {R : Nat → Nat → Option Nat} {I : Nat → Nat → Int32} {J : Nat → Nat → Int64} {l0 : Nat} (h0 : sh l0 = (10, 0)) {l8 : Int32} {l9 : Int32} {l10 : Int32} : exe X d 59 63 [Value.ref l0, dm, dm, dm, dm, dm, dm, dm, Value.int l8, Value.int l9, Value.int l10, dm] [] (sz, sl, sh, R, I, J) =
    (rf ((rfv (R l0 0))) fun p1 => (if (sh p1).1 < 7 then (if (Int32.ofNat (sh p1).2) ≤ l10 then some (some (Value.int (0)), (sz, sl, sh, R, I, J)) else (rf ((rfv (R l0 0))) fun p2 => (if (sh p2).1 = 0 ∧ inb l10 (sh p2).2 then (if ¬ l9 = 0 then (if (20000) ≤ (I p2 l10.toNatClampNeg) then (if ¬ (I p2 l10.toNatClampNeg) = (20063) then (if ¬ (I p2 l10.toNatClampNeg) = (20059) then (if l8 ≤ 0 then exe X d 59 63 [Value.ref l0, dm, dm, dm, dm, dm, dm, dm, Value.int l8, Value.int l9, Value.int (l10 + (1)), dm] [] (sz, sl, sh, R, I, J) else (rf ((rfv (R l0 1))) fun p3 => (if (sh p3).1 = 0 ∧ inb (l8 + (-1)) (sh p3).2 then (rf ((rfv (R l0 1))) fun p4 => (if (sh p4).1 = 0 ∧ inb ((l8 + (-1)) + (1)) (sh p4).2 then ((ev X d 61 [Value.int ((I p2 l10.toNatClampNeg) - (20000)), Value.int (I p3 (l8 + (-1)).toNatClampNeg), Value.int (I p4 ((l8 + (-1)) + (1)).toNatClampNeg)] (sz, sl, sh, R, I, J)).bind fun q => exe X d 59 241 [Value.ref l0, dm, dm, dm, dm, dm, dm, dm, Value.int (l8 + (-1)), Value.int l9, Value.int l10, dm] (q.1.toList ++ [Value.int (l8 + (-1)), (rfv (R l0 1))]) q.2) else none)) else none))) else (rf ((rfv (R l0 1))) fun p5 => (if (sh p5).1 = 0 ∧ inb l8 (sh p5).2 then some (some (Value.int (if (0) < (if (I p5 l8.toNatClampNeg) < (9999) then (I p5 l8.toNatClampNeg) else (9999)) then (if (I p5 l8.toNatClampNeg) < (9999) then (I p5 l8.toNatClampNeg) else (9999)) else (0))), (sz, sl, sh, R, I, J)) else none))) else (rf ((rfv (R l0 1))) fun p6 => (if (sh p6).1 = 0 ∧ inb l8 (sh p6).2 then (if (I p6 l8.toNatClampNeg) = 0 then exe X d 59 63 [Value.ref l0, dm, dm, dm, dm, dm, dm, dm, Value.int (0), Value.int (0), Value.int (l10 + (1)), dm] [] (sz, sl, sh, R, I, J) else exe X d 59 63 [Value.ref l0, dm, dm, dm, dm, dm, dm, dm, Value.int (0), Value.int (1), Value.int (l10 + (1)), dm] [] (sz, sl, sh, R, I, J)) else none))) else (rf ((rfv (R l0 1))) fun p7 => (if (sh p7).1 < 7 then ((ev X d 60 [Value.ref l0, Value.int (I p2 l10.toNatClampNeg)] (sz, sl, sh, R, I, J)).bind fun q => exe X d 59 141 [Value.ref l0, dm, dm, dm, dm, dm, dm, dm, Value.int (if ((Int32.ofNat (sh p7).2) - (1)) < (l8 + (1)) then ((Int32.ofNat (sh p7).2) - (1)) else (l8 + (1))), Value.int l9, Value.int l10, dm] (q.1.toList ++ [Value.int (if ((Int32.ofNat (sh p7).2) - (1)) < (l8 + (1)) then ((Int32.ofNat (sh p7).2) - (1)) else (l8 + (1))), (rfv (R l0 1))]) q.2) else none))) else (if ¬ (I p2 l10.toNatClampNeg) = (20059) then exe X d 59 63 [Value.ref l0, dm, dm, dm, dm, dm, dm, dm, Value.int l8, Value.int (0), Value.int (l10 + (1)), dm] [] (sz, sl, sh, R, I, J) else exe X d 59 63 [Value.ref l0, dm, dm, dm, dm, dm, dm, dm, Value.int l8, Value.int (1), Value.int (l10 + (1)), dm] [] (sz, sl, sh, R, I, J))) else none))) else none)) :=
  tq ((E_iload (x := l10) rfl f59_63)) (tq ((E_aload (v := Value.ref l0) rfl rfl f59_65)) (tq (tq ((G3000 f59_66)) (if_pos h0)) (tq (E_lenB (isB_rfv _) f59_69) (rf_c fun p1 => ite_c (tq ((E_ic_ge f59_70)) (ite_c (tq ((E_iconst (x := (0)) (by decide) f59_248)) ((E_iret pr_59 f59_249))) (tq ((E_aload (v := Value.ref l0) rfl rfl f59_73)) (tq (tq ((G3000 f59_74)) (if_pos h0)) (tq ((E_iload (x := l10) rfl f59_77)) (tq ((E_ialdB (isB_rfv _) f59_79)) (rf_c fun p2 => ite_c (tq ((E_istore rfl f59_80)) (tq ((E_iload (x := l9) rfl f59_82)) (tq ((E_if_ne f59_84)) (ite_c (tq ((E_iload (x := (I p2 l10.toNatClampNeg)) rfl f59_105)) (tq ((E_iconst (x := (20000)) (by decide) f59_107)) (tq ((E_ic_ge f59_110)) (ite_c (tq ((E_iload (x := (I p2 l10.toNatClampNeg)) rfl f59_145)) (tq ((E_iconst (x := (20063)) (by decide) f59_147)) (tq ((E_ic_ne f59_150)) (ite_c (tq ((E_iload (x := (I p2 l10.toNatClampNeg)) rfl f59_176)) (tq ((E_iconst (x := (20059)) (by decide) f59_178)) (tq ((E_ic_ne f59_181)) (ite_c (tq ((E_iload (x := l8) rfl f59_202)) (tq ((E_if_le f59_204)) (ite_c (tq ((E_iinc (x := l10) (x' := (1)) rfl rfl (by decide) f59_242)) ((E_goto f59_245))) (tq ((E_iinc (x := l8) (x' := (-1)) rfl rfl (by decide) f59_207)) (tq ((E_aload (v := Value.ref l0) rfl rfl f59_210)) (tq (tq ((G3001 f59_211)) (if_pos h0)) (tq ((E_iload (x := (l8 + (-1))) rfl f59_214)) (tq ((E_iload (x := (I p2 l10.toNatClampNeg)) rfl f59_216)) (tq ((E_iconst (x := (20000)) (by decide) f59_218)) (tq ((E_isub f59_221)) (tq ((E_aload (v := Value.ref l0) rfl rfl f59_222)) (tq (tq ((G3001 f59_223)) (if_pos h0)) (tq ((E_iload (x := (l8 + (-1))) rfl f59_226)) (tq ((E_ialdB (isB_rfv _) f59_228)) (rf_c fun p3 => ite_c (tq ((E_aload (v := Value.ref l0) rfl rfl f59_229)) (tq (tq ((G3001 f59_230)) (if_pos h0)) (tq ((E_iload (x := (l8 + (-1))) rfl f59_233)) (tq ((E_iconst (x := (1)) (by decide) f59_235)) (tq ((E_iadd f59_236)) (tq ((E_ialdB (isB_rfv _) f59_237)) (rf_c fun p4 => ite_c ((E_callS pn_61 rfl rfl (Nat.le_of_ble_eq_true rfl) (by simp [cats, cat_i, cat_l, cat_r, catB (isB_rfv _)]) f59_238)) rfl))))))) rfl))))))))))))))) (tq ((E_iconst (x := (0)) (by decide) f59_184)) (tq ((E_iconst (x := (9999)) (by decide) f59_185)) (tq ((E_aload (v := Value.ref l0) rfl rfl f59_188)) (tq (tq ((G3001 f59_189)) (if_pos h0)) (tq ((E_iload (x := l8) rfl f59_192)) (tq ((E_ialdB (isB_rfv _) f59_194)) (rf_c fun p5 => ite_c (tq ((E_fsub (Nat.le_of_ble_eq_true rfl) f59_195)) (tq ((E_fadd (Nat.le_of_ble_eq_true rfl) f59_198)) ((E_iret pr_59 f59_201)))) rfl))))))))))) (tq ((E_aload (v := Value.ref l0) rfl rfl f59_153)) (tq (tq ((G3001 f59_154)) (if_pos h0)) (tq ((E_iload (x := l8) rfl f59_157)) (tq ((E_ialdB (isB_rfv _) f59_159)) (rf_c fun p6 => ite_c (tq ((E_if_eq f59_160)) (ite_c (tq ((E_iconst (x := (0)) (by decide) f59_167)) (tq ((E_istore rfl f59_168)) (tq ((E_iconst (x := (0)) (by decide) f59_170)) (tq ((E_istore rfl f59_171)) (tq ((E_goto f59_173)) (tq ((E_iinc (x := l10) (x' := (1)) rfl rfl (by decide) f59_242)) ((E_goto f59_245)))))))) (tq ((E_iconst (x := (1)) (by decide) f59_163)) (tq ((E_goto f59_164)) (tq ((E_istore rfl f59_168)) (tq ((E_iconst (x := (0)) (by decide) f59_170)) (tq ((E_istore rfl f59_171)) (tq ((E_goto f59_173)) (tq ((E_iinc (x := l10) (x' := (1)) rfl rfl (by decide) f59_242)) ((E_goto f59_245))))))))))) rfl))))))))) (tq ((E_iload (x := l8) rfl f59_113)) (tq ((E_iconst (x := (1)) (by decide) f59_115)) (tq ((E_iadd f59_116)) (tq ((E_aload (v := Value.ref l0) rfl rfl f59_117)) (tq (tq ((G3001 f59_118)) (if_pos h0)) (tq (E_lenB (isB_rfv _) f59_121) (rf_c fun p7 => ite_c (tq ((E_iconst (x := (1)) (by decide) f59_122)) (tq ((E_isub f59_123)) (tq ((E_fsub (Nat.le_of_ble_eq_true rfl) f59_124)) (tq ((E_istore rfl f59_127)) (tq ((E_aload (v := Value.ref l0) rfl rfl f59_129)) (tq (tq ((G3001 f59_130)) (if_pos h0)) (tq ((E_iload (x := (if ((Int32.ofNat (sh p7).2) - (1)) < (l8 + (1)) then ((Int32.ofNat (sh p7).2) - (1)) else (l8 + (1)))) rfl f59_133)) (tq ((E_aload (v := Value.ref l0) rfl rfl f59_135)) (tq ((E_iload (x := (I p2 l10.toNatClampNeg)) rfl f59_136)) ((tq ((E_callV pn_60 pc_60 rfl rfl (by simp [cats, cat_i, cat_l, cat_r, catB (isB_rfv _)]) f59_138)) (if_pos h0)))))))))))) rfl))))))))))) (tq ((E_iload (x := (I p2 l10.toNatClampNeg)) rfl f59_87)) (tq ((E_iconst (x := (20059)) (by decide) f59_89)) (tq ((E_ic_ne f59_92)) (ite_c (tq ((E_iconst (x := (0)) (by decide) f59_99)) (tq ((E_istore rfl f59_100)) (tq ((E_goto f59_102)) (tq ((E_iinc (x := l10) (x' := (1)) rfl rfl (by decide) f59_242)) ((E_goto f59_245)))))) (tq ((E_iconst (x := (1)) (by decide) f59_95)) (tq ((E_goto f59_96)) (tq ((E_istore rfl f59_100)) (tq ((E_goto f59_102)) (tq ((E_iinc (x := l10) (x' := (1)) rfl rfl (by decide) f59_242)) ((E_goto f59_245))))))))))))))) rfl))))))) rfl))))
theorem t59_141 {X : XX} {d : Nat} {sz sl : Nat} {sh : Nat → Nat × Nat} {R : Nat → Nat → Option Nat} {I : Nat → Nat → Int32} {J : Nat → Nat → Int64} {l0 : Nat} (h0 : sh l0 = (10, 0)) {l8 : Int32} {l9 : Int32} {l10 : Int32} {s0 : Int32} {s1 : Int32} {s2 : Value} (k2 : isB s2 = true) : exe X d 59 141 [Value.ref l0, dm, dm, dm, dm, dm, dm, dm, Value.int l8, Value.int l9, Value.int l10, dm] [Value.int s0, Value.int s1, s2] (sz, sl, sh, R, I, J) =
    (rf (s2) fun p1 => (if (sh p1).1 = 0 ∧ inb s1 (sh p1).2 then exe X d 59 63 [Value.ref l0, dm, dm, dm, dm, dm, dm, dm, Value.int l8, Value.int l9, Value.int (l10 + (1)), dm] [] (sz, sl, sh, R, (u2 I p1 s1.toNatClampNeg s0), J) else none)) :=
  tq ((E_iast f59_141)) (rf_c fun p1 => ite_c (tq ((E_goto f59_142)) (tq ((E_iinc (x := l10) (x' := (1)) rfl rfl (by decide) f59_242)) ((E_goto f59_245)))) rfl)
theorem t59_241 {X : XX} {d : Nat} {sz sl : Nat} {sh : Nat → Nat × Nat} {R : Nat → Nat → Option Nat} {I : Nat → Nat → Int32} {J : Nat → Nat → Int64} {l0 : Nat} (h0 : sh l0 = (10, 0)) {l8 : Int32} {l9 : Int32} {l10 : Int32} {s0 : Int32} {s1 : Int32} {s2 : Value} (k2 : isB s2 = true) : exe X d 59 241 [Value.ref l0, dm, dm, dm, dm, dm, dm, dm, Value.int l8, Value.int l9, Value.int l10, dm] [Value.int s0, Value.int s1, s2] (sz, sl, sh, R, I, J) =
    (rf (s2) fun p1 => (if (sh p1).1 = 0 ∧ inb s1 (sh p1).2 then exe X d 59 63 [Value.ref l0, dm, dm, dm, dm, dm, dm, dm, Value.int l8, Value.int l9, Value.int (l10 + (1)), dm] [] (sz, sl, sh, R, (u2 I p1 s1.toNatClampNeg s0), J) else none)) :=
  tq ((E_iast f59_241)) (rf_c fun p1 => ite_c (tq ((E_iinc (x := l10) (x' := (1)) rfl rfl (by decide) f59_242)) ((E_goto f59_245))) rfl)
theorem n59 {X : XX} {d : Nat} {h : HP} {l0 : Nat} {a0 : Int32} {a1 : Int32} {a2 : Int32} {a3 : Int32} {a4 : Int32} {a5 : Int32} {a6 : Int32} : ev X (d + 1) 59 [Value.ref l0, Value.int a0, Value.int a1, Value.int a2, Value.int a3, Value.int a4, Value.int a5, Value.int a6] h = exe X d 59 0 [Value.ref l0, Value.int a0, Value.int a1, Value.int a2, Value.int a3, Value.int a4, Value.int a5, Value.int a6, dm, dm, dm, dm] [] h := ev_exe (Nat.le_of_ble_eq_true rfl)
theorem f60_0 : fr 60 0 = some (.iload 1, 1, [], []) := by decide +kernel
theorem f60_1 : fr 60 1 = some (.iconst 10000, 3, [], []) := by decide +kernel
theorem f60_4 : fr 60 4 = some (.isub, 1, [], []) := by decide +kernel
theorem f60_5 : fr 60 5 = some (.istore 2, 1, [], []) := by decide +kernel
theorem f60_6 : fr 60 6 = some (.iload 2, 1, [], []) := by decide +kernel
theorem f60_7 : fr 60 7 = some (.ifCond .lt 28, 3, [], [0, 2]) := by decide +kernel
theorem f60_10 : fr 60 10 = some (.iload 2, 1, [], []) := by decide +kernel
theorem f60_11 : fr 60 11 = some (.aload 0, 1, [], []) := by decide +kernel
theorem f60_12 : fr 60 12 = some (.getfield 3002, 3, [], []) := by decide +kernel
theorem f60_15 : fr 60 15 = some (.arraylength, 1, [], []) := by decide +kernel
theorem f60_16 : fr 60 16 = some (.if_icmp .ge 28, 3, [1], [0, 2]) := by decide +kernel
theorem f60_19 : fr 60 19 = some (.aload 0, 1, [0], []) := by decide +kernel
theorem f60_20 : fr 60 20 = some (.getfield 3002, 3, [], []) := by decide +kernel
theorem f60_23 : fr 60 23 = some (.iload 2, 1, [2], []) := by decide +kernel
theorem f60_24 : fr 60 24 = some (.iaload, 1, [], []) := by decide +kernel
theorem f60_25 : fr 60 25 = some (.goto 29, 3, [], []) := by decide +kernel
theorem f60_28 : fr 60 28 = some (.iload 1, 1, [1], []) := by decide +kernel
theorem f60_29 : fr 60 29 = some (.ireturn, 1, [], []) := by decide +kernel
theorem t60_0 {X : XX} {d : Nat} {sz sl : Nat} {sh : Nat → Nat × Nat} {R : Nat → Nat → Option Nat} {I : Nat → Nat → Int32} {J : Nat → Nat → Int64} {l0 : Nat} (h0 : sh l0 = (10, 0)) {l1 : Int32} : exe X d 60 0 [Value.ref l0, Value.int l1, dm] [] (sz, sl, sh, R, I, J) =
    (if (l1 - (10000)) < 0 then some (some (Value.int l1), (sz, sl, sh, R, I, J)) else (rf ((rfv (R l0 2))) fun p1 => (if (sh p1).1 < 7 then (if (Int32.ofNat (sh p1).2) ≤ (l1 - (10000)) then some (some (Value.int l1), (sz, sl, sh, R, I, J)) else (rf ((rfv (R l0 2))) fun p2 => (if (sh p2).1 = 0 ∧ inb (l1 - (10000)) (sh p2).2 then some (some (Value.int (I p2 (l1 - (10000)).toNatClampNeg)), (sz, sl, sh, R, I, J)) else none))) else none))) :=
  tq ((E_iload (x := l1) rfl f60_0)) (tq ((E_iconst (x := (10000)) (by decide) f60_1)) (tq ((E_isub f60_4)) (tq ((E_istore rfl f60_5)) (tq ((E_iload (x := (l1 - (10000))) rfl f60_6)) (tq ((E_if_lt f60_7)) (ite_c (tq ((E_iload (x := l1) rfl f60_28)) ((E_iret pr_60 f60_29))) (tq ((E_iload (x := (l1 - (10000))) rfl f60_10)) (tq ((E_aload (v := Value.ref l0) rfl rfl f60_11)) (tq (tq ((G3002 f60_12)) (if_pos h0)) (tq (E_lenB (isB_rfv _) f60_15) (rf_c fun p1 => ite_c (tq ((E_ic_ge f60_16)) (ite_c (tq ((E_iload (x := l1) rfl f60_28)) ((E_iret pr_60 f60_29))) (tq ((E_aload (v := Value.ref l0) rfl rfl f60_19)) (tq (tq ((G3002 f60_20)) (if_pos h0)) (tq ((E_iload (x := (l1 - (10000))) rfl f60_23)) (tq ((E_ialdB (isB_rfv _) f60_24)) (rf_c fun p2 => ite_c (tq ((E_goto f60_25)) ((E_iret pr_60 f60_29))) rfl))))))) rfl)))))))))))
theorem n60 {X : XX} {d : Nat} {h : HP} {l0 : Nat} {a0 : Int32} : ev X (d + 1) 60 [Value.ref l0, Value.int a0] h = exe X d 60 0 [Value.ref l0, Value.int a0, dm] [] h := ev_exe (Nat.le_of_ble_eq_true rfl)
theorem f61_0 : fr 61 0 = some (.iload 0, 1, [0], []) := by decide +kernel
theorem f61_1 : fr 61 1 = some (.lookupswitch 189 #[(37, 177), (38, 106), (42, 161), (43, 153), (45, 157), (47, 165), (60, 120), (61, 131), (62, 142), (124, 92)], 91, [], []) := by decide +kernel
theorem f61_92 : fr 61 92 = some (.iload 1, 1, [1], []) := by decide +kernel
theorem f61_93 : fr 61 93 = some (.ifCond .ne 100, 3, [], [2]) := by decide +kernel
theorem f61_96 : fr 61 96 = some (.iload 2, 1, [2], []) := by decide +kernel
theorem f61_97 : fr 61 97 = some (.ifCond .eq 104, 3, [], []) := by decide +kernel
theorem f61_100 : fr 61 100 = some (.iconst 1, 1, [], []) := by decide +kernel
theorem f61_101 : fr 61 101 = some (.goto 105, 3, [], []) := by decide +kernel
theorem f61_104 : fr 61 104 = some (.iconst 0, 1, [], []) := by decide +kernel
theorem f61_105 : fr 61 105 = some (.ireturn, 1, [], []) := by decide +kernel
theorem f61_106 : fr 61 106 = some (.iload 1, 1, [1], []) := by decide +kernel
theorem f61_107 : fr 61 107 = some (.ifCond .eq 118, 3, [], [2]) := by decide +kernel
theorem f61_110 : fr 61 110 = some (.iload 2, 1, [2], []) := by decide +kernel
theorem f61_111 : fr 61 111 = some (.ifCond .eq 118, 3, [], []) := by decide +kernel
theorem f61_114 : fr 61 114 = some (.iconst 1, 1, [], []) := by decide +kernel
theorem f61_115 : fr 61 115 = some (.goto 119, 3, [], []) := by decide +kernel
theorem f61_118 : fr 61 118 = some (.iconst 0, 1, [], []) := by decide +kernel
theorem f61_119 : fr 61 119 = some (.ireturn, 1, [], []) := by decide +kernel
theorem f61_120 : fr 61 120 = some (.iload 1, 1, [1], []) := by decide +kernel
theorem f61_121 : fr 61 121 = some (.iload 2, 1, [2], []) := by decide +kernel
theorem f61_122 : fr 61 122 = some (.if_icmp .ge 129, 3, [], []) := by decide +kernel
theorem f61_125 : fr 61 125 = some (.iconst 1, 1, [], []) := by decide +kernel
theorem f61_126 : fr 61 126 = some (.goto 130, 3, [], []) := by decide +kernel
theorem f61_129 : fr 61 129 = some (.iconst 0, 1, [], []) := by decide +kernel
theorem f61_130 : fr 61 130 = some (.ireturn, 1, [], []) := by decide +kernel
theorem f61_131 : fr 61 131 = some (.iload 1, 1, [1], []) := by decide +kernel
theorem f61_132 : fr 61 132 = some (.iload 2, 1, [2], []) := by decide +kernel
theorem f61_133 : fr 61 133 = some (.if_icmp .ne 140, 3, [], []) := by decide +kernel
theorem f61_136 : fr 61 136 = some (.iconst 1, 1, [], []) := by decide +kernel
theorem f61_137 : fr 61 137 = some (.goto 141, 3, [], []) := by decide +kernel
theorem f61_140 : fr 61 140 = some (.iconst 0, 1, [], []) := by decide +kernel
theorem f61_141 : fr 61 141 = some (.ireturn, 1, [], []) := by decide +kernel
theorem f61_142 : fr 61 142 = some (.iload 1, 1, [1], []) := by decide +kernel
theorem f61_143 : fr 61 143 = some (.iload 2, 1, [2], []) := by decide +kernel
theorem f61_144 : fr 61 144 = some (.if_icmp .le 151, 3, [], []) := by decide +kernel
theorem f61_147 : fr 61 147 = some (.iconst 1, 1, [], []) := by decide +kernel
theorem f61_148 : fr 61 148 = some (.goto 152, 3, [], []) := by decide +kernel
theorem f61_151 : fr 61 151 = some (.iconst 0, 1, [], []) := by decide +kernel
theorem f61_152 : fr 61 152 = some (.ireturn, 1, [], []) := by decide +kernel
theorem f61_153 : fr 61 153 = some (.iload 1, 1, [1], []) := by decide +kernel
theorem f61_154 : fr 61 154 = some (.iload 2, 1, [2], []) := by decide +kernel
theorem f61_155 : fr 61 155 = some (.iadd, 1, [], []) := by decide +kernel
theorem f61_156 : fr 61 156 = some (.ireturn, 1, [], []) := by decide +kernel
theorem f61_157 : fr 61 157 = some (.iload 1, 1, [1], []) := by decide +kernel
theorem f61_158 : fr 61 158 = some (.iload 2, 1, [2], []) := by decide +kernel
theorem f61_159 : fr 61 159 = some (.isub, 1, [], []) := by decide +kernel
theorem f61_160 : fr 61 160 = some (.ireturn, 1, [], []) := by decide +kernel
theorem f61_161 : fr 61 161 = some (.iload 1, 1, [1], []) := by decide +kernel
theorem f61_162 : fr 61 162 = some (.iload 2, 1, [2], []) := by decide +kernel
theorem f61_163 : fr 61 163 = some (.imul, 1, [], []) := by decide +kernel
theorem f61_164 : fr 61 164 = some (.ireturn, 1, [], []) := by decide +kernel
theorem f61_165 : fr 61 165 = some (.iload 2, 1, [], []) := by decide +kernel
theorem f61_166 : fr 61 166 = some (.ifCond .ne 173, 3, [1, 2], []) := by decide +kernel
theorem f61_169 : fr 61 169 = some (.iconst 0, 1, [], []) := by decide +kernel
theorem f61_170 : fr 61 170 = some (.goto 176, 3, [], []) := by decide +kernel
theorem f61_173 : fr 61 173 = some (.iload 1, 1, [1], []) := by decide +kernel
theorem f61_174 : fr 61 174 = some (.iload 2, 1, [2], []) := by decide +kernel
theorem f61_175 : fr 61 175 = some (.idiv, 1, [], []) := by decide +kernel
theorem f61_176 : fr 61 176 = some (.ireturn, 1, [], []) := by decide +kernel
theorem f61_177 : fr 61 177 = some (.iload 2, 1, [], []) := by decide +kernel
theorem f61_178 : fr 61 178 = some (.ifCond .ne 185, 3, [1, 2], []) := by decide +kernel
theorem f61_181 : fr 61 181 = some (.iconst 0, 1, [], []) := by decide +kernel
theorem f61_182 : fr 61 182 = some (.goto 188, 3, [], []) := by decide +kernel
theorem f61_185 : fr 61 185 = some (.iload 1, 1, [1], []) := by decide +kernel
theorem f61_186 : fr 61 186 = some (.iload 2, 1, [2], []) := by decide +kernel
theorem f61_187 : fr 61 187 = some (.irem, 1, [], []) := by decide +kernel
theorem f61_188 : fr 61 188 = some (.ireturn, 1, [], []) := by decide +kernel
theorem f61_189 : fr 61 189 = some (.iconst 0, 1, [1, 2], []) := by decide +kernel
theorem f61_190 : fr 61 190 = some (.ireturn, 1, [], []) := by decide +kernel
theorem t61_0 {X : XX} {d : Nat} {sz sl : Nat} {sh : Nat → Nat × Nat} {R : Nat → Nat → Option Nat} {I : Nat → Nat → Int32} {J : Nat → Nat → Int64} {l0 : Int32} {l1 : Int32} {l2 : Int32} : exe X d 61 0 [Value.int l0, Value.int l1, Value.int l2] [] (sz, sl, sh, R, I, J) =
    (if l0 = (37) then (if ¬ l2 = 0 then (if l2 = 0 then none else some (some (Value.int (l1 - l1 / l2 * l2)), (sz, sl, sh, R, I, J))) else some (some (Value.int (0)), (sz, sl, sh, R, I, J))) else (if l0 = (38) then (if l1 = 0 then some (some (Value.int (0)), (sz, sl, sh, R, I, J)) else (if l2 = 0 then some (some (Value.int (0)), (sz, sl, sh, R, I, J)) else some (some (Value.int (1)), (sz, sl, sh, R, I, J)))) else (if l0 = (42) then some (some (Value.int (l1 * l2)), (sz, sl, sh, R, I, J)) else (if l0 = (43) then some (some (Value.int (l1 + l2)), (sz, sl, sh, R, I, J)) else (if l0 = (45) then some (some (Value.int (l1 - l2)), (sz, sl, sh, R, I, J)) else (if l0 = (47) then (if ¬ l2 = 0 then (if l2 = 0 then none else some (some (Value.int (l1 / l2)), (sz, sl, sh, R, I, J))) else some (some (Value.int (0)), (sz, sl, sh, R, I, J))) else (if l0 = (60) then (if l2 ≤ l1 then some (some (Value.int (0)), (sz, sl, sh, R, I, J)) else some (some (Value.int (1)), (sz, sl, sh, R, I, J))) else (if l0 = (61) then (if ¬ l1 = l2 then some (some (Value.int (0)), (sz, sl, sh, R, I, J)) else some (some (Value.int (1)), (sz, sl, sh, R, I, J))) else (if l0 = (62) then (if l1 ≤ l2 then some (some (Value.int (0)), (sz, sl, sh, R, I, J)) else some (some (Value.int (1)), (sz, sl, sh, R, I, J))) else (if l0 = (124) then (if ¬ l1 = 0 then some (some (Value.int (1)), (sz, sl, sh, R, I, J)) else (if l2 = 0 then some (some (Value.int (0)), (sz, sl, sh, R, I, J)) else some (some (Value.int (1)), (sz, sl, sh, R, I, J)))) else some (some (Value.int (0)), (sz, sl, sh, R, I, J)))))))))))) :=
  tq ((E_iload (x := l0) rfl f61_0)) (tq ((E_sw f61_1)) (sw_c (by decide) (tq ((E_iload (x := l2) rfl f61_177)) (tq ((E_if_ne f61_178)) (ite_c (tq ((E_iload (x := l1) rfl f61_185)) (tq ((E_iload (x := l2) rfl f61_186)) (tq (E_irem' f61_187) (ite_c rfl ((E_iret pr_61 f61_188)))))) (tq ((E_iconst (x := (0)) (by decide) f61_181)) (tq ((E_goto f61_182)) ((E_iret pr_61 f61_188))))))) (sw_c (by decide) (tq ((E_iload (x := l1) rfl f61_106)) (tq ((E_if_eq f61_107)) (ite_c (tq ((E_iconst (x := (0)) (by decide) f61_118)) ((E_iret pr_61 f61_119))) (tq ((E_iload (x := l2) rfl f61_110)) (tq ((E_if_eq f61_111)) (ite_c (tq ((E_iconst (x := (0)) (by decide) f61_118)) ((E_iret pr_61 f61_119))) (tq ((E_iconst (x := (1)) (by decide) f61_114)) (tq ((E_goto f61_115)) ((E_iret pr_61 f61_119)))))))))) (sw_c (by decide) (tq ((E_iload (x := l1) rfl f61_161)) (tq ((E_iload (x := l2) rfl f61_162)) (tq ((E_imul f61_163)) ((E_iret pr_61 f61_164))))) (sw_c (by decide) (tq ((E_iload (x := l1) rfl f61_153)) (tq ((E_iload (x := l2) rfl f61_154)) (tq ((E_iadd f61_155)) ((E_iret pr_61 f61_156))))) (sw_c (by decide) (tq ((E_iload (x := l1) rfl f61_157)) (tq ((E_iload (x := l2) rfl f61_158)) (tq ((E_isub f61_159)) ((E_iret pr_61 f61_160))))) (sw_c (by decide) (tq ((E_iload (x := l2) rfl f61_165)) (tq ((E_if_ne f61_166)) (ite_c (tq ((E_iload (x := l1) rfl f61_173)) (tq ((E_iload (x := l2) rfl f61_174)) (tq (E_idiv' f61_175) (ite_c rfl ((E_iret pr_61 f61_176)))))) (tq ((E_iconst (x := (0)) (by decide) f61_169)) (tq ((E_goto f61_170)) ((E_iret pr_61 f61_176))))))) (sw_c (by decide) (tq ((E_iload (x := l1) rfl f61_120)) (tq ((E_iload (x := l2) rfl f61_121)) (tq ((E_ic_ge f61_122)) (ite_c (tq ((E_iconst (x := (0)) (by decide) f61_129)) ((E_iret pr_61 f61_130))) (tq ((E_iconst (x := (1)) (by decide) f61_125)) (tq ((E_goto f61_126)) ((E_iret pr_61 f61_130)))))))) (sw_c (by decide) (tq ((E_iload (x := l1) rfl f61_131)) (tq ((E_iload (x := l2) rfl f61_132)) (tq ((E_ic_ne f61_133)) (ite_c (tq ((E_iconst (x := (0)) (by decide) f61_140)) ((E_iret pr_61 f61_141))) (tq ((E_iconst (x := (1)) (by decide) f61_136)) (tq ((E_goto f61_137)) ((E_iret pr_61 f61_141)))))))) (sw_c (by decide) (tq ((E_iload (x := l1) rfl f61_142)) (tq ((E_iload (x := l2) rfl f61_143)) (tq ((E_ic_le f61_144)) (ite_c (tq ((E_iconst (x := (0)) (by decide) f61_151)) ((E_iret pr_61 f61_152))) (tq ((E_iconst (x := (1)) (by decide) f61_147)) (tq ((E_goto f61_148)) ((E_iret pr_61 f61_152)))))))) (sw_c (by decide) (tq ((E_iload (x := l1) rfl f61_92)) (tq ((E_if_ne f61_93)) (ite_c (tq ((E_iconst (x := (1)) (by decide) f61_100)) (tq ((E_goto f61_101)) ((E_iret pr_61 f61_105)))) (tq ((E_iload (x := l2) rfl f61_96)) (tq ((E_if_eq f61_97)) (ite_c (tq ((E_iconst (x := (0)) (by decide) f61_104)) ((E_iret pr_61 f61_105))) (tq ((E_iconst (x := (1)) (by decide) f61_100)) (tq ((E_goto f61_101)) ((E_iret pr_61 f61_105)))))))))) (tq ((E_iconst (x := (0)) (by decide) f61_189)) ((E_iret pr_61 f61_190))))))))))))))
theorem n61 {X : XX} {d : Nat} {h : HP} {a0 : Int32} {a1 : Int32} {a2 : Int32} : ev X (d + 1) 61 [Value.int a0, Value.int a1, Value.int a2] h = exe X d 61 0 [Value.int a0, Value.int a1, Value.int a2] [] h := ev_exe (Nat.le_of_ble_eq_true rfl)
theorem f62_0 : fr 62 0 = some (.iload 1, 1, [], []) := by decide +kernel
theorem f62_1 : fr 62 1 = some (.iconst 10000, 3, [], []) := by decide +kernel
theorem f62_4 : fr 62 4 = some (.idiv, 1, [], []) := by decide +kernel
theorem f62_5 : fr 62 5 = some (.istore 4, 2, [], []) := by decide +kernel
theorem f62_7 : fr 62 7 = some (.iload 1, 1, [], []) := by decide +kernel
theorem f62_8 : fr 62 8 = some (.iconst 10000, 3, [], []) := by decide +kernel
theorem f62_11 : fr 62 11 = some (.irem, 1, [], []) := by decide +kernel
theorem f62_12 : fr 62 12 = some (.istore 5, 2, [], []) := by decide +kernel
theorem f62_14 : fr 62 14 = some (.iload 3, 1, [], []) := by decide +kernel
theorem f62_15 : fr 62 15 = some (.iconst 10, 2, [], []) := by decide +kernel
theorem f62_17 : fr 62 17 = some (.irem, 1, [], []) := by decide +kernel
theorem f62_18 : fr 62 18 = some (.istore 6, 2, [], []) := by decide +kernel
theorem f62_20 : fr 62 20 = some (.iload 1, 1, [1], []) := by decide +kernel
theorem f62_21 : fr 62 21 = some (.ifCond .lt 74, 3, [], [0, 2, 3, 4, 5, 6]) := by decide +kernel
theorem f62_24 : fr 62 24 = some (.iload 4, 2, [], []) := by decide +kernel
theorem f62_26 : fr 62 26 = some (.invokestatic 11, 3, [], []) := by decide +kernel
theorem f62_29 : fr 62 29 = some (.ifCond .eq 74, 3, [], [0, 2, 3, 4, 5, 6]) := by decide +kernel
theorem f62_32 : fr 62 32 = some (.iload 5, 2, [], []) := by decide +kernel
theorem f62_34 : fr 62 34 = some (.invokestatic 11, 3, [], []) := by decide +kernel
theorem f62_37 : fr 62 37 = some (.ifCond .eq 74, 3, [], [0, 2, 3, 4, 5, 6]) := by decide +kernel
theorem f62_40 : fr 62 40 = some (.iload 5, 2, [], []) := by decide +kernel
theorem f62_42 : fr 62 42 = some (.iload 4, 2, [], []) := by decide +kernel
theorem f62_44 : fr 62 44 = some (.if_icmp .lt 74, 3, [], [0, 2, 3, 4, 5, 6]) := by decide +kernel
theorem f62_47 : fr 62 47 = some (.iload 2, 1, [], []) := by decide +kernel
theorem f62_48 : fr 62 48 = some (.iconst 0, 1, [], []) := by decide +kernel
theorem f62_49 : fr 62 49 = some (.iconst 999999, 2, [], []) := by decide +kernel
theorem f62_51 : fr 62 51 = some (.invokestatic 10, 3, [], []) := by decide +kernel
theorem f62_54 : fr 62 54 = some (.ifCond .eq 74, 3, [], [0, 2, 3, 4, 5, 6]) := by decide +kernel
theorem f62_57 : fr 62 57 = some (.iload 3, 1, [], []) := by decide +kernel
theorem f62_58 : fr 62 58 = some (.iconst 0, 1, [], []) := by decide +kernel
theorem f62_59 : fr 62 59 = some (.iconst 799, 3, [], []) := by decide +kernel
theorem f62_62 : fr 62 62 = some (.invokestatic 10, 3, [], []) := by decide +kernel
theorem f62_65 : fr 62 65 = some (.ifCond .eq 74, 3, [], [0, 2, 3, 4, 5, 6]) := by decide +kernel
theorem f62_68 : fr 62 68 = some (.iload 6, 2, [], []) := by decide +kernel
theorem f62_70 : fr 62 70 = some (.iconst 1, 1, [], []) := by decide +kernel
theorem f62_71 : fr 62 71 = some (.if_icmp .le 76, 3, [0, 2, 3, 4, 5, 6], []) := by decide +kernel
theorem f62_74 : fr 62 74 = some (.iconst (-1), 1, [], []) := by decide +kernel
theorem f62_75 : fr 62 75 = some (.ireturn, 1, [], []) := by decide +kernel
theorem f62_76 : fr 62 76 = some (.aload 0, 1, [], []) := by decide +kernel
theorem f62_77 : fr 62 77 = some (.getfield 6, 3, [], []) := by decide +kernel
theorem f62_80 : fr 62 80 = some (.aload 0, 1, [], []) := by decide +kernel
theorem f62_81 : fr 62 81 = some (.getfield 5, 3, [], []) := by decide +kernel
theorem f62_84 : fr 62 84 = some (.arraylength, 1, [], []) := by decide +kernel
theorem f62_85 : fr 62 85 = some (.if_icmp .lt 91, 3, [0, 2, 3, 4, 5, 6], []) := by decide +kernel
theorem f62_88 : fr 62 88 = some (.iconst (-3), 2, [], []) := by decide +kernel
theorem f62_90 : fr 62 90 = some (.ireturn, 1, [], []) := by decide +kernel
theorem f62_91 : fr 62 91 = some (.aload 0, 1, [], []) := by decide +kernel
theorem f62_92 : fr 62 92 = some (.getfield 5, 3, [], []) := by decide +kernel
theorem f62_95 : fr 62 95 = some (.aload 0, 1, [], []) := by decide +kernel
theorem f62_96 : fr 62 96 = some (.getfield 6, 3, [], []) := by decide +kernel
theorem f62_99 : fr 62 99 = some (.new 9, 3, [], []) := by decide +kernel
theorem f62_102 : fr 62 102 = some (.dup, 1, [], []) := by decide +kernel
theorem f62_103 : fr 62 103 = some (.iload 4, 2, [4], []) := by decide +kernel
theorem f62_105 : fr 62 105 = some (.iload 5, 2, [5], []) := by decide +kernel
theorem f62_107 : fr 62 107 = some (.iload 2, 1, [], []) := by decide +kernel
theorem f62_108 : fr 62 108 = some (.iconst 1000, 3, [], []) := by decide +kernel
theorem f62_111 : fr 62 111 = some (.idiv, 1, [], []) := by decide +kernel
theorem f62_112 : fr 62 112 = some (.iload 2, 1, [2], []) := by decide +kernel
theorem f62_113 : fr 62 113 = some (.iconst 1000, 3, [], []) := by decide +kernel
theorem f62_116 : fr 62 116 = some (.irem, 1, [], []) := by decide +kernel
theorem f62_117 : fr 62 117 = some (.iload 3, 1, [], []) := by decide +kernel
theorem f62_118 : fr 62 118 = some (.iconst 100, 2, [], []) := by decide +kernel
theorem f62_120 : fr 62 120 = some (.idiv, 1, [], []) := by decide +kernel
theorem f62_121 : fr 62 121 = some (.iload 3, 1, [3], []) := by decide +kernel
theorem f62_122 : fr 62 122 = some (.iconst 10, 2, [], []) := by decide +kernel
theorem f62_124 : fr 62 124 = some (.idiv, 1, [], []) := by decide +kernel
theorem f62_125 : fr 62 125 = some (.iconst 10, 2, [], []) := by decide +kernel
theorem f62_127 : fr 62 127 = some (.irem, 1, [], []) := by decide +kernel
theorem f62_128 : fr 62 128 = some (.iload 6, 2, [6], []) := by decide +kernel
theorem f62_130 : fr 62 130 = some (.invokespecial 63, 3, [], []) := by decide +kernel
theorem f62_133 : fr 62 133 = some (.aastore, 1, [], []) := by decide +kernel
theorem f62_134 : fr 62 134 = some (.aload 0, 1, [0], []) := by decide +kernel
theorem f62_135 : fr 62 135 = some (.dup, 1, [], []) := by decide +kernel
theorem f62_136 : fr 62 136 = some (.getfield 6, 3, [], []) := by decide +kernel
theorem f62_139 : fr 62 139 = some (.dup_x1, 1, [], []) := by decide +kernel
theorem f62_140 : fr 62 140 = some (.iconst 1, 1, [], []) := by decide +kernel
theorem f62_141 : fr 62 141 = some (.iadd, 1, [], []) := by decide +kernel
theorem f62_142 : fr 62 142 = some (.putfield 6, 3, [], []) := by decide +kernel
theorem f62_145 : fr 62 145 = some (.ireturn, 1, [], []) := by decide +kernel
theorem t62_0 {X : XX} {d : Nat} {sz sl : Nat} {sh : Nat → Nat × Nat} {R : Nat → Nat → Option Nat} {I : Nat → Nat → Int32} {J : Nat → Nat → Int64} {l1 : Int32} {l2 : Int32} {l3 : Int32} : exe X d 62 0 [Value.ref 0, Value.int l1, Value.int l2, Value.int l3, dm, dm, dm] [] (sz, sl, sh, R, I, J) =
    (if l1 < 0 then some (some (Value.int (-1)), (sz, sl, sh, R, I, J)) else ((ev X d 11 [Value.int (l1 / (10000))] (sz, sl, sh, R, I, J)).bind fun q => exe X d 62 29 [Value.ref 0, dm, Value.int l2, Value.int l3, Value.int (l1 / (10000)), Value.int (l1 - l1 / (10000) * (10000)), Value.int (l3 - l3 / (10) * (10))] (q.1.toList ++ []) q.2)) :=
  tq ((E_iload (x := l1) rfl f62_0)) (tq ((E_iconst (x := (10000)) (by decide) f62_1)) (tq ((E_idiv (by decide) f62_4)) (tq ((E_istore rfl f62_5)) (tq ((E_iload (x := l1) rfl f62_7)) (tq ((E_iconst (x := (10000)) (by decide) f62_8)) (tq ((E_irem (by decide) f62_11)) (tq ((E_istore rfl f62_12)) (tq ((E_iload (x := l3) rfl f62_14)) (tq ((E_iconst (x := (10)) (by decide) f62_15)) (tq ((E_irem (by decide) f62_17)) (tq ((E_istore rfl f62_18)) (tq ((E_iload (x := l1) rfl f62_20)) (tq ((E_if_lt f62_21)) (ite_c (tq ((E_iconst (x := (-1)) (by decide) f62_74)) ((E_iret pr_62 f62_75))) (tq ((E_iload (x := (l1 / (10000))) rfl f62_24)) ((E_callS pn_11 rfl rfl (Nat.le_of_ble_eq_true rfl) (Nat.le_of_ble_eq_true rfl) f62_26)))))))))))))))))
theorem t62_29 {X : XX} {d : Nat} {sz sl : Nat} {sh : Nat → Nat × Nat} {R : Nat → Nat → Option Nat} {I : Nat → Nat → Int32} {J : Nat → Nat → Int64} {l2 : Int32} {l3 : Int32} {l4 : Int32} {l5 : Int32} {l6 : Int32} {s0 : Int32} : exe X d 62 29 [Value.ref 0, dm, Value.int l2, Value.int l3, Value.int l4, Value.int l5, Value.int l6] [Value.int s0] (sz, sl, sh, R, I, J) =
    (if s0 = 0 then some (some (Value.int (-1)), (sz, sl, sh, R, I, J)) else ((ev X d 11 [Value.int l5] (sz, sl, sh, R, I, J)).bind fun q => exe X d 62 37 [Value.ref 0, dm, Value.int l2, Value.int l3, Value.int l4, Value.int l5, Value.int l6] (q.1.toList ++ []) q.2)) :=
  tq ((E_if_eq f62_29)) (ite_c (tq ((E_iconst (x := (-1)) (by decide) f62_74)) ((E_iret pr_62 f62_75))) (tq ((E_iload (x := l5) rfl f62_32)) ((E_callS pn_11 rfl rfl (Nat.le_of_ble_eq_true rfl) (Nat.le_of_ble_eq_true rfl) f62_34))))
theorem t62_37 {X : XX} {d : Nat} {sz sl : Nat} {sh : Nat → Nat × Nat} {R : Nat → Nat → Option Nat} {I : Nat → Nat → Int32} {J : Nat → Nat → Int64} {l2 : Int32} {l3 : Int32} {l4 : Int32} {l5 : Int32} {l6 : Int32} {s0 : Int32} : exe X d 62 37 [Value.ref 0, dm, Value.int l2, Value.int l3, Value.int l4, Value.int l5, Value.int l6] [Value.int s0] (sz, sl, sh, R, I, J) =
    (if s0 = 0 then some (some (Value.int (-1)), (sz, sl, sh, R, I, J)) else (if l5 < l4 then some (some (Value.int (-1)), (sz, sl, sh, R, I, J)) else ((ev X d 10 [Value.int l2, Value.int (0), Value.int (999999)] (sz, sl, sh, R, I, J)).bind fun q => exe X d 62 54 [Value.ref 0, dm, Value.int l2, Value.int l3, Value.int l4, Value.int l5, Value.int l6] (q.1.toList ++ []) q.2))) :=
  tq ((E_if_eq f62_37)) (ite_c (tq ((E_iconst (x := (-1)) (by decide) f62_74)) ((E_iret pr_62 f62_75))) (tq ((E_iload (x := l5) rfl f62_40)) (tq ((E_iload (x := l4) rfl f62_42)) (tq ((E_ic_lt f62_44)) (ite_c (tq ((E_iconst (x := (-1)) (by decide) f62_74)) ((E_iret pr_62 f62_75))) (tq ((E_iload (x := l2) rfl f62_47)) (tq ((E_iconst (x := (0)) (by decide) f62_48)) (tq ((E_iconst (x := (999999)) (by decide) f62_49)) ((E_callS pn_10 rfl rfl (Nat.le_of_ble_eq_true rfl) (Nat.le_of_ble_eq_true rfl) f62_51))))))))))
theorem t62_54 {X : XX} {d : Nat} {sz sl : Nat} {sh : Nat → Nat × Nat} {R : Nat → Nat → Option Nat} {I : Nat → Nat → Int32} {J : Nat → Nat → Int64} {l2 : Int32} {l3 : Int32} {l4 : Int32} {l5 : Int32} {l6 : Int32} {s0 : Int32} : exe X d 62 54 [Value.ref 0, dm, Value.int l2, Value.int l3, Value.int l4, Value.int l5, Value.int l6] [Value.int s0] (sz, sl, sh, R, I, J) =
    (if s0 = 0 then some (some (Value.int (-1)), (sz, sl, sh, R, I, J)) else ((ev X d 10 [Value.int l3, Value.int (0), Value.int (799)] (sz, sl, sh, R, I, J)).bind fun q => exe X d 62 65 [Value.ref 0, dm, Value.int l2, Value.int l3, Value.int l4, Value.int l5, Value.int l6] (q.1.toList ++ []) q.2)) :=
  tq ((E_if_eq f62_54)) (ite_c (tq ((E_iconst (x := (-1)) (by decide) f62_74)) ((E_iret pr_62 f62_75))) (tq ((E_iload (x := l3) rfl f62_57)) (tq ((E_iconst (x := (0)) (by decide) f62_58)) (tq ((E_iconst (x := (799)) (by decide) f62_59)) ((E_callS pn_10 rfl rfl (Nat.le_of_ble_eq_true rfl) (Nat.le_of_ble_eq_true rfl) f62_62))))))
theorem t62_65 {X : XX} {d : Nat} {sz sl : Nat} {sh : Nat → Nat × Nat} {R : Nat → Nat → Option Nat} {I : Nat → Nat → Int32} {J : Nat → Nat → Int64} (hS : SF sh R) {l2 : Int32} {l3 : Int32} {l4 : Int32} {l5 : Int32} {l6 : Int32} {s0 : Int32} : exe X d 62 65 [Value.ref 0, dm, Value.int l2, Value.int l3, Value.int l4, Value.int l5, Value.int l6] [Value.int s0] (sz, sl, sh, R, I, J) =
    (if s0 = 0 then some (some (Value.int (-1)), (sz, sl, sh, R, I, J)) else (if l6 ≤ (1) then (if (I 0 6) < (10) then exe X d 62 102 [Value.ref 0, dm, Value.int l2, Value.int l3, Value.int l4, Value.int l5, Value.int l6] [Value.ref sz, Value.int (I 0 6), Value.ref 6] ((sz + 1), (sl + 7), (ur sh sz (16, 0)), (ur R sz (fun _ => none)), (ur I sz (fun _ => 0)), (ur J sz (fun _ => 0))) else some (some (Value.int (-3)), (sz, sl, sh, R, I, J))) else some (some (Value.int (-1)), (sz, sl, sh, R, I, J)))) :=
  tq ((E_if_eq f62_65)) (ite_c (tq ((E_iconst (x := (-1)) (by decide) f62_74)) ((E_iret pr_62 f62_75))) (tq ((E_iload (x := l6) rfl f62_68)) (tq ((E_iconst (x := (1)) (by decide) f62_70)) (tq ((E_ic_le f62_71)) (ite_c (tq ((E_aload (v := Value.ref 0) rfl rfl f62_76)) (tq (tq ((G6 f62_77)) (if_pos (zS0 hS))) (tq ((E_aload (v := Value.ref 0) rfl rfl f62_80)) (tq (tq ((G5 f62_81)) (if_pos (zS0 hS))) (tq (exe_R (zR0_5 hS)) (tq (tq (E_len f62_84) (ite_len (m := 10) (A := fun m => exe X d 62 85 [Value.ref 0, dm, Value.int l2, Value.int l3, Value.int l4, Value.int l5, Value.int l6] (.int (Int32.ofNat m) :: [Value.int (I 0 6)]) (sz, sl, sh, R, I, J)) (zS6 hS) (by decide))) (tq ((E_ic_lt f62_85)) (ite_c (tq ((E_aload (v := Value.ref 0) rfl rfl f62_91)) (tq (tq ((G5 f62_92)) (if_pos (zS0 hS))) (tq (exe_R (zR0_5 hS)) (tq ((E_aload (v := Value.ref 0) rfl rfl f62_95)) (tq (tq ((G6 f62_96)) (if_pos (zS0 hS))) ((E_new (by decide +kernel) f62_99))))))) (tq ((E_iconst (x := (-3)) (by decide) f62_88)) ((E_iret pr_62 f62_90))))))))))) (tq ((E_iconst (x := (-1)) (by decide) f62_74)) ((E_iret pr_62 f62_75))))))))
theorem t62_102 {X : XX} {d : Nat} {sz sl : Nat} {sh : Nat → Nat × Nat} {R : Nat → Nat → Option Nat} {I : Nat → Nat → Int32} {J : Nat → Nat → Int64} {l2 : Int32} {l3 : Int32} {l4 : Int32} {l5 : Int32} {l6 : Int32} {s0 : Value} (k0 : isB s0 = true) {s1 : Int32} {s2 : Value} (k2 : isB s2 = true) : exe X d 62 102 [Value.ref 0, dm, Value.int l2, Value.int l3, Value.int l4, Value.int l5, Value.int l6] [s0, Value.int s1, s2] (sz, sl, sh, R, I, J) =
    (rf (s0) fun p1 => if sh p1 = (16, 0) then ((ev X d 63 [Value.ref p1, Value.int l4, Value.int l5, Value.int (l2 / (1000)), Value.int (l2 - l2 / (1000) * (1000)), Value.int (l3 / (100)), Value.int ((l3 / (10)) - (l3 / (10)) / (10) * (10)), Value.int l6] (sz, sl, sh, R, I, J)).bind fun q => exe X d 62 133 [Value.ref 0, dm, dm, dm, dm, dm, dm] (q.1.toList ++ [s0, Value.int s1, s2]) q.2) else none) :=
  tq ((E_dup (catB k0) f62_102)) (tq ((E_iload (x := l4) rfl f62_103)) (tq ((E_iload (x := l5) rfl f62_105)) (tq ((E_iload (x := l2) rfl f62_107)) (tq ((E_iconst (x := (1000)) (by decide) f62_108)) (tq ((E_idiv (by decide) f62_111)) (tq ((E_iload (x := l2) rfl f62_112)) (tq ((E_iconst (x := (1000)) (by decide) f62_113)) (tq ((E_irem (by decide) f62_116)) (tq ((E_iload (x := l3) rfl f62_117)) (tq ((E_iconst (x := (100)) (by decide) f62_118)) (tq ((E_idiv (by decide) f62_120)) (tq ((E_iload (x := l3) rfl f62_121)) (tq ((E_iconst (x := (10)) (by decide) f62_122)) (tq ((E_idiv (by decide) f62_124)) (tq ((E_iconst (x := (10)) (by decide) f62_125)) (tq ((E_irem (by decide) f62_127)) (tq ((E_iload (x := l6) rfl f62_128)) ((E_callI pn_63 pc_63 rfl rfl (by simp [cats, cat_i, cat_l, cat_r, catB k0, catB k2]) f62_130)))))))))))))))))))
theorem t62_133 {X : XX} {d : Nat} {sz sl : Nat} {sh : Nat → Nat × Nat} {R : Nat → Nat → Option Nat} {I : Nat → Nat → Int32} {J : Nat → Nat → Int64} {s0 : Value} (k0 : isB s0 = true) {s1 : Int32} {s2 : Value} (k2 : isB s2 = true) : exe X d 62 133 [Value.ref 0, dm, dm, dm, dm, dm, dm] [s0, Value.int s1, s2] (sz, sl, sh, R, I, J) =
    (rf (s2) fun p1 => (rf (s0) fun p2 => (if ((3 ≤ (sh p1).1 ∧ (sh p1).1 < 7) ∧ inb s1 (sh p1).2) ∧ sh p2 = (tcl (sh p1).1 + 7, 0) then exe X d 62 134 [Value.ref 0, dm, dm, dm, dm, dm, dm] [] (sz, sl, sh, (u2 R p1 s1.toNatClampNeg (some p2)), I, J) else none))) :=
  (E_aast f62_133)
theorem t62_134 {X : XX} {d : Nat} {sz sl : Nat} {sh : Nat → Nat × Nat} {R : Nat → Nat → Option Nat} {I : Nat → Nat → Int32} {J : Nat → Nat → Int64} (hS : SF sh R)  : exe X d 62 134 [Value.ref 0, dm, dm, dm, dm, dm, dm] [] (sz, sl, sh, R, I, J) =
    some (some (Value.int (I 0 6)), (sz, sl, sh, R, (u2 I 0 6 ((I 0 6) + (1))), J)) :=
  tq ((E_aload (v := Value.ref 0) rfl rfl f62_134)) (tq ((E_dup rfl f62_135)) (tq (tq ((G6 f62_136)) (if_pos (zS0 hS))) (tq ((E_dup_x1 rfl rfl f62_139)) (tq ((E_iconst (x := (1)) (by decide) f62_140)) (tq ((E_iadd f62_141)) (tq (tq ((P6 f62_142)) (if_pos (zS0 hS))) ((E_iret pr_62 f62_145))))))))
theorem n62 {X : XX} {d : Nat} {h : HP} {a0 : Int32} {a1 : Int32} {a2 : Int32} : ev X (d + 1) 62 [Value.ref 0, Value.int a0, Value.int a1, Value.int a2] h = exe X d 62 0 [Value.ref 0, Value.int a0, Value.int a1, Value.int a2, dm, dm, dm] [] h := ev_exe (Nat.le_of_ble_eq_true rfl)
theorem f63_0 : fr 63 0 = some (.aload 0, 1, [], []) := by decide +kernel
theorem f63_1 : fr 63 1 = some (.monitorexit, 3, [], []) := by decide +kernel
theorem f63_4 : fr 63 4 = some (.aload 0, 1, [], []) := by decide +kernel
theorem f63_5 : fr 63 5 = some (.iload 1, 1, [1], []) := by decide +kernel
theorem f63_6 : fr 63 6 = some (.putfield 9000, 3, [], []) := by decide +kernel
theorem f63_9 : fr 63 9 = some (.aload 0, 1, [], []) := by decide +kernel
theorem f63_10 : fr 63 10 = some (.iload 2, 1, [2], []) := by decide +kernel
theorem f63_11 : fr 63 11 = some (.putfield 9001, 3, [], []) := by decide +kernel
theorem f63_14 : fr 63 14 = some (.aload 0, 1, [], []) := by decide +kernel
theorem f63_15 : fr 63 15 = some (.iload 3, 1, [3], []) := by decide +kernel
theorem f63_16 : fr 63 16 = some (.putfield 9002, 3, [], []) := by decide +kernel
theorem f63_19 : fr 63 19 = some (.aload 0, 1, [], []) := by decide +kernel
theorem f63_20 : fr 63 20 = some (.iload 4, 2, [4], []) := by decide +kernel
theorem f63_22 : fr 63 22 = some (.putfield 9003, 3, [], []) := by decide +kernel
theorem f63_25 : fr 63 25 = some (.aload 0, 1, [], []) := by decide +kernel
theorem f63_26 : fr 63 26 = some (.iload 5, 2, [5], []) := by decide +kernel
theorem f63_28 : fr 63 28 = some (.putfield 9004, 3, [], []) := by decide +kernel
theorem f63_31 : fr 63 31 = some (.aload 0, 1, [], []) := by decide +kernel
theorem f63_32 : fr 63 32 = some (.iload 6, 2, [6], []) := by decide +kernel
theorem f63_34 : fr 63 34 = some (.putfield 9005, 3, [], []) := by decide +kernel
theorem f63_37 : fr 63 37 = some (.aload 0, 1, [0], []) := by decide +kernel
theorem f63_38 : fr 63 38 = some (.iload 7, 2, [7], []) := by decide +kernel
theorem f63_40 : fr 63 40 = some (.putfield 9006, 3, [], []) := by decide +kernel
theorem f63_43 : fr 63 43 = some (.return_, 1, [], []) := by decide +kernel
theorem t63_0 {X : XX} {d : Nat} {sz sl : Nat} {sh : Nat → Nat × Nat} {R : Nat → Nat → Option Nat} {I : Nat → Nat → Int32} {J : Nat → Nat → Int64} {l0 : Nat} (h0 : sh l0 = (16, 0)) {l1 : Int32} {l2 : Int32} {l3 : Int32} {l4 : Int32} {l5 : Int32} {l6 : Int32} {l7 : Int32} : exe X d 63 0 [Value.ref l0, Value.int l1, Value.int l2, Value.int l3, Value.int l4, Value.int l5, Value.int l6, Value.int l7] [] (sz, sl, sh, R, I, J) =
    some (none, (sz, sl, sh, R, (u2 (u2 (u2 (u2 (u2 (u2 (u2 I l0 0 l1) l0 1 l2) l0 2 l3) l0 3 l4) l0 4 l5) l0 5 l6) l0 6 l7), J)) :=
  tq ((E_aload (v := Value.ref l0) rfl rfl f63_0)) (tq ((E_obj (Nat.le_of_ble_eq_true rfl) f63_1)) (tq ((E_aload (v := Value.ref l0) rfl rfl f63_4)) (tq ((E_iload (x := l1) rfl f63_5)) (tq (tq ((P9000 f63_6)) (if_pos h0)) (tq ((E_aload (v := Value.ref l0) rfl rfl f63_9)) (tq ((E_iload (x := l2) rfl f63_10)) (tq (tq ((P9001 f63_11)) (if_pos h0)) (tq ((E_aload (v := Value.ref l0) rfl rfl f63_14)) (tq ((E_iload (x := l3) rfl f63_15)) (tq (tq ((P9002 f63_16)) (if_pos h0)) (tq ((E_aload (v := Value.ref l0) rfl rfl f63_19)) (tq ((E_iload (x := l4) rfl f63_20)) (tq (tq ((P9003 f63_22)) (if_pos h0)) (tq ((E_aload (v := Value.ref l0) rfl rfl f63_25)) (tq ((E_iload (x := l5) rfl f63_26)) (tq (tq ((P9004 f63_28)) (if_pos h0)) (tq ((E_aload (v := Value.ref l0) rfl rfl f63_31)) (tq ((E_iload (x := l6) rfl f63_32)) (tq (tq ((P9005 f63_34)) (if_pos h0)) (tq ((E_aload (v := Value.ref l0) rfl rfl f63_37)) (tq ((E_iload (x := l7) rfl f63_38)) (tq (tq ((P9006 f63_40)) (if_pos h0)) ((E_vret pr_63 f63_43))))))))))))))))))))))))
theorem n63 {X : XX} {d : Nat} {h : HP} {l0 : Nat} {a0 : Int32} {a1 : Int32} {a2 : Int32} {a3 : Int32} {a4 : Int32} {a5 : Int32} {a6 : Int32} : ev X (d + 1) 63 [Value.ref l0, Value.int a0, Value.int a1, Value.int a2, Value.int a3, Value.int a4, Value.int a5, Value.int a6] h = exe X d 63 0 [Value.ref l0, Value.int a0, Value.int a1, Value.int a2, Value.int a3, Value.int a4, Value.int a5, Value.int a6] [] h := ev_exe (Nat.le_of_ble_eq_true rfl)
theorem f64_0 : fr 64 0 = some (.aload 0, 1, [], []) := by decide +kernel
theorem f64_1 : fr 64 1 = some (.iload 1, 1, [1], []) := by decide +kernel
theorem f64_2 : fr 64 2 = some (.invokevirtual 57, 3, [], []) := by decide +kernel
theorem f64_5 : fr 64 5 = some (.astore 4, 2, [], []) := by decide +kernel
theorem f64_7 : fr 64 7 = some (.aload 0, 1, [], []) := by decide +kernel
theorem f64_8 : fr 64 8 = some (.iload 2, 1, [], []) := by decide +kernel
theorem f64_9 : fr 64 9 = some (.invokevirtual 18, 3, [], []) := by decide +kernel
theorem f64_12 : fr 64 12 = some (.astore 5, 2, [], []) := by decide +kernel
theorem f64_14 : fr 64 14 = some (.aload 4, 2, [], []) := by decide +kernel
theorem f64_16 : fr 64 16 = some (.ifnull 32, 3, [], [0, 2, 3, 4, 5]) := by decide +kernel
theorem f64_19 : fr 64 19 = some (.aload 5, 2, [], []) := by decide +kernel
theorem f64_21 : fr 64 21 = some (.ifnull 32, 3, [], [0, 2, 3, 4, 5]) := by decide +kernel
theorem f64_24 : fr 64 24 = some (.aload 0, 1, [], []) := by decide +kernel
theorem f64_25 : fr 64 25 = some (.iload 3, 1, [], []) := by decide +kernel
theorem f64_26 : fr 64 26 = some (.invokevirtual 65, 3, [], []) := by decide +kernel
theorem f64_29 : fr 64 29 = some (.ifCond .ne 34, 3, [0, 2, 3, 4, 5], []) := by decide +kernel
theorem f64_32 : fr 64 32 = some (.iconst (-1), 1, [], []) := by decide +kernel
theorem f64_33 : fr 64 33 = some (.ireturn, 1, [], []) := by decide +kernel
theorem f64_34 : fr 64 34 = some (.aload 0, 1, [0], []) := by decide +kernel
theorem f64_35 : fr 64 35 = some (.aload 4, 2, [4], []) := by decide +kernel
theorem f64_37 : fr 64 37 = some (.aload 5, 2, [5], []) := by decide +kernel
theorem f64_39 : fr 64 39 = some (.iload 2, 1, [2], []) := by decide +kernel
theorem f64_40 : fr 64 40 = some (.iconst 10, 2, [], []) := by decide +kernel
theorem f64_42 : fr 64 42 = some (.irem, 1, [], []) := by decide +kernel
theorem f64_43 : fr 64 43 = some (.iload 3, 1, [3], []) := by decide +kernel
theorem f64_44 : fr 64 44 = some (.invokevirtual 66, 3, [], []) := by decide +kernel
theorem f64_47 : fr 64 47 = some (.invokestatic 68, 3, [], []) := by decide +kernel
theorem f64_50 : fr 64 50 = some (.ireturn, 1, [], []) := by decide +kernel
theorem t64_0 {X : XX} {d : Nat} {sz sl : Nat} {sh : Nat → Nat × Nat} {R : Nat → Nat → Option Nat} {I : Nat → Nat → Int32} {J : Nat → Nat → Int64} (hS : SF sh R) {l1 : Int32} {l2 : Int32} {l3 : Int32} : exe X d 64 0 [Value.ref 0, Value.int l1, Value.int l2, Value.int l3, dm, dm] [] (sz, sl, sh, R, I, J) =
    ((ev X d 57 [Value.ref 0, Value.int l1] (sz, sl, sh, R, I, J)).bind fun q => exe X d 64 5 [Value.ref 0, dm, Value.int l2, Value.int l3, dm, dm] (q.1.toList ++ []) q.2) :=
  tq ((E_aload (v := Value.ref 0) rfl rfl f64_0)) (tq ((E_iload (x := l1) rfl f64_1)) ((tq ((E_callV pn_57 pc_57 rfl rfl (Nat.le_of_ble_eq_true rfl) f64_2)) (if_pos (zS0 hS)))))
theorem t64_5 {X : XX} {d : Nat} {sz sl : Nat} {sh : Nat → Nat × Nat} {R : Nat → Nat → Option Nat} {I : Nat → Nat → Int32} {J : Nat → Nat → Int64} (hS : SF sh R) {l2 : Int32} {l3 : Int32} {s0 : Value} (k0 : isB s0 = true) : exe X d 64 5 [Value.ref 0, dm, Value.int l2, Value.int l3, dm, dm] [s0] (sz, sl, sh, R, I, J) =
    ((ev X d 18 [Value.ref 0, Value.int l2] (sz, sl, sh, R, I, J)).bind fun q => exe X d 64 12 [Value.ref 0, dm, Value.int l2, Value.int l3, s0, dm] (q.1.toList ++ []) q.2) :=
  tq ((E_astore k0 rfl f64_5)) (tq ((E_aload (v := Value.ref 0) rfl rfl f64_7)) (tq ((E_iload (x := l2) rfl f64_8)) ((tq ((E_callV pn_18 pc_18 rfl rfl (Nat.le_of_ble_eq_true rfl) f64_9)) (if_pos (zS0 hS))))))
theorem t64_12 {X : XX} {d : Nat} {sz sl : Nat} {sh : Nat → Nat × Nat} {R : Nat → Nat → Option Nat} {I : Nat → Nat → Int32} {J : Nat → Nat → Int64} (hS : SF sh R) {l2 : Int32} {l3 : Int32} {l4 : Value} (h4 : isB l4 = true) {s0 : Value} (k0 : isB s0 = true) : exe X d 64 12 [Value.ref 0, dm, Value.int l2, Value.int l3, l4, dm] [s0] (sz, sl, sh, R, I, J) =
    (nn (l4) (some (some (Value.int (-1)), (sz, sl, sh, R, I, J))) ((nn (s0) (some (some (Value.int (-1)), (sz, sl, sh, R, I, J))) (((ev X d 65 [Value.ref 0, Value.int l3] (sz, sl, sh, R, I, J)).bind fun q => exe X d 64 29 [Value.ref 0, dm, Value.int l2, Value.int l3, l4, s0] (q.1.toList ++ []) q.2))))) :=
  tq ((E_astore k0 (okS_A (Nat.lt_of_sub_eq_succ rfl) rfl h4) f64_12)) (tq ((E_aload (v := l4) rfl (isBA h4) f64_14)) (tq ((E_ifnull f64_16)) (nn_c (tq ((E_iconst (x := (-1)) (by decide) f64_32)) ((E_iret pr_64 f64_33))) (tq ((E_aload (v := s0) rfl (isBA k0) f64_19)) (tq ((E_ifnull f64_21)) (nn_c (tq ((E_iconst (x := (-1)) (by decide) f64_32)) ((E_iret pr_64 f64_33))) (tq ((E_aload (v := Value.ref 0) rfl rfl f64_24)) (tq ((E_iload (x := l3) rfl f64_25)) ((tq ((E_callV pn_65 pc_65 rfl rfl (Nat.le_of_ble_eq_true rfl) f64_26)) (if_pos (zS0 hS))))))))))))
theorem t64_29 {X : XX} {d : Nat} {sz sl : Nat} {sh : Nat → Nat × Nat} {R : Nat → Nat → Option Nat} {I : Nat → Nat → Int32} {J : Nat → Nat → Int64} (hS : SF sh R) {l2 : Int32} {l3 : Int32} {l4 : Value} (h4 : isB l4 = true) {l5 : Value} (h5 : isB l5 = true) {s0 : Int32} : exe X d 64 29 [Value.ref 0, dm, Value.int l2, Value.int l3, l4, l5] [Value.int s0] (sz, sl, sh, R, I, J) =
    (if ¬ s0 = 0 then ((ev X d 66 [Value.ref 0, l4, l5, Value.int (l2 - l2 / (10) * (10)), Value.int l3] (sz, sl, sh, R, I, J)).bind fun q => exe X d 64 47 [dm, dm, dm, dm, dm, dm] (q.1.toList ++ []) q.2) else some (some (Value.int (-1)), (sz, sl, sh, R, I, J))) :=
  tq ((E_if_ne f64_29)) (ite_c (tq ((E_aload (v := Value.ref 0) rfl rfl f64_34)) (tq ((E_aload (v := l4) rfl (isBA h4) f64_35)) (tq ((E_aload (v := l5) rfl (isBA h5) f64_37)) (tq ((E_iload (x := l2) rfl f64_39)) (tq ((E_iconst (x := (10)) (by decide) f64_40)) (tq ((E_irem (by decide) f64_42)) (tq ((E_iload (x := l3) rfl f64_43)) ((tq ((E_callV pn_66 pc_66 rfl rfl (Nat.le_of_ble_eq_true rfl) f64_44)) (if_pos (zS0 hS))))))))))) (tq ((E_iconst (x := (-1)) (by decide) f64_32)) ((E_iret pr_64 f64_33))))
theorem t64_47 {X : XX} {d : Nat} {sz sl : Nat} {sh : Nat → Nat × Nat} {R : Nat → Nat → Option Nat} {I : Nat → Nat → Int32} {J : Nat → Nat → Int64} {s0 : Int64} : exe X d 64 47 [dm, dm, dm, dm, dm, dm] [Value.long s0] (sz, sl, sh, R, I, J) =
    ((ev X d 68 [Value.long s0] (sz, sl, sh, R, I, J)).bind fun q => exe X d 64 50 [dm, dm, dm, dm, dm, dm] (q.1.toList ++ []) q.2) :=
  (E_callS pn_68 rfl rfl (Nat.le_of_ble_eq_true rfl) (Nat.le_of_ble_eq_true rfl) f64_47)
theorem t64_50 {X : XX} {d : Nat} {sz sl : Nat} {sh : Nat → Nat × Nat} {R : Nat → Nat → Option Nat} {I : Nat → Nat → Int32} {J : Nat → Nat → Int64} {s0 : Int32} : exe X d 64 50 [dm, dm, dm, dm, dm, dm] [Value.int s0] (sz, sl, sh, R, I, J) =
    some (some (Value.int s0), (sz, sl, sh, R, I, J)) :=
  (E_iret pr_64 f64_50)
theorem n64 {X : XX} {d : Nat} {h : HP} {a0 : Int32} {a1 : Int32} {a2 : Int32} : ev X (d + 1) 64 [Value.ref 0, Value.int a0, Value.int a1, Value.int a2] h = exe X d 64 0 [Value.ref 0, Value.int a0, Value.int a1, Value.int a2, dm, dm] [] h := ev_exe (Nat.le_of_ble_eq_true rfl)
theorem f65_0 : fr 65 0 = some (.iload 1, 1, [1], []) := by decide +kernel
theorem f65_1 : fr 65 1 = some (.iconst 0, 1, [], []) := by decide +kernel
theorem f65_2 : fr 65 2 = some (.iconst 1, 1, [], []) := by decide +kernel
theorem f65_3 : fr 65 3 = some (.aload 0, 1, [0], []) := by decide +kernel
theorem f65_4 : fr 65 4 = some (.getfield 6, 3, [], []) := by decide +kernel
theorem f65_7 : fr 65 7 = some (.ishl, 1, [], []) := by decide +kernel
theorem f65_8 : fr 65 8 = some (.iconst 1, 1, [], []) := by decide +kernel
theorem f65_9 : fr 65 9 = some (.isub, 1, [], []) := by decide +kernel
theorem f65_10 : fr 65 10 = some (.invokestatic 10, 3, [], []) := by decide +kernel
theorem f65_13 : fr 65 13 = some (.ireturn, 1, [], []) := by decide +kernel
theorem t65_0 {X : XX} {d : Nat} {sz sl : Nat} {sh : Nat → Nat × Nat} {R : Nat → Nat → Option Nat} {I : Nat → Nat → Int32} {J : Nat → Nat → Int64} (hS : SF sh R) {l1 : Int32} : exe X d 65 0 [Value.ref 0, Value.int l1] [] (sz, sl, sh, R, I, J) =
    ((ev X d 10 [Value.int l1, Value.int (0), Value.int (((1) <<< ((I 0 6) &&& 31)) - (1))] (sz, sl, sh, R, I, J)).bind fun q => exe X d 65 13 [dm, dm] (q.1.toList ++ []) q.2) :=
  tq ((E_iload (x := l1) rfl f65_0)) (tq ((E_iconst (x := (0)) (by decide) f65_1)) (tq ((E_iconst (x := (1)) (by decide) f65_2)) (tq ((E_aload (v := Value.ref 0) rfl rfl f65_3)) (tq (tq ((G6 f65_4)) (if_pos (zS0 hS))) (tq ((E_ishl f65_7)) (tq ((E_iconst (x := (1)) (by decide) f65_8)) (tq ((E_isub f65_9)) ((E_callS pn_10 rfl rfl (Nat.le_of_ble_eq_true rfl) (Nat.le_of_ble_eq_true rfl) f65_10)))))))))
theorem t65_13 {X : XX} {d : Nat} {sz sl : Nat} {sh : Nat → Nat × Nat} {R : Nat → Nat → Option Nat} {I : Nat → Nat → Int32} {J : Nat → Nat → Int64} {s0 : Int32} : exe X d 65 13 [dm, dm] [Value.int s0] (sz, sl, sh, R, I, J) =
    (if s0 = 0 ∨ s0 = 1 then some (some (Value.int s0), (sz, sl, sh, R, I, J)) else none) :=
  (E_zret pr_65 f65_13)
theorem n65 {X : XX} {d : Nat} {h : HP} {a0 : Int32} : ev X (d + 1) 65 [Value.ref 0, Value.int a0] h = exe X d 65 0 [Value.ref 0, Value.int a0] [] h := ev_exe (Nat.le_of_ble_eq_true rfl)
theorem f66_0 : fr 66 0 = some (.jsr_w 0, 1, [], []) := by decide +kernel
theorem f66_1 : fr 66 1 = some (.lstore 5, 2, [], []) := by decide +kernel
theorem f66_3 : fr 66 3 = some (.iconst 0, 1, [], []) := by decide +kernel
theorem f66_4 : fr 66 4 = some (.istore 7, 2, [], []) := by decide +kernel
theorem f66_6 : fr 66 6 = some (.iload 7, 2, [], []) := by decide +kernel
theorem f66_8 : fr 66 8 = some (.aload 0, 1, [], []) := by decide +kernel
theorem f66_9 : fr 66 9 = some (.getfield 5, 3, [], []) := by decide +kernel
theorem f66_12 : fr 66 12 = some (.arraylength, 1, [], []) := by decide +kernel
theorem f66_13 : fr 66 13 = some (.if_icmp .ge 60, 3, [], [0, 1, 2, 3, 4, 7]) := by decide +kernel
theorem f66_16 : fr 66 16 = some (.aload 0, 1, [], []) := by decide +kernel
theorem f66_17 : fr 66 17 = some (.getfield 5, 3, [], []) := by decide +kernel
theorem f66_20 : fr 66 20 = some (.iload 7, 2, [], []) := by decide +kernel
theorem f66_22 : fr 66 22 = some (.aaload, 1, [], []) := by decide +kernel
theorem f66_23 : fr 66 23 = some (.astore 8, 2, [], []) := by decide +kernel
theorem f66_25 : fr 66 25 = some (.aload 8, 2, [], []) := by decide +kernel
theorem f66_27 : fr 66 27 = some (.ifnull 54, 3, [], [8]) := by decide +kernel
theorem f66_30 : fr 66 30 = some (.iload 4, 2, [], []) := by decide +kernel
theorem f66_32 : fr 66 32 = some (.iload 7, 2, [], []) := by decide +kernel
theorem f66_34 : fr 66 34 = some (.ishr, 1, [], []) := by decide +kernel
theorem f66_35 : fr 66 35 = some (.iconst 1, 1, [], []) := by decide +kernel
theorem f66_36 : fr 66 36 = some (.iand, 1, [], []) := by decide +kernel
theorem f66_37 : fr 66 37 = some (.iconst 1, 1, [], []) := by decide +kernel
theorem f66_38 : fr 66 38 = some (.if_icmp .ne 54, 3, [], [8]) := by decide +kernel
theorem f66_41 : fr 66 41 = some (.lload 5, 2, [5], []) := by decide +kernel
theorem f66_43 : fr 66 43 = some (.aload 8, 2, [8], []) := by decide +kernel
theorem f66_45 : fr 66 45 = some (.aload 1, 1, [], []) := by decide +kernel
theorem f66_46 : fr 66 46 = some (.aload 2, 1, [], []) := by decide +kernel
theorem f66_47 : fr 66 47 = some (.iload 3, 1, [], []) := by decide +kernel
theorem f66_48 : fr 66 48 = some (.invokevirtual 67, 3, [], []) := by decide +kernel
theorem f66_51 : fr 66 51 = some (.ladd, 1, [], []) := by decide +kernel
theorem f66_52 : fr 66 52 = some (.lstore 5, 2, [], []) := by decide +kernel
theorem f66_54 : fr 66 54 = some (.iinc 7 1, 3, [], []) := by decide +kernel
theorem f66_57 : fr 66 57 = some (.goto 6, 3, [], []) := by decide +kernel
theorem f66_60 : fr 66 60 = some (.lload 5, 2, [5], []) := by decide +kernel
theorem f66_62 : fr 66 62 = some (.lreturn, 1, [], []) := by decide +kernel
theorem t66_0 {X : XX} {d : Nat} {sz sl : Nat} {sh : Nat → Nat × Nat} {R : Nat → Nat → Option Nat} {I : Nat → Nat → Int32} {J : Nat → Nat → Int64} {l1 : Nat} {l2 : Nat} {l3 : Int32} {l4 : Int32} : exe X d 66 0 [Value.ref 0, Value.ref l1, Value.ref l2, Value.int l3, Value.int l4, dm, dm, dm, dm] [] (sz, sl, sh, R, I, J) =
    exe X d 66 6 [Value.ref 0, Value.ref l1, Value.ref l2, Value.int l3, Value.int l4, Value.long (0), dm, Value.int (0), dm] [] (sz, sl, sh, R, I, J) :=
  tq ((E_lconst (x := (0)) (by decide) f66_0)) (tq ((E_lstore rfl (Nat.le_of_ble_eq_true rfl) f66_1)) (tq ((E_iconst (x := (0)) (by decide) f66_3)) ((E_istore rfl f66_4))))
theorem t66_6 {X : XX} {d : Nat} {sz sl : Nat} {sh : Nat → Nat × Nat} {R : Nat → Nat → Option Nat} {I : Nat → Nat → Int32} {J : Nat → Nat → Int64} (hS : SF sh R) {l1 : Nat} {l2 : Nat} {l3 : Int32} {l4 : Int32} {l5 : Int64} {l7 : Int32} : exe X d 66 6 [Value.ref 0, Value.ref l1, Value.ref l2, Value.int l3, Value.int l4, Value.long l5, dm, Value.int l7, dm] [] (sz, sl, sh, R, I, J) =
    (if (10) ≤ l7 then some (some (Value.long l5), (sz, sl, sh, R, I, J)) else (if inb l7 10 then (nn ((rfv (R 6 l7.toNatClampNeg))) (exe X d 66 6 [Value.ref 0, Value.ref l1, Value.ref l2, Value.int l3, Value.int l4, Value.long l5, dm, Value.int (l7 + (1)), dm] [] (sz, sl, sh, R, I, J)) ((if ¬ ((l4 >>> (l7 &&& 31)) &&& (1)) = (1) then exe X d 66 6 [Value.ref 0, Value.ref l1, Value.ref l2, Value.int l3, Value.int l4, Value.long l5, dm, Value.int (l7 + (1)), dm] [] (sz, sl, sh, R, I, J) else (rf ((rfv (R 6 l7.toNatClampNeg))) fun p1 => if sh p1 = (16, 0) then ((ev X d 67 [Value.ref p1, Value.ref l1, Value.ref l2, Value.int l3] (sz, sl, sh, R, I, J)).bind fun q => exe X d 66 51 [Value.ref 0, Value.ref l1, Value.ref l2, Value.int l3, Value.int l4, dm, dm, Value.int l7, dm] (q.1.toList ++ [Value.long l5]) q.2) else none)))) else none)) :=
  tq ((E_iload (x := l7) rfl f66_6)) (tq ((E_aload (v := Value.ref 0) rfl rfl f66_8)) (tq (tq ((G5 f66_9)) (if_pos (zS0 hS))) (tq (exe_R (zR0_5 hS)) (tq (tq (E_len f66_12) (ite_len (m := 10) (A := fun m => exe X d 66 13 [Value.ref 0, Value.ref l1, Value.ref l2, Value.int l3, Value.int l4, Value.long l5, dm, Value.int l7, dm] (.int (Int32.ofNat m) :: [Value.int l7]) (sz, sl, sh, R, I, J)) (zS6 hS) (by decide))) (tq ((E_ic_ge f66_13)) (ite_c (tq ((E_lload (x := l5) rfl f66_60)) ((E_lret pr_66 f66_62))) (tq ((E_aload (v := Value.ref 0) rfl rfl f66_16)) (tq (tq ((G5 f66_17)) (if_pos (zS0 hS))) (tq (exe_R (zR0_5 hS)) (tq ((E_iload (x := l7) rfl f66_20)) (tq (tq ((E_aald f66_22)) (ite_aq (zS6 hS) (by decide))) (ite_c (tq ((E_astore (isB_rfv _) rfl f66_23)) (tq ((E_aload (v := (rfv (R 6 l7.toNatClampNeg))) rfl (isBA (isB_rfv _)) f66_25)) (tq ((E_ifnull f66_27)) (nn_c (tq ((E_iinc (x := l7) (x' := (1)) rfl rfl (by decide) f66_54)) ((E_goto f66_57))) (tq ((E_iload (x := l4) rfl f66_30)) (tq ((E_iload (x := l7) rfl f66_32)) (tq ((E_ishr f66_34)) (tq ((E_iconst (x := (1)) (by decide) f66_35)) (tq ((E_iand f66_36)) (tq ((E_iconst (x := (1)) (by decide) f66_37)) (tq ((E_ic_ne f66_38)) (ite_c (tq ((E_iinc (x := l7) (x' := (1)) rfl rfl (by decide) f66_54)) ((E_goto f66_57))) (tq ((E_lload (x := l5) rfl f66_41)) (tq ((E_aload (v := (rfv (R 6 l7.toNatClampNeg))) rfl (isBA (isB_rfv _)) f66_43)) (tq ((E_aload (v := Value.ref l1) rfl rfl f66_45)) (tq ((E_aload (v := Value.ref l2) rfl rfl f66_46)) (tq ((E_iload (x := l3) rfl f66_47)) ((E_callV pn_67 pc_67 rfl rfl (Nat.le_of_ble_eq_true rfl) f66_48))))))))))))))))))) rfl))))))))))))
theorem t66_51 {X : XX} {d : Nat} {sz sl : Nat} {sh : Nat → Nat × Nat} {R : Nat → Nat → Option Nat} {I : Nat → Nat → Int32} {J : Nat → Nat → Int64} {l1 : Nat} {l2 : Nat} {l3 : Int32} {l4 : Int32} {l7 : Int32} {s0 : Int64} {s1 : Int64} : exe X d 66 51 [Value.ref 0, Value.ref l1, Value.ref l2, Value.int l3, Value.int l4, dm, dm, Value.int l7, dm] [Value.long s0, Value.long s1] (sz, sl, sh, R, I, J) =
    exe X d 66 6 [Value.ref 0, Value.ref l1, Value.ref l2, Value.int l3, Value.int l4, Value.long (s1 + s0), dm, Value.int (l7 + (1)), dm] [] (sz, sl, sh, R, I, J) :=
  tq ((E_ladd f66_51)) (tq ((E_lstore rfl (Nat.le_of_ble_eq_true rfl) f66_52)) (tq ((E_iinc (x := l7) (x' := (1)) rfl rfl (by decide) f66_54)) ((E_goto f66_57))))
theorem n66 {X : XX} {d : Nat} {h : HP} {a0 : Nat} {a1 : Nat} {a2 : Int32} {a3 : Int32} : ev X (d + 1) 66 [Value.ref 0, Value.ref a0, Value.ref a1, Value.int a2, Value.int a3] h = exe X d 66 0 [Value.ref 0, Value.ref a0, Value.ref a1, Value.int a2, Value.int a3, dm, dm, dm, dm] [] h := ev_exe (Nat.le_of_ble_eq_true rfl)
theorem f67_0 : fr 67 0 = some (.aload 0, 1, [], []) := by decide +kernel
theorem f67_1 : fr 67 1 = some (.getfield 9001, 3, [], []) := by decide +kernel
theorem f67_4 : fr 67 4 = some (.aload 0, 1, [], []) := by decide +kernel
theorem f67_5 : fr 67 5 = some (.getfield 9000, 3, [], []) := by decide +kernel
theorem f67_8 : fr 67 8 = some (.aload 2, 1, [], []) := by decide +kernel
theorem f67_9 : fr 67 9 = some (.getfield 8003, 3, [], []) := by decide +kernel
theorem f67_12 : fr 67 12 = some (.fadd, 3, [], []) := by decide +kernel
theorem f67_15 : fr 67 15 = some (.isub, 1, [], []) := by decide +kernel
theorem f67_16 : fr 67 16 = some (.i2l, 1, [], []) := by decide +kernel
theorem f67_17 : fr 67 17 = some (.lstore 4, 2, [], []) := by decide +kernel
theorem f67_19 : fr 67 19 = some (.lload 4, 2, [], []) := by decide +kernel
theorem f67_21 : fr 67 21 = some (.jsr_w 0, 1, [], []) := by decide +kernel
theorem f67_22 : fr 67 22 = some (.lcmp, 1, [], []) := by decide +kernel
theorem f67_23 : fr 67 23 = some (.ifCond .gt 28, 3, [0, 1, 2, 3, 4], []) := by decide +kernel
theorem f67_26 : fr 67 26 = some (.jsr_w 0, 1, [], []) := by decide +kernel
theorem f67_27 : fr 67 27 = some (.lreturn, 1, [], []) := by decide +kernel
theorem f67_28 : fr 67 28 = some (.aload 0, 1, [], []) := by decide +kernel
theorem f67_29 : fr 67 29 = some (.getfield 9002, 3, [], []) := by decide +kernel
theorem f67_32 : fr 67 32 = some (.i2l, 1, [], []) := by decide +kernel
theorem f67_33 : fr 67 33 = some (.aload 1, 1, [], []) := by decide +kernel
theorem f67_34 : fr 67 34 = some (.aload 2, 1, [], []) := by decide +kernel
theorem f67_35 : fr 67 35 = some (.iload 3, 1, [], []) := by decide +kernel
theorem f67_36 : fr 67 36 = some (.aload 0, 1, [], []) := by decide +kernel
theorem f67_37 : fr 67 37 = some (.getfield 9004, 3, [], []) := by decide +kernel
theorem f67_40 : fr 67 40 = some (.iconst 0, 1, [], []) := by decide +kernel
theorem f67_41 : fr 67 41 = some (.aload 0, 1, [], []) := by decide +kernel
theorem f67_42 : fr 67 42 = some (.getfield 9005, 3, [], []) := by decide +kernel
theorem f67_45 : fr 67 45 = some (.aload 0, 1, [], []) := by decide +kernel
theorem f67_46 : fr 67 46 = some (.getfield 9006, 3, [], []) := by decide +kernel
theorem f67_49 : fr 67 49 = some (.invokevirtual 58, 3, [], []) := by decide +kernel
theorem f67_52 : fr 67 52 = some (.i2l, 1, [], []) := by decide +kernel
theorem f67_53 : fr 67 53 = some (.lmul, 1, [], []) := by decide +kernel
theorem f67_54 : fr 67 54 = some (.aload 0, 1, [], []) := by decide +kernel
theorem f67_55 : fr 67 55 = some (.getfield 9003, 3, [], []) := by decide +kernel
theorem f67_58 : fr 67 58 = some (.i2l, 1, [], []) := by decide +kernel
theorem f67_59 : fr 67 59 = some (.aload 1, 1, [1], []) := by decide +kernel
theorem f67_60 : fr 67 60 = some (.aload 2, 1, [2], []) := by decide +kernel
theorem f67_61 : fr 67 61 = some (.iload 3, 1, [3], []) := by decide +kernel
theorem f67_62 : fr 67 62 = some (.aload 0, 1, [], []) := by decide +kernel
theorem f67_63 : fr 67 63 = some (.getfield 9004, 3, [], []) := by decide +kernel
theorem f67_66 : fr 67 66 = some (.iconst 1, 1, [], []) := by decide +kernel
theorem f67_67 : fr 67 67 = some (.aload 0, 1, [], []) := by decide +kernel
theorem f67_68 : fr 67 68 = some (.getfield 9005, 3, [], []) := by decide +kernel
theorem f67_71 : fr 67 71 = some (.aload 0, 1, [0], []) := by decide +kernel
theorem f67_72 : fr 67 72 = some (.getfield 9006, 3, [], []) := by decide +kernel
theorem f67_75 : fr 67 75 = some (.invokevirtual 58, 3, [], []) := by decide +kernel
theorem f67_78 : fr 67 78 = some (.i2l, 1, [], []) := by decide +kernel
theorem f67_79 : fr 67 79 = some (.lmul, 1, [], []) := by decide +kernel
theorem f67_80 : fr 67 80 = some (.ladd, 1, [], []) := by decide +kernel
theorem f67_81 : fr 67 81 = some (.lstore 6, 2, [], []) := by decide +kernel
theorem f67_83 : fr 67 83 = some (.lload 4, 2, [4], []) := by decide +kernel
theorem f67_85 : fr 67 85 = some (.lload 6, 2, [6], []) := by decide +kernel
theorem f67_87 : fr 67 87 = some (.lmul, 1, [], []) := by decide +kernel
theorem f67_88 : fr 67 88 = some (.jsr_w 300, 3, [], []) := by decide +kernel
theorem f67_91 : fr 67 91 = some (.lmul, 1, [], []) := by decide +kernel
theorem f67_92 : fr 67 92 = some (.jsr_w 1000, 3, [], []) := by decide +kernel
theorem f67_95 : fr 67 95 = some (.ldiv, 1, [], []) := by decide +kernel
theorem f67_96 : fr 67 96 = some (.lreturn, 1, [], []) := by decide +kernel
theorem t67_0 {X : XX} {d : Nat} {sz sl : Nat} {sh : Nat → Nat × Nat} {R : Nat → Nat → Option Nat} {I : Nat → Nat → Int32} {J : Nat → Nat → Int64} {l0 : Nat} (h0 : sh l0 = (16, 0)) {l1 : Nat} {l2 : Nat} {l3 : Int32} : exe X d 67 0 [Value.ref l0, Value.ref l1, Value.ref l2, Value.int l3, dm, dm, dm, dm] [] (sz, sl, sh, R, I, J) =
    (rf (Value.ref l2) fun p1 => if sh p1 = (15, 0) then (if 0 < (lg_cmp (Int32.toInt64 ((I l0 1) - (if (I l0 0) < (I p1 3) then (I p1 3) else (I l0 0)))) (0)) then (if sh l1 = (10, 0) then ((ev X d 58 [Value.ref l1, Value.ref l2, Value.int l3, Value.int (I l0 4), Value.int (0), Value.int (I l0 5), Value.int (I l0 6)] (sz, sl, sh, R, I, J)).bind fun q => exe X d 67 52 [Value.ref l0, Value.ref l1, Value.ref l2, Value.int l3, Value.long (Int32.toInt64 ((I l0 1) - (if (I l0 0) < (I p1 3) then (I p1 3) else (I l0 0)))), dm, dm, dm] (q.1.toList ++ [Value.long (Int32.toInt64 (I l0 2))]) q.2) else none) else some (some (Value.long (0)), (sz, sl, sh, R, I, J))) else none) :=
  tq ((E_aload (v := Value.ref l0) rfl rfl f67_0)) (tq (tq ((G9001 f67_1)) (if_pos h0)) (tq ((E_aload (v := Value.ref l0) rfl rfl f67_4)) (tq (tq ((G9000 f67_5)) (if_pos h0)) (tq ((E_aload (v := Value.ref l2) rfl rfl f67_8)) (tq ((G8003 f67_9)) (rf_c fun p1 => ite_c (tq ((E_fadd (Nat.le_of_ble_eq_true rfl) f67_12)) (tq ((E_isub f67_15)) (tq ((E_i2l f67_16)) (tq ((E_lstore rfl (Nat.le_of_ble_eq_true rfl) f67_17)) (tq ((E_lload (x := (Int32.toInt64 ((I l0 1) - (if (I l0 0) < (I p1 3) then (I p1 3) else (I l0 0))))) rfl f67_19)) (tq ((E_lconst (x := (0)) (by decide) f67_21)) (tq ((E_lcmp f67_22)) (tq ((E_if_gt f67_23)) (ite_c (tq ((E_aload (v := Value.ref l0) rfl rfl f67_28)) (tq (tq ((G9002 f67_29)) (if_pos h0)) (tq ((E_i2l f67_32)) (tq ((E_aload (v := Value.ref l1) rfl rfl f67_33)) (tq ((E_aload (v := Value.ref l2) rfl rfl f67_34)) (tq ((E_iload (x := l3) rfl f67_35)) (tq ((E_aload (v := Value.ref l0) rfl rfl f67_36)) (tq (tq ((G9004 f67_37)) (if_pos h0)) (tq ((E_iconst (x := (0)) (by decide) f67_40)) (tq ((E_aload (v := Value.ref l0) rfl rfl f67_41)) (tq (tq ((G9005 f67_42)) (if_pos h0)) (tq ((E_aload (v := Value.ref l0) rfl rfl f67_45)) (tq (tq ((G9006 f67_46)) (if_pos h0)) (tq ((E_callV pn_58 pc_58 rfl rfl (Nat.le_of_ble_eq_true rfl) f67_49)) rf_ref)))))))))))))) (tq ((E_lconst (x := (0)) (by decide) f67_26)) ((E_lret pr_67 f67_27)))))))))))) rfl))))))
theorem t67_52 {X : XX} {d : Nat} {sz sl : Nat} {sh : Nat → Nat × Nat} {R : Nat → Nat → Option Nat} {I : Nat → Nat → Int32} {J : Nat → Nat → Int64} {l0 : Nat} (h0 : sh l0 = (16, 0)) {l1 : Nat} {l2 : Nat} {l3 : Int32} {l4 : Int64} {s0 : Int32} {s1 : Int64} : exe X d 67 52 [Value.ref l0, Value.ref l1, Value.ref l2, Value.int l3, Value.long l4, dm, dm, dm] [Value.int s0, Value.long s1] (sz, sl, sh, R, I, J) =
    (if sh l1 = (10, 0) then ((ev X d 58 [Value.ref l1, Value.ref l2, Value.int l3, Value.int (I l0 4), Value.int (1), Value.int (I l0 5), Value.int (I l0 6)] (sz, sl, sh, R, I, J)).bind fun q => exe X d 67 78 [dm, dm, dm, dm, Value.long l4, dm, dm, dm] (q.1.toList ++ [Value.long (Int32.toInt64 (I l0 3)), Value.long (s1 * (Int32.toInt64 s0))]) q.2) else none) :=
  tq ((E_i2l f67_52)) (tq ((E_lmul f67_53)) (tq ((E_aload (v := Value.ref l0) rfl rfl f67_54)) (tq (tq ((G9003 f67_55)) (if_pos h0)) (tq ((E_i2l f67_58)) (tq ((E_aload (v := Value.ref l1) rfl rfl f67_59)) (tq ((E_aload (v := Value.ref l2) rfl rfl f67_60)) (tq ((E_iload (x := l3) rfl f67_61)) (tq ((E_aload (v := Value.ref l0) rfl rfl f67_62)) (tq (tq ((G9004 f67_63)) (if_pos h0)) (tq ((E_iconst (x := (1)) (by decide) f67_66)) (tq ((E_aload (v := Value.ref l0) rfl rfl f67_67)) (tq (tq ((G9005 f67_68)) (if_pos h0)) (tq ((E_aload (v := Value.ref l0) rfl rfl f67_71)) (tq (tq ((G9006 f67_72)) (if_pos h0)) (tq ((E_callV pn_58 pc_58 rfl rfl (Nat.le_of_ble_eq_true rfl) f67_75)) rf_ref)))))))))))))))
theorem t67_78 {X : XX} {d : Nat} {sz sl : Nat} {sh : Nat → Nat × Nat} {R : Nat → Nat → Option Nat} {I : Nat → Nat → Int32} {J : Nat → Nat → Int64} {l4 : Int64} {s0 : Int32} {s1 : Int64} {s2 : Int64} : exe X d 67 78 [dm, dm, dm, dm, Value.long l4, dm, dm, dm] [Value.int s0, Value.long s1, Value.long s2] (sz, sl, sh, R, I, J) =
    some (some (Value.long (((l4 * (s2 + (s1 * (Int32.toInt64 s0)))) * (300)) / (1000))), (sz, sl, sh, R, I, J)) :=
  tq ((E_i2l f67_78)) (tq ((E_lmul f67_79)) (tq ((E_ladd f67_80)) (tq ((E_lstore rfl (Nat.le_of_ble_eq_true rfl) f67_81)) (tq ((E_lload (x := l4) rfl f67_83)) (tq ((E_lload (x := (s2 + (s1 * (Int32.toInt64 s0)))) rfl f67_85)) (tq ((E_lmul f67_87)) (tq ((E_lconst (x := (300)) (by decide) f67_88)) (tq ((E_lmul f67_91)) (tq ((E_lconst (x := (1000)) (by decide) f67_92)) (tq ((E_ldiv (by decide) f67_95)) ((E_lret pr_67 f67_96))))))))))))
theorem n67 {X : XX} {d : Nat} {h : HP} {l0 : Nat} {a0 : Nat} {a1 : Nat} {a2 : Int32} : ev X (d + 1) 67 [Value.ref l0, Value.ref a0, Value.ref a1, Value.int a2] h = exe X d 67 0 [Value.ref l0, Value.ref a0, Value.ref a1, Value.int a2, dm, dm, dm, dm] [] h := ev_exe (Nat.le_of_ble_eq_true rfl)
theorem f68_0 : fr 68 0 = some (.lload 0, 1, [0], []) := by decide +kernel
theorem f68_1 : fr 68 1 = some (.jsr_w 2000000000, 3, [], []) := by decide +kernel
theorem f68_4 : fr 68 4 = some (.dsub, 3, [], []) := by decide +kernel
theorem f68_7 : fr 68 7 = some (.l2i, 1, [], []) := by decide +kernel
theorem f68_8 : fr 68 8 = some (.ireturn, 1, [], []) := by decide +kernel
theorem t68_0 {X : XX} {d : Nat} {sz sl : Nat} {sh : Nat → Nat × Nat} {R : Nat → Nat → Option Nat} {I : Nat → Nat → Int32} {J : Nat → Nat → Int64} {l0 : Int64} : exe X d 68 0 [Value.long l0, dm] [] (sz, sl, sh, R, I, J) =
    some (some (Value.int (Int64.toInt32 (if (2000000000) < l0 then (2000000000) else l0))), (sz, sl, sh, R, I, J)) :=
  tq ((E_lload (x := l0) rfl f68_0)) (tq ((E_lconst (x := (2000000000)) (by decide) f68_1)) (tq ((E_dsub (Nat.le_of_ble_eq_true rfl) f68_4)) (tq ((E_l2i f68_7)) ((E_iret pr_68 f68_8)))))
theorem n68 {X : XX} {d : Nat} {h : HP} {a0 : Int64} : ev X (d + 1) 68 [Value.long a0] h = exe X d 68 0 [Value.long a0, dm] [] h := ev_exe (Nat.le_of_ble_eq_true rfl)
theorem f69_0 : fr 69 0 = some (.aload 0, 1, [], []) := by decide +kernel
theorem f69_1 : fr 69 1 = some (.iload 1, 1, [1], []) := by decide +kernel
theorem f69_2 : fr 69 2 = some (.invokevirtual 57, 3, [], []) := by decide +kernel
theorem f69_5 : fr 69 5 = some (.astore 3, 1, [], []) := by decide +kernel
theorem f69_6 : fr 69 6 = some (.aload 0, 1, [], []) := by decide +kernel
theorem f69_7 : fr 69 7 = some (.iload 2, 1, [], []) := by decide +kernel
theorem f69_8 : fr 69 8 = some (.invokevirtual 18, 3, [], []) := by decide +kernel
theorem f69_11 : fr 69 11 = some (.astore 4, 2, [], []) := by decide +kernel
theorem f69_13 : fr 69 13 = some (.aload 3, 1, [], []) := by decide +kernel
theorem f69_14 : fr 69 14 = some (.ifnull 22, 3, [], [0, 2, 3, 4]) := by decide +kernel
theorem f69_17 : fr 69 17 = some (.aload 4, 2, [], []) := by decide +kernel
theorem f69_19 : fr 69 19 = some (.ifnonnull 24, 3, [0, 2, 3, 4], []) := by decide +kernel
theorem f69_22 : fr 69 22 = some (.iconst (-1), 1, [], []) := by decide +kernel
theorem f69_23 : fr 69 23 = some (.ireturn, 1, [], []) := by decide +kernel
theorem f69_24 : fr 69 24 = some (.iconst (-2), 2, [], []) := by decide +kernel
theorem f69_26 : fr 69 26 = some (.istore 5, 2, [], []) := by decide +kernel
theorem f69_28 : fr 69 28 = some (.jsr_w 0, 1, [], []) := by decide +kernel
theorem f69_29 : fr 69 29 = some (.lstore 6, 2, [], []) := by decide +kernel
theorem f69_31 : fr 69 31 = some (.iconst 0, 1, [], []) := by decide +kernel
theorem f69_32 : fr 69 32 = some (.istore 8, 2, [], []) := by decide +kernel
theorem f69_34 : fr 69 34 = some (.iload 8, 2, [], []) := by decide +kernel
theorem f69_36 : fr 69 36 = some (.aload 0, 1, [], []) := by decide +kernel
theorem f69_37 : fr 69 37 = some (.getfield 6, 3, [], []) := by decide +kernel
theorem f69_40 : fr 69 40 = some (.if_icmp .ge 82, 3, [], [0, 2, 3, 4, 6, 8]) := by decide +kernel
theorem f69_43 : fr 69 43 = some (.aload 0, 1, [], []) := by decide +kernel
theorem f69_44 : fr 69 44 = some (.aload 3, 1, [], []) := by decide +kernel
theorem f69_45 : fr 69 45 = some (.aload 4, 2, [], []) := by decide +kernel
theorem f69_47 : fr 69 47 = some (.iload 2, 1, [], []) := by decide +kernel
theorem f69_48 : fr 69 48 = some (.iconst 10, 2, [], []) := by decide +kernel
theorem f69_50 : fr 69 50 = some (.irem, 1, [], []) := by decide +kernel
theorem f69_51 : fr 69 51 = some (.iconst 1, 1, [], []) := by decide +kernel
theorem f69_52 : fr 69 52 = some (.iload 8, 2, [], []) := by decide +kernel
theorem f69_54 : fr 69 54 = some (.ishl, 1, [], []) := by decide +kernel
theorem f69_55 : fr 69 55 = some (.invokevirtual 66, 3, [], []) := by decide +kernel
theorem f69_58 : fr 69 58 = some (.lstore 9, 2, [], []) := by decide +kernel
theorem f69_60 : fr 69 60 = some (.lload 9, 2, [], []) := by decide +kernel
theorem f69_62 : fr 69 62 = some (.lload 6, 2, [], []) := by decide +kernel
theorem f69_64 : fr 69 64 = some (.lcmp, 1, [], []) := by decide +kernel
theorem f69_65 : fr 69 65 = some (.ifCond .le 76, 3, [5, 6], [9]) := by decide +kernel
theorem f69_68 : fr 69 68 = some (.iload 8, 2, [], []) := by decide +kernel
theorem f69_70 : fr 69 70 = some (.istore 5, 2, [], []) := by decide +kernel
theorem f69_72 : fr 69 72 = some (.lload 9, 2, [9], []) := by decide +kernel
theorem f69_74 : fr 69 74 = some (.lstore 6, 2, [], []) := by decide +kernel
theorem f69_76 : fr 69 76 = some (.iinc 8 1, 3, [], []) := by decide +kernel
theorem f69_79 : fr 69 79 = some (.goto 34, 3, [], []) := by decide +kernel
theorem f69_82 : fr 69 82 = some (.iload 5, 2, [5], []) := by decide +kernel
theorem f69_84 : fr 69 84 = some (.ireturn, 1, [], []) := by decide +kernel
theorem t69_0 {X : XX} {d : Nat} {sz sl : Nat} {sh : Nat → Nat × Nat} {R : Nat → Nat → Option Nat} {I : Nat → Nat → Int32} {J : Nat → Nat → Int64} (hS : SF sh R) {l1 : Int32} {l2 : Int32} : exe X d 69 0 [Value.ref 0, Value.int l1, Value.int l2, dm, dm, dm, dm, dm, dm, dm, dm] [] (sz, sl, sh, R, I, J) =
    ((ev X d 57 [Value.ref 0, Value.int l1] (sz, sl, sh, R, I, J)).bind fun q => exe X d 69 5 [Value.ref 0, dm, Value.int l2, dm, dm, dm, dm, dm, dm, dm, dm] (q.1.toList ++ []) q.2) :=
  tq ((E_aload (v := Value.ref 0) rfl rfl f69_0)) (tq ((E_iload (x := l1) rfl f69_1)) ((tq ((E_callV pn_57 pc_57 rfl rfl (Nat.le_of_ble_eq_true rfl) f69_2)) (if_pos (zS0 hS)))))
theorem t69_5 {X : XX} {d : Nat} {sz sl : Nat} {sh : Nat → Nat × Nat} {R : Nat → Nat → Option Nat} {I : Nat → Nat → Int32} {J : Nat → Nat → Int64} (hS : SF sh R) {l2 : Int32} {s0 : Value} (k0 : isB s0 = true) : exe X d 69 5 [Value.ref 0, dm, Value.int l2, dm, dm, dm, dm, dm, dm, dm, dm] [s0] (sz, sl, sh, R, I, J) =
    ((ev X d 18 [Value.ref 0, Value.int l2] (sz, sl, sh, R, I, J)).bind fun q => exe X d 69 11 [Value.ref 0, dm, Value.int l2, s0, dm, dm, dm, dm, dm, dm, dm] (q.1.toList ++ []) q.2) :=
  tq ((E_astore k0 rfl f69_5)) (tq ((E_aload (v := Value.ref 0) rfl rfl f69_6)) (tq ((E_iload (x := l2) rfl f69_7)) ((tq ((E_callV pn_18 pc_18 rfl rfl (Nat.le_of_ble_eq_true rfl) f69_8)) (if_pos (zS0 hS))))))
theorem t69_11 {X : XX} {d : Nat} {sz sl : Nat} {sh : Nat → Nat × Nat} {R : Nat → Nat → Option Nat} {I : Nat → Nat → Int32} {J : Nat → Nat → Int64} {l2 : Int32} {l3 : Value} (h3 : isB l3 = true) {s0 : Value} (k0 : isB s0 = true) : exe X d 69 11 [Value.ref 0, dm, Value.int l2, l3, dm, dm, dm, dm, dm, dm, dm] [s0] (sz, sl, sh, R, I, J) =
    (nn (l3) (some (some (Value.int (-1)), (sz, sl, sh, R, I, J))) ((nn (s0) (some (some (Value.int (-1)), (sz, sl, sh, R, I, J))) (exe X d 69 34 [Value.ref 0, dm, Value.int l2, l3, s0, Value.int (-2), Value.long (0), dm, Value.int (0), dm, dm] [] (sz, sl, sh, R, I, J))))) :=
  tq ((E_astore k0 (okS_A (Nat.lt_of_sub_eq_succ rfl) rfl h3) f69_11)) (tq ((E_aload (v := l3) rfl (isBA h3) f69_13)) (tq ((E_ifnull f69_14)) (nn_c (tq ((E_iconst (x := (-1)) (by decide) f69_22)) ((E_iret pr_69 f69_23))) (tq ((E_aload (v := s0) rfl (isBA k0) f69_17)) (tq ((E_ifnonnull f69_19)) (nn_c (tq ((E_iconst (x := (-1)) (by decide) f69_22)) ((E_iret pr_69 f69_23))) (tq ((E_iconst (x := (-2)) (by decide) f69_24)) (tq ((E_istore (okS_A (Nat.lt_of_sub_eq_succ rfl) rfl k0) f69_26)) (tq ((E_lconst (x := (0)) (by decide) f69_28)) (tq ((E_lstore rfl (Nat.le_of_ble_eq_true rfl) f69_29)) (tq ((E_iconst (x := (0)) (by decide) f69_31)) ((E_istore rfl f69_32)))))))))))))
theorem t69_34 {X : XX} {d : Nat} {sz sl : Nat} {sh : Nat → Nat × Nat} {R : Nat → Nat → Option Nat} {I : Nat → Nat → Int32} {J : Nat → Nat → Int64} (hS : SF sh R) {l2 : Int32} {l3 : Value} (h3 : isB l3 = true) {l4 : Value} (h4 : isB l4 = true) {l5 : Int32} {l6 : Int64} {l8 : Int32} : exe X d 69 34 [Value.ref 0, dm, Value.int l2, l3, l4, Value.int l5, Value.long l6, dm, Value.int l8, dm, dm] [] (sz, sl, sh, R, I, J) =
    (if (I 0 6) ≤ l8 then some (some (Value.int l5), (sz, sl, sh, R, I, J)) else ((ev X d 66 [Value.ref 0, l3, l4, Value.int (l2 - l2 / (10) * (10)), Value.int ((1) <<< (l8 &&& 31))] (sz, sl, sh, R, I, J)).bind fun q => exe X d 69 58 [Value.ref 0, dm, Value.int l2, l3, l4, Value.int l5, Value.long l6, dm, Value.int l8, dm, dm] (q.1.toList ++ []) q.2)) :=
  tq ((E_iload (x := l8) rfl f69_34)) (tq ((E_aload (v := Value.ref 0) rfl rfl f69_36)) (tq (tq ((G6 f69_37)) (if_pos (zS0 hS))) (tq ((E_ic_ge f69_40)) (ite_c (tq ((E_iload (x := l5) rfl f69_82)) ((E_iret pr_69 f69_84))) (tq ((E_aload (v := Value.ref 0) rfl rfl f69_43)) (tq ((E_aload (v := l3) rfl (isBA h3) f69_44)) (tq ((E_aload (v := l4) rfl (isBA h4) f69_45)) (tq ((E_iload (x := l2) rfl f69_47)) (tq ((E_iconst (x := (10)) (by decide) f69_48)) (tq ((E_irem (by decide) f69_50)) (tq ((E_iconst (x := (1)) (by decide) f69_51)) (tq ((E_iload (x := l8) rfl f69_52)) (tq ((E_ishl f69_54)) ((tq ((E_callV pn_66 pc_66 rfl rfl (Nat.le_of_ble_eq_true rfl) f69_55)) (if_pos (zS0 hS)))))))))))))))))
theorem t69_58 {X : XX} {d : Nat} {sz sl : Nat} {sh : Nat → Nat × Nat} {R : Nat → Nat → Option Nat} {I : Nat → Nat → Int32} {J : Nat → Nat → Int64} {l2 : Int32} {l3 : Value} (h3 : isB l3 = true) {l4 : Value} (h4 : isB l4 = true) {l5 : Int32} {l6 : Int64} {l8 : Int32} {s0 : Int64} : exe X d 69 58 [Value.ref 0, dm, Value.int l2, l3, l4, Value.int l5, Value.long l6, dm, Value.int l8, dm, dm] [Value.long s0] (sz, sl, sh, R, I, J) =
    (if (lg_cmp s0 l6) ≤ 0 then exe X d 69 34 [Value.ref 0, dm, Value.int l2, l3, l4, Value.int l5, Value.long l6, dm, Value.int (l8 + (1)), dm, dm] [] (sz, sl, sh, R, I, J) else exe X d 69 34 [Value.ref 0, dm, Value.int l2, l3, l4, Value.int l8, Value.long s0, dm, Value.int (l8 + (1)), dm, dm] [] (sz, sl, sh, R, I, J)) :=
  tq ((E_lstore rfl (Nat.le_of_ble_eq_true rfl) f69_58)) (tq ((E_lload (x := s0) rfl f69_60)) (tq ((E_lload (x := l6) rfl f69_62)) (tq ((E_lcmp f69_64)) (tq ((E_if_le f69_65)) (ite_c (tq ((E_iinc (x := l8) (x' := (1)) rfl rfl (by decide) f69_76)) ((E_goto f69_79))) (tq ((E_iload (x := l8) rfl f69_68)) (tq ((E_istore (okS_A (Nat.lt_of_sub_eq_succ rfl) rfl h4) f69_70)) (tq ((E_lload (x := s0) rfl f69_72)) (tq ((E_lstore rfl (Nat.le_of_ble_eq_true rfl) f69_74)) (tq ((E_iinc (x := l8) (x' := (1)) rfl rfl (by decide) f69_76)) ((E_goto f69_79))))))))))))
theorem n69 {X : XX} {d : Nat} {h : HP} {a0 : Int32} {a1 : Int32} : ev X (d + 1) 69 [Value.ref 0, Value.int a0, Value.int a1] h = exe X d 69 0 [Value.ref 0, Value.int a0, Value.int a1, dm, dm, dm, dm, dm, dm, dm, dm] [] h := ev_exe (Nat.le_of_ble_eq_true rfl)
theorem f70_0 : fr 70 0 = some (.aload 0, 1, [], []) := by decide +kernel
theorem f70_1 : fr 70 1 = some (.iload 1, 1, [1], []) := by decide +kernel
theorem f70_2 : fr 70 2 = some (.invokevirtual 57, 3, [], []) := by decide +kernel
theorem f70_5 : fr 70 5 = some (.astore 4, 2, [], []) := by decide +kernel
theorem f70_7 : fr 70 7 = some (.aload 0, 1, [], []) := by decide +kernel
theorem f70_8 : fr 70 8 = some (.iload 2, 1, [2], []) := by decide +kernel
theorem f70_9 : fr 70 9 = some (.invokevirtual 12, 3, [], []) := by decide +kernel
theorem f70_12 : fr 70 12 = some (.astore 5, 2, [], []) := by decide +kernel
theorem f70_14 : fr 70 14 = some (.aload 4, 2, [], []) := by decide +kernel
theorem f70_16 : fr 70 16 = some (.ifnull 38, 3, [], [0, 3, 4, 5]) := by decide +kernel
theorem f70_19 : fr 70 19 = some (.aload 5, 2, [], []) := by decide +kernel
theorem f70_21 : fr 70 21 = some (.ifnull 38, 3, [], [0, 3, 4, 5]) := by decide +kernel
theorem f70_24 : fr 70 24 = some (.iload 3, 1, [], []) := by decide +kernel
theorem f70_25 : fr 70 25 = some (.iconst 0, 1, [], []) := by decide +kernel
theorem f70_26 : fr 70 26 = some (.aload 0, 1, [], []) := by decide +kernel
theorem f70_27 : fr 70 27 = some (.getfield 6, 3, [], []) := by decide +kernel
theorem f70_30 : fr 70 30 = some (.iconst 1, 1, [], []) := by decide +kernel
theorem f70_31 : fr 70 31 = some (.isub, 1, [], []) := by decide +kernel
theorem f70_32 : fr 70 32 = some (.invokestatic 10, 3, [], []) := by decide +kernel
theorem f70_35 : fr 70 35 = some (.ifCond .ne 40, 3, [0, 3, 4, 5], []) := by decide +kernel
theorem f70_38 : fr 70 38 = some (.iconst (-1), 1, [], []) := by decide +kernel
theorem f70_39 : fr 70 39 = some (.ireturn, 1, [], []) := by decide +kernel
theorem f70_40 : fr 70 40 = some (.jsr_w 0, 1, [], []) := by decide +kernel
theorem f70_41 : fr 70 41 = some (.lstore 6, 2, [], []) := by decide +kernel
theorem f70_43 : fr 70 43 = some (.jsr_w 0, 1, [], []) := by decide +kernel
theorem f70_44 : fr 70 44 = some (.lstore 8, 2, [], []) := by decide +kernel
theorem f70_46 : fr 70 46 = some (.iconst 0, 1, [], []) := by decide +kernel
theorem f70_47 : fr 70 47 = some (.istore 10, 2, [], []) := by decide +kernel
theorem f70_49 : fr 70 49 = some (.iload 10, 2, [], []) := by decide +kernel
theorem f70_51 : fr 70 51 = some (.iconst 8, 2, [], []) := by decide +kernel
theorem f70_53 : fr 70 53 = some (.if_icmp .ge 103, 3, [], [0, 3, 4, 5, 10]) := by decide +kernel
theorem f70_56 : fr 70 56 = some (.lload 6, 2, [6], []) := by decide +kernel
theorem f70_58 : fr 70 58 = some (.aload 0, 1, [], []) := by decide +kernel
theorem f70_59 : fr 70 59 = some (.aload 4, 2, [], []) := by decide +kernel
theorem f70_61 : fr 70 61 = some (.aload 5, 2, [], []) := by decide +kernel
theorem f70_63 : fr 70 63 = some (.iload 10, 2, [], []) := by decide +kernel
theorem f70_65 : fr 70 65 = some (.iconst 1, 1, [], []) := by decide +kernel
theorem f70_66 : fr 70 66 = some (.iload 3, 1, [], []) := by decide +kernel
theorem f70_67 : fr 70 67 = some (.ishl, 1, [], []) := by decide +kernel
theorem f70_68 : fr 70 68 = some (.invokevirtual 66, 3, [], []) := by decide +kernel
theorem f70_71 : fr 70 71 = some (.ladd, 1, [], []) := by decide +kernel
theorem f70_72 : fr 70 72 = some (.lstore 6, 2, [], []) := by decide +kernel
theorem f70_74 : fr 70 74 = some (.lload 8, 2, [8], []) := by decide +kernel
theorem f70_76 : fr 70 76 = some (.aload 0, 1, [], []) := by decide +kernel
theorem f70_77 : fr 70 77 = some (.aload 4, 2, [], []) := by decide +kernel
theorem f70_79 : fr 70 79 = some (.aload 5, 2, [], []) := by decide +kernel
theorem f70_81 : fr 70 81 = some (.iload 10, 2, [], []) := by decide +kernel
theorem f70_83 : fr 70 83 = some (.iconst 1, 1, [], []) := by decide +kernel
theorem f70_84 : fr 70 84 = some (.aload 0, 1, [], []) := by decide +kernel
theorem f70_85 : fr 70 85 = some (.getfield 6, 3, [], []) := by decide +kernel
theorem f70_88 : fr 70 88 = some (.ishl, 1, [], []) := by decide +kernel
theorem f70_89 : fr 70 89 = some (.iconst 1, 1, [], []) := by decide +kernel
theorem f70_90 : fr 70 90 = some (.isub, 1, [], []) := by decide +kernel
theorem f70_91 : fr 70 91 = some (.invokevirtual 66, 3, [], []) := by decide +kernel
theorem f70_94 : fr 70 94 = some (.ladd, 1, [], []) := by decide +kernel
theorem f70_95 : fr 70 95 = some (.lstore 8, 2, [], []) := by decide +kernel
theorem f70_97 : fr 70 97 = some (.iinc 10 1, 3, [], []) := by decide +kernel
theorem f70_100 : fr 70 100 = some (.goto 49, 3, [], []) := by decide +kernel
theorem f70_103 : fr 70 103 = some (.lload 8, 2, [], []) := by decide +kernel
theorem f70_105 : fr 70 105 = some (.jsr_w 0, 1, [], []) := by decide +kernel
theorem f70_106 : fr 70 106 = some (.lcmp, 1, [], []) := by decide +kernel
theorem f70_107 : fr 70 107 = some (.ifCond .gt 115, 3, [6, 8], []) := by decide +kernel
theorem f70_110 : fr 70 110 = some (.iconst (-2), 2, [], []) := by decide +kernel
theorem f70_112 : fr 70 112 = some (.goto 125, 3, [], []) := by decide +kernel
theorem f70_115 : fr 70 115 = some (.lload 6, 2, [6], []) := by decide +kernel
theorem f70_117 : fr 70 117 = some (.jsr_w 1000, 3, [], []) := by decide +kernel
theorem f70_120 : fr 70 120 = some (.lmul, 1, [], []) := by decide +kernel
theorem f70_121 : fr 70 121 = some (.lload 8, 2, [8], []) := by decide +kernel
theorem f70_123 : fr 70 123 = some (.ldiv, 1, [], []) := by decide +kernel
theorem f70_124 : fr 70 124 = some (.l2i, 1, [], []) := by decide +kernel
theorem f70_125 : fr 70 125 = some (.ireturn, 1, [], []) := by decide +kernel
theorem t70_0 {X : XX} {d : Nat} {sz sl : Nat} {sh : Nat → Nat × Nat} {R : Nat → Nat → Option Nat} {I : Nat → Nat → Int32} {J : Nat → Nat → Int64} (hS : SF sh R) {l1 : Int32} {l2 : Int32} {l3 : Int32} : exe X d 70 0 [Value.ref 0, Value.int l1, Value.int l2, Value.int l3, dm, dm, dm, dm, dm, dm, dm] [] (sz, sl, sh, R, I, J) =
    ((ev X d 57 [Value.ref 0, Value.int l1] (sz, sl, sh, R, I, J)).bind fun q => exe X d 70 5 [Value.ref 0, dm, Value.int l2, Value.int l3, dm, dm, dm, dm, dm, dm, dm] (q.1.toList ++ []) q.2) :=
  tq ((E_aload (v := Value.ref 0) rfl rfl f70_0)) (tq ((E_iload (x := l1) rfl f70_1)) ((tq ((E_callV pn_57 pc_57 rfl rfl (Nat.le_of_ble_eq_true rfl) f70_2)) (if_pos (zS0 hS)))))
theorem t70_5 {X : XX} {d : Nat} {sz sl : Nat} {sh : Nat → Nat × Nat} {R : Nat → Nat → Option Nat} {I : Nat → Nat → Int32} {J : Nat → Nat → Int64} (hS : SF sh R) {l2 : Int32} {l3 : Int32} {s0 : Value} (k0 : isB s0 = true) : exe X d 70 5 [Value.ref 0, dm, Value.int l2, Value.int l3, dm, dm, dm, dm, dm, dm, dm] [s0] (sz, sl, sh, R, I, J) =
    ((ev X d 12 [Value.ref 0, Value.int l2] (sz, sl, sh, R, I, J)).bind fun q => exe X d 70 12 [Value.ref 0, dm, dm, Value.int l3, s0, dm, dm, dm, dm, dm, dm] (q.1.toList ++ []) q.2) :=
  tq ((E_astore k0 rfl f70_5)) (tq ((E_aload (v := Value.ref 0) rfl rfl f70_7)) (tq ((E_iload (x := l2) rfl f70_8)) ((tq ((E_callV pn_12 pc_12 rfl rfl (Nat.le_of_ble_eq_true rfl) f70_9)) (if_pos (zS0 hS))))))
theorem t70_12 {X : XX} {d : Nat} {sz sl : Nat} {sh : Nat → Nat × Nat} {R : Nat → Nat → Option Nat} {I : Nat → Nat → Int32} {J : Nat → Nat → Int64} (hS : SF sh R) {l3 : Int32} {l4 : Value} (h4 : isB l4 = true) {s0 : Value} (k0 : isB s0 = true) : exe X d 70 12 [Value.ref 0, dm, dm, Value.int l3, l4, dm, dm, dm, dm, dm, dm] [s0] (sz, sl, sh, R, I, J) =
    (nn (l4) (some (some (Value.int (-1)), (sz, sl, sh, R, I, J))) ((nn (s0) (some (some (Value.int (-1)), (sz, sl, sh, R, I, J))) (((ev X d 10 [Value.int l3, Value.int (0), Value.int ((I 0 6) - (1))] (sz, sl, sh, R, I, J)).bind fun q => exe X d 70 35 [Value.ref 0, dm, dm, Value.int l3, l4, s0, dm, dm, dm, dm, dm] (q.1.toList ++ []) q.2))))) :=
  tq ((E_astore k0 (okS_A (Nat.lt_of_sub_eq_succ rfl) rfl h4) f70_12)) (tq ((E_aload (v := l4) rfl (isBA h4) f70_14)) (tq ((E_ifnull f70_16)) (nn_c (tq ((E_iconst (x := (-1)) (by decide) f70_38)) ((E_iret pr_70 f70_39))) (tq ((E_aload (v := s0) rfl (isBA k0) f70_19)) (tq ((E_ifnull f70_21)) (nn_c (tq ((E_iconst (x := (-1)) (by decide) f70_38)) ((E_iret pr_70 f70_39))) (tq ((E_iload (x := l3) rfl f70_24)) (tq ((E_iconst (x := (0)) (by decide) f70_25)) (tq ((E_aload (v := Value.ref 0) rfl rfl f70_26)) (tq (tq ((G6 f70_27)) (if_pos (zS0 hS))) (tq ((E_iconst (x := (1)) (by decide) f70_30)) (tq ((E_isub f70_31)) ((E_callS pn_10 rfl rfl (Nat.le_of_ble_eq_true rfl) (Nat.le_of_ble_eq_true rfl) f70_32))))))))))))))
theorem t70_35 {X : XX} {d : Nat} {sz sl : Nat} {sh : Nat → Nat × Nat} {R : Nat → Nat → Option Nat} {I : Nat → Nat → Int32} {J : Nat → Nat → Int64} {l3 : Int32} {l4 : Value} (h4 : isB l4 = true) {l5 : Value} (h5 : isB l5 = true) {s0 : Int32} : exe X d 70 35 [Value.ref 0, dm, dm, Value.int l3, l4, l5, dm, dm, dm, dm, dm] [Value.int s0] (sz, sl, sh, R, I, J) =
    (if ¬ s0 = 0 then exe X d 70 49 [Value.ref 0, dm, dm, Value.int l3, l4, l5, Value.long (0), dm, Value.long (0), dm, Value.int (0)] [] (sz, sl, sh, R, I, J) else some (some (Value.int (-1)), (sz, sl, sh, R, I, J))) :=
  tq ((E_if_ne f70_35)) (ite_c (tq ((E_lconst (x := (0)) (by decide) f70_40)) (tq ((E_lstore (okS_A (Nat.lt_of_sub_eq_succ rfl) rfl h5) (Nat.le_of_ble_eq_true rfl) f70_41)) (tq ((E_lconst (x := (0)) (by decide) f70_43)) (tq ((E_lstore rfl (Nat.le_of_ble_eq_true rfl) f70_44)) (tq ((E_iconst (x := (0)) (by decide) f70_46)) ((E_istore rfl f70_47))))))) (tq ((E_iconst (x := (-1)) (by decide) f70_38)) ((E_iret pr_70 f70_39))))
theorem t70_49 {X : XX} {d : Nat} {sz sl : Nat} {sh : Nat → Nat × Nat} {R : Nat → Nat → Option Nat} {I : Nat → Nat → Int32} {J : Nat → Nat → Int64} (hS : SF sh R) {l3 : Int32} {l4 : Value} (h4 : isB l4 = true) {l5 : Value} (h5 : isB l5 = true) {l6 : Int64} {l8 : Int64} {l10 : Int32} : exe X d 70 49 [Value.ref 0, dm, dm, Value.int l3, l4, l5, Value.long l6, dm, Value.long l8, dm, Value.int l10] [] (sz, sl, sh, R, I, J) =
    (if (8) ≤ l10 then (if 0 < (lg_cmp l8 (0)) then (if l8 = 0 then none else some (some (Value.int (Int64.toInt32 ((l6 * (1000)) / l8))), (sz, sl, sh, R, I, J))) else some (some (Value.int (-2)), (sz, sl, sh, R, I, J))) else ((ev X d 66 [Value.ref 0, l4, l5, Value.int l10, Value.int ((1) <<< (l3 &&& 31))] (sz, sl, sh, R, I, J)).bind fun q => exe X d 70 71 [Value.ref 0, dm, dm, Value.int l3, l4, l5, dm, dm, Value.long l8, dm, Value.int l10] (q.1.toList ++ [Value.long l6]) q.2)) :=
  tq ((E_iload (x := l10) rfl f70_49)) (tq ((E_iconst (x := (8)) (by decide) f70_51)) (tq ((E_ic_ge f70_53)) (ite_c (tq ((E_lload (x := l8) rfl f70_103)) (tq ((E_lconst (x := (0)) (by decide) f70_105)) (tq ((E_lcmp f70_106)) (tq ((E_if_gt f70_107)) (ite_c (tq ((E_lload (x := l6) rfl f70_115)) (tq ((E_lconst (x := (1000)) (by decide) f70_117)) (tq ((E_lmul f70_120)) (tq ((E_lload (x := l8) rfl f70_121)) (tq (E_ldiv' f70_123) (ite_c rfl (tq ((E_l2i f70_124)) ((E_iret pr_70 f70_125))))))))) (tq ((E_iconst (x := (-2)) (by decide) f70_110)) (tq ((E_goto f70_112)) ((E_iret pr_70 f70_125))))))))) (tq ((E_lload (x := l6) rfl f70_56)) (tq ((E_aload (v := Value.ref 0) rfl rfl f70_58)) (tq ((E_aload (v := l4) rfl (isBA h4) f70_59)) (tq ((E_aload (v := l5) rfl (isBA h5) f70_61)) (tq ((E_iload (x := l10) rfl f70_63)) (tq ((E_iconst (x := (1)) (by decide) f70_65)) (tq ((E_iload (x := l3) rfl f70_66)) (tq ((E_ishl f70_67)) ((tq ((E_callV pn_66 pc_66 rfl rfl (Nat.le_of_ble_eq_true rfl) f70_68)) (if_pos (zS0 hS)))))))))))))))
theorem t70_71 {X : XX} {d : Nat} {sz sl : Nat} {sh : Nat → Nat × Nat} {R : Nat → Nat → Option Nat} {I : Nat → Nat → Int32} {J : Nat → Nat → Int64} (hS : SF sh R) {l3 : Int32} {l4 : Value} (h4 : isB l4 = true) {l5 : Value} (h5 : isB l5 = true) {l8 : Int64} {l10 : Int32} {s0 : Int64} {s1 : Int64} : exe X d 70 71 [Value.ref 0, dm, dm, Value.int l3, l4, l5, dm, dm, Value.long l8, dm, Value.int l10] [Value.long s0, Value.long s1] (sz, sl, sh, R, I, J) =
    ((ev X d 66 [Value.ref 0, l4, l5, Value.int l10, Value.int (((1) <<< ((I 0 6) &&& 31)) - (1))] (sz, sl, sh, R, I, J)).bind fun q => exe X d 70 94 [Value.ref 0, dm, dm, Value.int l3, l4, l5, Value.long (s1 + s0), dm, dm, dm, Value.int l10] (q.1.toList ++ [Value.long l8]) q.2) :=
  tq ((E_ladd f70_71)) (tq ((E_lstore (okS_A (Nat.lt_of_sub_eq_succ rfl) rfl h5) (Nat.le_of_ble_eq_true rfl) f70_72)) (tq ((E_lload (x := l8) rfl f70_74)) (tq ((E_aload (v := Value.ref 0) rfl rfl f70_76)) (tq ((E_aload (v := l4) rfl (isBA h4) f70_77)) (tq ((E_aload (v := l5) rfl (isBA h5) f70_79)) (tq ((E_iload (x := l10) rfl f70_81)) (tq ((E_iconst (x := (1)) (by decide) f70_83)) (tq ((E_aload (v := Value.ref 0) rfl rfl f70_84)) (tq (tq ((G6 f70_85)) (if_pos (zS0 hS))) (tq ((E_ishl f70_88)) (tq ((E_iconst (x := (1)) (by decide) f70_89)) (tq ((E_isub f70_90)) ((tq ((E_callV pn_66 pc_66 rfl rfl (Nat.le_of_ble_eq_true rfl) f70_91)) (if_pos (zS0 hS))))))))))))))))
theorem t70_94 {X : XX} {d : Nat} {sz sl : Nat} {sh : Nat → Nat × Nat} {R : Nat → Nat → Option Nat} {I : Nat → Nat → Int32} {J : Nat → Nat → Int64} {l3 : Int32} {l4 : Value} (h4 : isB l4 = true) {l5 : Value} (h5 : isB l5 = true) {l6 : Int64} {l10 : Int32} {s0 : Int64} {s1 : Int64} : exe X d 70 94 [Value.ref 0, dm, dm, Value.int l3, l4, l5, Value.long l6, dm, dm, dm, Value.int l10] [Value.long s0, Value.long s1] (sz, sl, sh, R, I, J) =
    exe X d 70 49 [Value.ref 0, dm, dm, Value.int l3, l4, l5, Value.long l6, dm, Value.long (s1 + s0), dm, Value.int (l10 + (1))] [] (sz, sl, sh, R, I, J) :=
  tq ((E_ladd f70_94)) (tq ((E_lstore rfl (Nat.le_of_ble_eq_true rfl) f70_95)) (tq ((E_iinc (x := l10) (x' := (1)) rfl rfl (by decide) f70_97)) ((E_goto f70_100))))
theorem n70 {X : XX} {d : Nat} {h : HP} {a0 : Int32} {a1 : Int32} {a2 : Int32} : ev X (d + 1) 70 [Value.ref 0, Value.int a0, Value.int a1, Value.int a2] h = exe X d 70 0 [Value.ref 0, Value.int a0, Value.int a1, Value.int a2, dm, dm, dm, dm, dm, dm, dm] [] h := ev_exe (Nat.le_of_ble_eq_true rfl)
theorem f71_0 : fr 71 0 = some (.aload 0, 1, [0], []) := by decide +kernel
theorem f71_1 : fr 71 1 = some (.iload 1, 1, [1], []) := by decide +kernel
theorem f71_2 : fr 71 2 = some (.invokevirtual 12, 3, [], []) := by decide +kernel
theorem f71_5 : fr 71 5 = some (.astore 3, 1, [], []) := by decide +kernel
theorem f71_6 : fr 71 6 = some (.aload 3, 1, [], []) := by decide +kernel
theorem f71_7 : fr 71 7 = some (.ifnonnull 13, 3, [2, 3], []) := by decide +kernel
theorem f71_10 : fr 71 10 = some (.iconst (-2000000000), 2, [], []) := by decide +kernel
theorem f71_12 : fr 71 12 = some (.ireturn, 1, [], []) := by decide +kernel
theorem f71_13 : fr 71 13 = some (.iload 2, 1, [2], []) := by decide +kernel
theorem f71_14 : fr 71 14 = some (.lookupswitch 55 #[(0, 40), (1, 45), (2, 50)], 26, [], []) := by decide +kernel
theorem f71_40 : fr 71 40 = some (.aload 3, 1, [3], []) := by decide +kernel
theorem f71_41 : fr 71 41 = some (.invokevirtual 72, 3, [], []) := by decide +kernel
theorem f71_44 : fr 71 44 = some (.ireturn, 1, [], []) := by decide +kernel
theorem f71_45 : fr 71 45 = some (.aload 3, 1, [3], []) := by decide +kernel
theorem f71_46 : fr 71 46 = some (.invokevirtual 73, 3, [], []) := by decide +kernel
theorem f71_49 : fr 71 49 = some (.ireturn, 1, [], []) := by decide +kernel
theorem f71_50 : fr 71 50 = some (.aload 3, 1, [3], []) := by decide +kernel
theorem f71_51 : fr 71 51 = some (.invokevirtual 74, 3, [], []) := by decide +kernel
theorem f71_54 : fr 71 54 = some (.ireturn, 1, [], []) := by decide +kernel
theorem f71_55 : fr 71 55 = some (.iconst (-2000000000), 2, [3], []) := by decide +kernel
theorem f71_57 : fr 71 57 = some (.ireturn, 1, [], []) := by decide +kernel
theorem t71_0 {X : XX} {d : Nat} {sz sl : Nat} {sh : Nat → Nat × Nat} {R : Nat → Nat → Option Nat} {I : Nat → Nat → Int32} {J : Nat → Nat → Int64} (hS : SF sh R) {l1 : Int32} {l2 : Int32} : exe X d 71 0 [Value.ref 0, Value.int l1, Value.int l2, dm] [] (sz, sl, sh, R, I, J) =
    ((ev X d 12 [Value.ref 0, Value.int l1] (sz, sl, sh, R, I, J)).bind fun q => exe X d 71 5 [dm, dm, Value.int l2, dm] (q.1.toList ++ []) q.2) :=
  tq ((E_aload (v := Value.ref 0) rfl rfl f71_0)) (tq ((E_iload (x := l1) rfl f71_1)) ((tq ((E_callV pn_12 pc_12 rfl rfl (Nat.le_of_ble_eq_true rfl) f71_2)) (if_pos (zS0 hS)))))
theorem t71_5 {X : XX} {d : Nat} {sz sl : Nat} {sh : Nat → Nat × Nat} {R : Nat → Nat → Option Nat} {I : Nat → Nat → Int32} {J : Nat → Nat → Int64} {l2 : Int32} {s0 : Value} (k0 : isB s0 = true) : exe X d 71 5 [dm, dm, Value.int l2, dm] [s0] (sz, sl, sh, R, I, J) =
    (nn (s0) (some (some (Value.int (-2000000000)), (sz, sl, sh, R, I, J))) ((if l2 = (0) then (rf (s0) fun p3 => if sh p3 = (15, 0) then ((ev X d 72 [Value.ref p3] (sz, sl, sh, R, I, J)).bind fun q => exe X d 71 44 [dm, dm, dm, dm] (q.1.toList ++ []) q.2) else none) else (if l2 = (1) then (rf (s0) fun p2 => if sh p2 = (15, 0) then ((ev X d 73 [Value.ref p2] (sz, sl, sh, R, I, J)).bind fun q => exe X d 71 49 [dm, dm, dm, dm] (q.1.toList ++ []) q.2) else none) else (if l2 = (2) then (rf (s0) fun p1 => if sh p1 = (15, 0) then ((ev X d 74 [Value.ref p1] (sz, sl, sh, R, I, J)).bind fun q => exe X d 71 54 [dm, dm, dm, dm] (q.1.toList ++ []) q.2) else none) else some (some (Value.int (-2000000000)), (sz, sl, sh, R, I, J))))))) :=
  tq ((E_astore k0 rfl f71_5)) (tq ((E_aload (v := s0) rfl (isBA k0) f71_6)) (tq ((E_ifnonnull f71_7)) (nn_c (tq ((E_iconst (x := (-2000000000)) (by decide) f71_10)) ((E_iret pr_71 f71_12))) (tq ((E_iload (x := l2) rfl f71_13)) (tq ((E_sw f71_14)) (sw_c (by decide) (tq ((E_aload (v := s0) rfl (isBA k0) f71_40)) ((E_callV pn_72 pc_72 rfl rfl (Nat.le_of_ble_eq_true rfl) f71_41))) (sw_c (by decide) (tq ((E_aload (v := s0) rfl (isBA k0) f71_45)) ((E_callV pn_73 pc_73 rfl rfl (Nat.le_of_ble_eq_true rfl) f71_46))) (sw_c (by decide) (tq ((E_aload (v := s0) rfl (isBA k0) f71_50)) ((E_callV pn_74 pc_74 rfl rfl (Nat.le_of_ble_eq_true rfl) f71_51))) (tq ((E_iconst (x := (-2000000000)) (by decide) f71_55)) ((E_iret pr_71 f71_57)))))))))))
theorem t71_44 {X : XX} {d : Nat} {sz sl : Nat} {sh : Nat → Nat × Nat} {R : Nat → Nat → Option Nat} {I : Nat → Nat → Int32} {J : Nat → Nat → Int64} {s0 : Int32} : exe X d 71 44 [dm, dm, dm, dm] [Value.int s0] (sz, sl, sh, R, I, J) =
    some (some (Value.int s0), (sz, sl, sh, R, I, J)) :=
  (E_iret pr_71 f71_44)
theorem t71_49 {X : XX} {d : Nat} {sz sl : Nat} {sh : Nat → Nat × Nat} {R : Nat → Nat → Option Nat} {I : Nat → Nat → Int32} {J : Nat → Nat → Int64} {s0 : Int32} : exe X d 71 49 [dm, dm, dm, dm] [Value.int s0] (sz, sl, sh, R, I, J) =
    some (some (Value.int s0), (sz, sl, sh, R, I, J)) :=
  (E_iret pr_71 f71_49)
theorem t71_54 {X : XX} {d : Nat} {sz sl : Nat} {sh : Nat → Nat × Nat} {R : Nat → Nat → Option Nat} {I : Nat → Nat → Int32} {J : Nat → Nat → Int64} {s0 : Int32} : exe X d 71 54 [dm, dm, dm, dm] [Value.int s0] (sz, sl, sh, R, I, J) =
    some (some (Value.int s0), (sz, sl, sh, R, I, J)) :=
  (E_iret pr_71 f71_54)
theorem n71 {X : XX} {d : Nat} {h : HP} {a0 : Int32} {a1 : Int32} : ev X (d + 1) 71 [Value.ref 0, Value.int a0, Value.int a1] h = exe X d 71 0 [Value.ref 0, Value.int a0, Value.int a1, dm] [] h := ev_exe (Nat.le_of_ble_eq_true rfl)
theorem f72_0 : fr 72 0 = some (.iconst 0, 1, [], []) := by decide +kernel
theorem f72_1 : fr 72 1 = some (.istore 1, 1, [], []) := by decide +kernel
theorem f72_2 : fr 72 2 = some (.iconst 1, 1, [], []) := by decide +kernel
theorem f72_3 : fr 72 3 = some (.istore 2, 1, [], []) := by decide +kernel
theorem f72_4 : fr 72 4 = some (.iconst 0, 1, [], []) := by decide +kernel
theorem f72_5 : fr 72 5 = some (.istore 3, 1, [], []) := by decide +kernel
theorem f72_6 : fr 72 6 = some (.iload 3, 1, [], []) := by decide +kernel
theorem f72_7 : fr 72 7 = some (.iconst 8, 2, [], []) := by decide +kernel
theorem f72_9 : fr 72 9 = some (.if_icmp .ge 82, 3, [], [0, 2, 3]) := by decide +kernel
theorem f72_12 : fr 72 12 = some (.iload 3, 1, [], []) := by decide +kernel
theorem f72_13 : fr 72 13 = some (.iconst 1, 1, [], []) := by decide +kernel
theorem f72_14 : fr 72 14 = some (.iadd, 1, [], []) := by decide +kernel
theorem f72_15 : fr 72 15 = some (.iconst 8, 2, [], []) := by decide +kernel
theorem f72_17 : fr 72 17 = some (.if_icmp .ge 30, 3, [], []) := by decide +kernel
theorem f72_20 : fr 72 20 = some (.aload 0, 1, [], []) := by decide +kernel
theorem f72_21 : fr 72 21 = some (.iload 3, 1, [], []) := by decide +kernel
theorem f72_22 : fr 72 22 = some (.iconst 1, 1, [], []) := by decide +kernel
theorem f72_23 : fr 72 23 = some (.iadd, 1, [], []) := by decide +kernel
theorem f72_24 : fr 72 24 = some (.invokevirtual 16, 3, [], []) := by decide +kernel
theorem f72_27 : fr 72 27 = some (.goto 31, 3, [], []) := by decide +kernel
theorem f72_30 : fr 72 30 = some (.iconst (-1), 1, [], []) := by decide +kernel
theorem f72_31 : fr 72 31 = some (.istore 4, 2, [], []) := by decide +kernel
theorem f72_33 : fr 72 33 = some (.iload 4, 2, [], []) := by decide +kernel
theorem f72_35 : fr 72 35 = some (.aload 0, 1, [], []) := by decide +kernel
theorem f72_36 : fr 72 36 = some (.iload 3, 1, [], []) := by decide +kernel
theorem f72_37 : fr 72 37 = some (.invokevirtual 16, 3, [], []) := by decide +kernel
theorem f72_40 : fr 72 40 = some (.if_icmp .ge 50, 3, [], []) := by decide +kernel
theorem f72_43 : fr 72 43 = some (.iload 2, 1, [], []) := by decide +kernel
theorem f72_44 : fr 72 44 = some (.ifCond .eq 50, 3, [], []) := by decide +kernel
theorem f72_47 : fr 72 47 = some (.iinc 1 1, 3, [], []) := by decide +kernel
theorem f72_50 : fr 72 50 = some (.iload 4, 2, [], []) := by decide +kernel
theorem f72_52 : fr 72 52 = some (.aload 0, 1, [], []) := by decide +kernel
theorem f72_53 : fr 72 53 = some (.iload 3, 1, [], []) := by decide +kernel
theorem f72_54 : fr 72 54 = some (.invokevirtual 16, 3, [], []) := by decide +kernel
theorem f72_57 : fr 72 57 = some (.if_icmp .eq 76, 3, [2], [4]) := by decide +kernel
theorem f72_60 : fr 72 60 = some (.iload 4, 2, [4], []) := by decide +kernel
theorem f72_62 : fr 72 62 = some (.aload 0, 1, [], []) := by decide +kernel
theorem f72_63 : fr 72 63 = some (.iload 3, 1, [], []) := by decide +kernel
theorem f72_64 : fr 72 64 = some (.invokevirtual 16, 3, [], []) := by decide +kernel
theorem f72_67 : fr 72 67 = some (.if_icmp .le 74, 3, [], []) := by decide +kernel
theorem f72_70 : fr 72 70 = some (.iconst 1, 1, [], []) := by decide +kernel
theorem f72_71 : fr 72 71 = some (.goto 75, 3, [], []) := by decide +kernel
theorem f72_74 : fr 72 74 = some (.iconst 0, 1, [], []) := by decide +kernel
theorem f72_75 : fr 72 75 = some (.istore 2, 1, [], []) := by decide +kernel
theorem f72_76 : fr 72 76 = some (.iinc 3 1, 3, [], []) := by decide +kernel
theorem f72_79 : fr 72 79 = some (.goto 6, 3, [], []) := by decide +kernel
theorem f72_82 : fr 72 82 = some (.iload 1, 1, [1], []) := by decide +kernel
theorem f72_83 : fr 72 83 = some (.ireturn, 1, [], []) := by decide +kernel
theorem t72_0 {X : XX} {d : Nat} {sz sl : Nat} {sh : Nat → Nat × Nat} {R : Nat → Nat → Option Nat} {I : Nat → Nat → Int32} {J : Nat → Nat → Int64} {l0 : Nat} (h0 : sh l0 = (15, 0)) : exe X d 72 0 [Value.ref l0, dm, dm, dm, dm] [] (sz, sl, sh, R, I, J) =
    exe X d 72 6 [Value.ref l0, Value.int (0), Value.int (1), Value.int (0), dm] [] (sz, sl, sh, R, I, J) :=
  tq ((E_iconst (x := (0)) (by decide) f72_0)) (tq ((E_istore rfl f72_1)) (tq ((E_iconst (x := (1)) (by decide) f72_2)) (tq ((E_istore rfl f72_3)) (tq ((E_iconst (x := (0)) (by decide) f72_4)) ((E_istore rfl f72_5))))))
theorem t72_6 {X : XX} {d : Nat} {sz sl : Nat} {sh : Nat → Nat × Nat} {R : Nat → Nat → Option Nat} {I : Nat → Nat → Int32} {J : Nat → Nat → Int64} {l0 : Nat} (h0 : sh l0 = (15, 0)) {l1 : Int32} {l2 : Int32} {l3 : Int32} : exe X d 72 6 [Value.ref l0, Value.int l1, Value.int l2, Value.int l3, dm] [] (sz, sl, sh, R, I, J) =
    (if (8) ≤ l3 then some (some (Value.int l1), (sz, sl, sh, R, I, J)) else (if (8) ≤ (l3 + (1)) then ((ev X d 16 [Value.ref l0, Value.int l3] (sz, sl, sh, R, I, J)).bind fun q => exe X d 72 40 [Value.ref l0, Value.int l1, Value.int l2, Value.int l3, Value.int (-1)] (q.1.toList ++ [Value.int (-1)]) q.2) else ((ev X d 16 [Value.ref l0, Value.int (l3 + (1))] (sz, sl, sh, R, I, J)).bind fun q => exe X d 72 27 [Value.ref l0, Value.int l1, Value.int l2, Value.int l3, dm] (q.1.toList ++ []) q.2))) :=
  tq ((E_iload (x := l3) rfl f72_6)) (tq ((E_iconst (x := (8)) (by decide) f72_7)) (tq ((E_ic_ge f72_9)) (ite_c (tq ((E_iload (x := l1) rfl f72_82)) ((E_iret pr_72 f72_83))) (tq ((E_iload (x := l3) rfl f72_12)) (tq ((E_iconst (x := (1)) (by decide) f72_13)) (tq ((E_iadd f72_14)) (tq ((E_iconst (x := (8)) (by decide) f72_15)) (tq ((E_ic_ge f72_17)) (ite_c (tq ((E_iconst (x := (-1)) (by decide) f72_30)) (tq ((E_istore rfl f72_31)) (tq ((E_iload (x := (-1)) rfl f72_33)) (tq ((E_aload (v := Value.ref l0) rfl rfl f72_35)) (tq ((E_iload (x := l3) rfl f72_36)) ((tq ((E_callV pn_16 pc_16 rfl rfl (Nat.le_of_ble_eq_true rfl) f72_37)) (if_pos h0)))))))) (tq ((E_aload (v := Value.ref l0) rfl rfl f72_20)) (tq ((E_iload (x := l3) rfl f72_21)) (tq ((E_iconst (x := (1)) (by decide) f72_22)) (tq ((E_iadd f72_23)) ((tq ((E_callV pn_16 pc_16 rfl rfl (Nat.le_of_ble_eq_true rfl) f72_24)) (if_pos h0))))))))))))))))
theorem t72_27 {X : XX} {d : Nat} {sz sl : Nat} {sh : Nat → Nat × Nat} {R : Nat → Nat → Option Nat} {I : Nat → Nat → Int32} {J : Nat → Nat → Int64} {l0 : Nat} (h0 : sh l0 = (15, 0)) {l1 : Int32} {l2 : Int32} {l3 : Int32} {s0 : Int32} : exe X d 72 27 [Value.ref l0, Value.int l1, Value.int l2, Value.int l3, dm] [Value.int s0] (sz, sl, sh, R, I, J) =
    ((ev X d 16 [Value.ref l0, Value.int l3] (sz, sl, sh, R, I, J)).bind fun q => exe X d 72 40 [Value.ref l0, Value.int l1, Value.int l2, Value.int l3, Value.int s0] (q.1.toList ++ [Value.int s0]) q.2) :=
  tq ((E_goto f72_27)) (tq ((E_istore rfl f72_31)) (tq ((E_iload (x := s0) rfl f72_33)) (tq ((E_aload (v := Value.ref l0) rfl rfl f72_35)) (tq ((E_iload (x := l3) rfl f72_36)) ((tq ((E_callV pn_16 pc_16 rfl rfl (Nat.le_of_ble_eq_true rfl) f72_37)) (if_pos h0)))))))
theorem t72_40 {X : XX} {d : Nat} {sz sl : Nat} {sh : Nat → Nat × Nat} {R : Nat → Nat → Option Nat} {I : Nat → Nat → Int32} {J : Nat → Nat → Int64} {l0 : Nat} (h0 : sh l0 = (15, 0)) {l1 : Int32} {l2 : Int32} {l3 : Int32} {l4 : Int32} {s0 : Int32} {s1 : Int32} : exe X d 72 40 [Value.ref l0, Value.int l1, Value.int l2, Value.int l3, Value.int l4] [Value.int s0, Value.int s1] (sz, sl, sh, R, I, J) =
    (if s0 ≤ s1 then ((ev X d 16 [Value.ref l0, Value.int l3] (sz, sl, sh, R, I, J)).bind fun q => exe X d 72 57 [Value.ref l0, Value.int l1, Value.int l2, Value.int l3, Value.int l4] (q.1.toList ++ [Value.int l4]) q.2) else (if l2 = 0 then ((ev X d 16 [Value.ref l0, Value.int l3] (sz, sl, sh, R, I, J)).bind fun q => exe X d 72 57 [Value.ref l0, Value.int l1, Value.int l2, Value.int l3, Value.int l4] (q.1.toList ++ [Value.int l4]) q.2) else ((ev X d 16 [Value.ref l0, Value.int l3] (sz, sl, sh, R, I, J)).bind fun q => exe X d 72 57 [Value.ref l0, Value.int (l1 + (1)), Value.int l2, Value.int l3, Value.int l4] (q.1.toList ++ [Value.int l4]) q.2))) :=
  tq ((E_ic_ge f72_40)) (ite_c (tq ((E_iload (x := l4) rfl f72_50)) (tq ((E_aload (v := Value.ref l0) rfl rfl f72_52)) (tq ((E_iload (x := l3) rfl f72_53)) ((tq ((E_callV pn_16 pc_16 rfl rfl (Nat.le_of_ble_eq_true rfl) f72_54)) (if_pos h0)))))) (tq ((E_iload (x := l2) rfl f72_43)) (tq ((E_if_eq f72_44)) (ite_c (tq ((E_iload (x := l4) rfl f72_50)) (tq ((E_aload (v := Value.ref l0) rfl rfl f72_52)) (tq ((E_iload (x := l3) rfl f72_53)) ((tq ((E_callV pn_16 pc_16 rfl rfl (Nat.le_of_ble_eq_true rfl) f72_54)) (if_pos h0)))))) (tq ((E_iinc (x := l1) (x' := (1)) rfl rfl (by decide) f72_47)) (tq ((E_iload (x := l4) rfl f72_50)) (tq ((E_aload (v := Value.ref l0) rfl rfl f72_52)) (tq ((E_iload (x := l3) rfl f72_53)) ((tq ((E_callV pn_16 pc_16 rfl rfl (Nat.le_of_ble_eq_true rfl) f72_54)) (if_pos h0)))))))))))
theorem t72_57 {X : XX} {d : Nat} {sz sl : Nat} {sh : Nat → Nat × Nat} {R : Nat → Nat → Option Nat} {I : Nat → Nat → Int32} {J : Nat → Nat → Int64} {l0 : Nat} (h0 : sh l0 = (15, 0)) {l1 : Int32} {l2 : Int32} {l3 : Int32} {l4 : Int32} {s0 : Int32} {s1 : Int32} : exe X d 72 57 [Value.ref l0, Value.int l1, Value.int l2, Value.int l3, Value.int l4] [Value.int s0, Value.int s1] (sz, sl, sh, R, I, J) =
    (if s1 = s0 then exe X d 72 6 [Value.ref l0, Value.int l1, Value.int l2, Value.int (l3 + (1)), dm] [] (sz, sl, sh, R, I, J) else ((ev X d 16 [Value.ref l0, Value.int l3] (sz, sl, sh, R, I, J)).bind fun q => exe X d 72 67 [Value.ref l0, Value.int l1, dm, Value.int l3, dm] (q.1.toList ++ [Value.int l4]) q.2)) :=
  tq ((E_ic_eq f72_57)) (ite_c (tq ((E_iinc (x := l3) (x' := (1)) rfl rfl (by decide) f72_76)) ((E_goto f72_79))) (tq ((E_iload (x := l4) rfl f72_60)) (tq ((E_aload (v := Value.ref l0) rfl rfl f72_62)) (tq ((E_iload (x := l3) rfl f72_63)) ((tq ((E_callV pn_16 pc_16 rfl rfl (Nat.le_of_ble_eq_true rfl) f72_64)) (if_pos h0)))))))
theorem t72_67 {X : XX} {d : Nat} {sz sl : Nat} {sh : Nat → Nat × Nat} {R : Nat → Nat → Option Nat} {I : Nat → Nat → Int32} {J : Nat → Nat → Int64} {l0 : Nat} (h0 : sh l0 = (15, 0)) {l1 : Int32} {l3 : Int32} {s0 : Int32} {s1 : Int32} : exe X d 72 67 [Value.ref l0, Value.int l1, dm, Value.int l3, dm] [Value.int s0, Value.int s1] (sz, sl, sh, R, I, J) =
    (if s1 ≤ s0 then exe X d 72 6 [Value.ref l0, Value.int l1, Value.int (0), Value.int (l3 + (1)), dm] [] (sz, sl, sh, R, I, J) else exe X d 72 6 [Value.ref l0, Value.int l1, Value.int (1), Value.int (l3 + (1)), dm] [] (sz, sl, sh, R, I, J)) :=
  tq ((E_ic_le f72_67)) (ite_c (tq ((E_iconst (x := (0)) (by decide) f72_74)) (tq ((E_istore rfl f72_75)) (tq ((E_iinc (x := l3) (x' := (1)) rfl rfl (by decide) f72_76)) ((E_goto f72_79))))) (tq ((E_iconst (x := (1)) (by decide) f72_70)) (tq ((E_goto f72_71)) (tq ((E_istore rfl f72_75)) (tq ((E_iinc (x := l3) (x' := (1)) rfl rfl (by decide) f72_76)) ((E_goto f72_79)))))))
theorem n72 {X : XX} {d : Nat} {h : HP} {l0 : Nat} : ev X (d + 1) 72 [Value.ref l0] h = exe X d 72 0 [Value.ref l0, dm, dm, dm, dm] [] h := ev_exe (Nat.le_of_ble_eq_true rfl)
theorem f73_0 : fr 73 0 = some (.iconst 0, 1, [], []) := by decide +kernel
theorem f73_1 : fr 73 1 = some (.istore 1, 1, [], []) := by decide +kernel
theorem f73_2 : fr 73 2 = some (.iconst 1, 1, [], []) := by decide +kernel
theorem f73_3 : fr 73 3 = some (.istore 2, 1, [], []) := by decide +kernel
theorem f73_4 : fr 73 4 = some (.iload 2, 1, [], []) := by decide +kernel
theorem f73_5 : fr 73 5 = some (.iconst 8, 2, [], []) := by decide +kernel
theorem f73_7 : fr 73 7 = some (.if_icmp .ge 31, 3, [], [0, 2]) := by decide +kernel
theorem f73_10 : fr 73 10 = some (.aload 0, 1, [], []) := by decide +kernel
theorem f73_11 : fr 73 11 = some (.iload 2, 1, [], []) := by decide +kernel
theorem f73_12 : fr 73 12 = some (.invokevirtual 16, 3, [], []) := by decide +kernel
theorem f73_15 : fr 73 15 = some (.aload 0, 1, [], []) := by decide +kernel
theorem f73_16 : fr 73 16 = some (.iload 1, 1, [], []) := by decide +kernel
theorem f73_17 : fr 73 17 = some (.invokevirtual 16, 3, [], []) := by decide +kernel
theorem f73_20 : fr 73 20 = some (.if_icmp .le 25, 3, [1], []) := by decide +kernel
theorem f73_23 : fr 73 23 = some (.iload 2, 1, [], []) := by decide +kernel
theorem f73_24 : fr 73 24 = some (.istore 1, 1, [], []) := by decide +kernel
theorem f73_25 : fr 73 25 = some (.iinc 2 1, 3, [], []) := by decide +kernel
theorem f73_28 : fr 73 28 = some (.goto 4, 3, [], []) := by decide +kernel
theorem f73_31 : fr 73 31 = some (.iload 1, 1, [1], []) := by decide +kernel
theorem f73_32 : fr 73 32 = some (.ireturn, 1, [], []) := by decide +kernel
theorem t73_0 {X : XX} {d : Nat} {sz sl : Nat} {sh : Nat → Nat × Nat} {R : Nat → Nat → Option Nat} {I : Nat → Nat → Int32} {J : Nat → Nat → Int64} {l0 : Nat} (h0 : sh l0 = (15, 0)) : exe X d 73 0 [Value.ref l0, dm, dm] [] (sz, sl, sh, R, I, J) =
    exe X d 73 4 [Value.ref l0, Value.int (0), Value.int (1)] [] (sz, sl, sh, R, I, J) :=
  tq ((E_iconst (x := (0)) (by decide) f73_0)) (tq ((E_istore rfl f73_1)) (tq ((E_iconst (x := (1)) (by decide) f73_2)) ((E_istore rfl f73_3))))
theorem t73_4 {X : XX} {d : Nat} {sz sl : Nat} {sh : Nat → Nat × Nat} {R : Nat → Nat → Option Nat} {I : Nat → Nat → Int32} {J : Nat → Nat → Int64} {l0 : Nat} (h0 : sh l0 = (15, 0)) {l1 : Int32} {l2 : Int32} : exe X d 73 4 [Value.ref l0, Value.int l1, Value.int l2] [] (sz, sl, sh, R, I, J) =
    (if (8) ≤ l2 then some (some (Value.int l1), (sz, sl, sh, R, I, J)) else ((ev X d 16 [Value.ref l0, Value.int l2] (sz, sl, sh, R, I, J)).bind fun q => exe X d 73 15 [Value.ref l0, Value.int l1, Value.int l2] (q.1.toList ++ []) q.2)) :=
  tq ((E_iload (x := l2) rfl f73_4)) (tq ((E_iconst (x := (8)) (by decide) f73_5)) (tq ((E_ic_ge f73_7)) (ite_c (tq ((E_iload (x := l1) rfl f73_31)) ((E_iret pr_73 f73_32))) (tq ((E_aload (v := Value.ref l0) rfl rfl f73_10)) (tq ((E_iload (x := l2) rfl f73_11)) ((tq ((E_callV pn_16 pc_16 rfl rfl (Nat.le_of_ble_eq_true rfl) f73_12)) (if_pos h0))))))))
theorem t73_15 {X : XX} {d : Nat} {sz sl : Nat} {sh : Nat → Nat × Nat} {R : Nat → Nat → Option Nat} {I : Nat → Nat → Int32} {J : Nat → Nat → Int64} {l0 : Nat} (h0 : sh l0 = (15, 0)) {l1 : Int32} {l2 : Int32} {s0 : Int32} : exe X d 73 15 [Value.ref l0, Value.int l1, Value.int l2] [Value.int s0] (sz, sl, sh, R, I, J) =
    ((ev X d 16 [Value.ref l0, Value.int l1] (sz, sl, sh, R, I, J)).bind fun q => exe X d 73 20 [Value.ref l0, Value.int l1, Value.int l2] (q.1.toList ++ [Value.int s0]) q.2) :=
  tq ((E_aload (v := Value.ref l0) rfl rfl f73_15)) (tq ((E_iload (x := l1) rfl f73_16)) ((tq ((E_callV pn_16 pc_16 rfl rfl (Nat.le_of_ble_eq_true rfl) f73_17)) (if_pos h0))))
theorem t73_20 {X : XX} {d : Nat} {sz sl : Nat} {sh : Nat → Nat × Nat} {R : Nat → Nat → Option Nat} {I : Nat → Nat → Int32} {J : Nat → Nat → Int64} {l0 : Nat} (h0 : sh l0 = (15, 0)) {l1 : Int32} {l2 : Int32} {s0 : Int32} {s1 : Int32} : exe X d 73 20 [Value.ref l0, Value.int l1, Value.int l2] [Value.int s0, Value.int s1] (sz, sl, sh, R, I, J) =
    (if s1 ≤ s0 then exe X d 73 4 [Value.ref l0, Value.int l1, Value.int (l2 + (1))] [] (sz, sl, sh, R, I, J) else exe X d 73 4 [Value.ref l0, Value.int l2, Value.int (l2 + (1))] [] (sz, sl, sh, R, I, J)) :=
  tq ((E_ic_le f73_20)) (ite_c (tq ((E_iinc (x := l2) (x' := (1)) rfl rfl (by decide) f73_25)) ((E_goto f73_28))) (tq ((E_iload (x := l2) rfl f73_23)) (tq ((E_istore rfl f73_24)) (tq ((E_iinc (x := l2) (x' := (1)) rfl rfl (by decide) f73_25)) ((E_goto f73_28))))))
theorem n73 {X : XX} {d : Nat} {h : HP} {l0 : Nat} : ev X (d + 1) 73 [Value.ref l0] h = exe X d 73 0 [Value.ref l0, dm, dm] [] h := ev_exe (Nat.le_of_ble_eq_true rfl)
theorem f74_0 : fr 74 0 = some (.aload 0, 1, [], []) := by decide +kernel
theorem f74_1 : fr 74 1 = some (.getfield 8006, 3, [], []) := by decide +kernel
theorem f74_4 : fr 74 4 = some (.iconst 4, 1, [], []) := by decide +kernel
theorem f74_5 : fr 74 5 = some (.iconst 8, 2, [], []) := by decide +kernel
theorem f74_7 : fr 74 7 = some (.invokestatic 35, 3, [], []) := by decide +kernel
theorem f74_10 : fr 74 10 = some (.aload 0, 1, [0], []) := by decide +kernel
theorem f74_11 : fr 74 11 = some (.getfield 8006, 3, [], []) := by decide +kernel
theorem f74_14 : fr 74 14 = some (.iconst 0, 1, [], []) := by decide +kernel
theorem f74_15 : fr 74 15 = some (.iconst 4, 1, [], []) := by decide +kernel
theorem f74_16 : fr 74 16 = some (.invokestatic 35, 3, [], []) := by decide +kernel
theorem f74_19 : fr 74 19 = some (.isub, 1, [], []) := by decide +kernel
theorem f74_20 : fr 74 20 = some (.ireturn, 1, [], []) := by decide +kernel
theorem t74_0 {X : XX} {d : Nat} {sz sl : Nat} {sh : Nat → Nat × Nat} {R : Nat → Nat → Option Nat} {I : Nat → Nat → Int32} {J : Nat → Nat → Int64} {l0 : Nat} (h0 : sh l0 = (15, 0)) : exe X d 74 0 [Value.ref l0] [] (sz, sl, sh, R, I, J) =
    ((ev X d 35 [(rfv (R l0 6)), Value.int (4), Value.int (8)] (sz, sl, sh, R, I, J)).bind fun q => exe X d 74 10 [Value.ref l0] (q.1.toList ++ []) q.2) :=
  tq ((E_aload (v := Value.ref l0) rfl rfl f74_0)) (tq (tq ((G8006 f74_1)) (if_pos h0)) (tq ((E_iconst (x := (4)) (by decide) f74_4)) (tq ((E_iconst (x := (8)) (by decide) f74_5)) ((E_callS pn_35 rfl rfl (Nat.le_of_ble_eq_true rfl) (Nat.le_of_ble_eq_true rfl) f74_7)))))
theorem t74_10 {X : XX} {d : Nat} {sz sl : Nat} {sh : Nat → Nat × Nat} {R : Nat → Nat → Option Nat} {I : Nat → Nat → Int32} {J : Nat → Nat → Int64} {l0 : Nat} (h0 : sh l0 = (15, 0)) {s0 : Int32} : exe X d 74 10 [Value.ref l0] [Value.int s0] (sz, sl, sh, R, I, J) =
    ((ev X d 35 [(rfv (R l0 6)), Value.int (0), Value.int (4)] (sz, sl, sh, R, I, J)).bind fun q => exe X d 74 19 [dm] (q.1.toList ++ [Value.int s0]) q.2) :=
  tq ((E_aload (v := Value.ref l0) rfl rfl f74_10)) (tq (tq ((G8006 f74_11)) (if_pos h0)) (tq ((E_iconst (x := (0)) (by decide) f74_14)) (tq ((E_iconst (x := (4)) (by decide) f74_15)) ((E_callS pn_35 rfl rfl (Nat.le_of_ble_eq_true rfl) (Nat.le_of_ble_eq_true rfl) f74_16)))))
theorem t74_19 {X : XX} {d : Nat} {sz sl : Nat} {sh : Nat → Nat × Nat} {R : Nat → Nat → Option Nat} {I : Nat → Nat → Int32} {J : Nat → Nat → Int64} {s0 : Int32} {s1 : Int32} : exe X d 74 19 [dm] [Value.int s0, Value.int s1] (sz, sl, sh, R, I, J) =
    some (some (Value.int (s1 - s0)), (sz, sl, sh, R, I, J)) :=
  tq ((E_isub f74_19)) ((E_iret pr_74 f74_20))
theorem n74 {X : XX} {d : Nat} {h : HP} {l0 : Nat} : ev X (d + 1) 74 [Value.ref l0] h = exe X d 74 0 [Value.ref l0] [] h := ev_exe (Nat.le_of_ble_eq_true rfl)
theorem f75_0 : fr 75 0 = some (.aload 0, 1, [0], []) := by decide +kernel
theorem f75_1 : fr 75 1 = some (.iload 1, 1, [1], []) := by decide +kernel
theorem f75_2 : fr 75 2 = some (.invokevirtual 12, 3, [], []) := by decide +kernel
theorem f75_5 : fr 75 5 = some (.astore 4, 2, [], []) := by decide +kernel
theorem f75_7 : fr 75 7 = some (.aload 4, 2, [], []) := by decide +kernel
theorem f75_9 : fr 75 9 = some (.ifnull 31, 3, [], [2, 3, 4]) := by decide +kernel
theorem f75_12 : fr 75 12 = some (.iload 2, 1, [], []) := by decide +kernel
theorem f75_13 : fr 75 13 = some (.iconst 0, 1, [], []) := by decide +kernel
theorem f75_14 : fr 75 14 = some (.iconst 99999, 2, [], []) := by decide +kernel
theorem f75_16 : fr 75 16 = some (.invokestatic 10, 3, [], []) := by decide +kernel
theorem f75_19 : fr 75 19 = some (.ifCond .eq 31, 3, [], [2, 3, 4]) := by decide +kernel
theorem f75_22 : fr 75 22 = some (.iload 3, 1, [], []) := by decide +kernel
theorem f75_23 : fr 75 23 = some (.iconst 0, 1, [], []) := by decide +kernel
theorem f75_24 : fr 75 24 = some (.iconst 1, 1, [], []) := by decide +kernel
theorem f75_25 : fr 75 25 = some (.invokestatic 10, 3, [], []) := by decide +kernel
theorem f75_28 : fr 75 28 = some (.ifCond .ne 33, 3, [2, 3, 4], []) := by decide +kernel
theorem f75_31 : fr 75 31 = some (.iconst (-1), 1, [], []) := by decide +kernel
theorem f75_32 : fr 75 32 = some (.ireturn, 1, [], []) := by decide +kernel
theorem f75_33 : fr 75 33 = some (.aload 4, 2, [], []) := by decide +kernel
theorem f75_35 : fr 75 35 = some (.iconst 0, 1, [], []) := by decide +kernel
theorem f75_36 : fr 75 36 = some (.iconst 1, 1, [], []) := by decide +kernel
theorem f75_37 : fr 75 37 = some (.iload 2, 1, [], []) := by decide +kernel
theorem f75_38 : fr 75 38 = some (.invokevirtual 76, 3, [], []) := by decide +kernel
theorem f75_41 : fr 75 41 = some (.istore 5, 2, [], []) := by decide +kernel
theorem f75_43 : fr 75 43 = some (.aload 4, 2, [4], []) := by decide +kernel
theorem f75_45 : fr 75 45 = some (.iconst 7, 2, [], []) := by decide +kernel
theorem f75_47 : fr 75 47 = some (.iconst (-1), 1, [], []) := by decide +kernel
theorem f75_48 : fr 75 48 = some (.iload 2, 1, [2], []) := by decide +kernel
theorem f75_49 : fr 75 49 = some (.invokevirtual 76, 3, [], []) := by decide +kernel
theorem f75_52 : fr 75 52 = some (.istore 6, 2, [], []) := by decide +kernel
theorem f75_54 : fr 75 54 = some (.iload 5, 2, [], []) := by decide +kernel
theorem f75_56 : fr 75 56 = some (.ifCond .ne 67, 3, [], []) := by decide +kernel
theorem f75_59 : fr 75 59 = some (.iload 6, 2, [], []) := by decide +kernel
theorem f75_61 : fr 75 61 = some (.ifCond .ne 67, 3, [3, 5, 6], []) := by decide +kernel
theorem f75_64 : fr 75 64 = some (.iconst (-2), 2, [], []) := by decide +kernel
theorem f75_66 : fr 75 66 = some (.ireturn, 1, [], []) := by decide +kernel
theorem f75_67 : fr 75 67 = some (.iload 3, 1, [3], []) := by decide +kernel
theorem f75_68 : fr 75 68 = some (.iconst 1, 1, [], []) := by decide +kernel
theorem f75_69 : fr 75 69 = some (.if_icmp .ne 85, 3, [], []) := by decide +kernel
theorem f75_72 : fr 75 72 = some (.iload 5, 2, [5], []) := by decide +kernel
theorem f75_74 : fr 75 74 = some (.iload 6, 2, [6], []) := by decide +kernel
theorem f75_76 : fr 75 76 = some (.if_icmp .lt 83, 3, [], []) := by decide +kernel
theorem f75_79 : fr 75 79 = some (.iconst 0, 1, [], []) := by decide +kernel
theorem f75_80 : fr 75 80 = some (.goto 84, 3, [], []) := by decide +kernel
theorem f75_83 : fr 75 83 = some (.iconst 1, 1, [], []) := by decide +kernel
theorem f75_84 : fr 75 84 = some (.ireturn, 1, [], []) := by decide +kernel
theorem f75_85 : fr 75 85 = some (.iload 5, 2, [5], []) := by decide +kernel
theorem f75_87 : fr 75 87 = some (.iload 6, 2, [6], []) := by decide +kernel
theorem f75_89 : fr 75 89 = some (.fadd, 3, [], []) := by decide +kernel
theorem f75_92 : fr 75 92 = some (.ireturn, 1, [], []) := by decide +kernel
theorem t75_0 {X : XX} {d : Nat} {sz sl : Nat} {sh : Nat → Nat × Nat} {R : Nat → Nat → Option Nat} {I : Nat → Nat → Int32} {J : Nat → Nat → Int64} (hS : SF sh R) {l1 : Int32} {l2 : Int32} {l3 : Int32} : exe X d 75 0 [Value.ref 0, Value.int l1, Value.int l2, Value.int l3, dm, dm, dm] [] (sz, sl, sh, R, I, J) =
    ((ev X d 12 [Value.ref 0, Value.int l1] (sz, sl, sh, R, I, J)).bind fun q => exe X d 75 5 [dm, dm, Value.int l2, Value.int l3, dm, dm, dm] (q.1.toList ++ []) q.2) :=
  tq ((E_aload (v := Value.ref 0) rfl rfl f75_0)) (tq ((E_iload (x := l1) rfl f75_1)) ((tq ((E_callV pn_12 pc_12 rfl rfl (Nat.le_of_ble_eq_true rfl) f75_2)) (if_pos (zS0 hS)))))
theorem t75_5 {X : XX} {d : Nat} {sz sl : Nat} {sh : Nat → Nat × Nat} {R : Nat → Nat → Option Nat} {I : Nat → Nat → Int32} {J : Nat → Nat → Int64} {l2 : Int32} {l3 : Int32} {s0 : Value} (k0 : isB s0 = true) : exe X d 75 5 [dm, dm, Value.int l2, Value.int l3, dm, dm, dm] [s0] (sz, sl, sh, R, I, J) =
    (nn (s0) (some (some (Value.int (-1)), (sz, sl, sh, R, I, J))) (((ev X d 10 [Value.int l2, Value.int (0), Value.int (99999)] (sz, sl, sh, R, I, J)).bind fun q => exe X d 75 19 [dm, dm, Value.int l2, Value.int l3, s0, dm, dm] (q.1.toList ++ []) q.2))) :=
  tq ((E_astore k0 rfl f75_5)) (tq ((E_aload (v := s0) rfl (isBA k0) f75_7)) (tq ((E_ifnull f75_9)) (nn_c (tq ((E_iconst (x := (-1)) (by decide) f75_31)) ((E_iret pr_75 f75_32))) (tq ((E_iload (x := l2) rfl f75_12)) (tq ((E_iconst (x := (0)) (by decide) f75_13)) (tq ((E_iconst (x := (99999)) (by decide) f75_14)) ((E_callS pn_10 rfl rfl (Nat.le_of_ble_eq_true rfl) (Nat.le_of_ble_eq_true rfl) f75_16))))))))
theorem t75_19 {X : XX} {d : Nat} {sz sl : Nat} {sh : Nat → Nat × Nat} {R : Nat → Nat → Option Nat} {I : Nat → Nat → Int32} {J : Nat → Nat → Int64} {l2 : Int32} {l3 : Int32} {l4 : Value} (h4 : isB l4 = true) {s0 : Int32} : exe X d 75 19 [dm, dm, Value.int l2, Value.int l3, l4, dm, dm] [Value.int s0] (sz, sl, sh, R, I, J) =
    (if s0 = 0 then some (some (Value.int (-1)), (sz, sl, sh, R, I, J)) else ((ev X d 10 [Value.int l3, Value.int (0), Value.int (1)] (sz, sl, sh, R, I, J)).bind fun q => exe X d 75 28 [dm, dm, Value.int l2, Value.int l3, l4, dm, dm] (q.1.toList ++ []) q.2)) :=
  tq ((E_if_eq f75_19)) (ite_c (tq ((E_iconst (x := (-1)) (by decide) f75_31)) ((E_iret pr_75 f75_32))) (tq ((E_iload (x := l3) rfl f75_22)) (tq ((E_iconst (x := (0)) (by decide) f75_23)) (tq ((E_iconst (x := (1)) (by decide) f75_24)) ((E_callS pn_10 rfl rfl (Nat.le_of_ble_eq_true rfl) (Nat.le_of_ble_eq_true rfl) f75_25))))))
theorem t75_28 {X : XX} {d : Nat} {sz sl : Nat} {sh : Nat → Nat × Nat} {R : Nat → Nat → Option Nat} {I : Nat → Nat → Int32} {J : Nat → Nat → Int64} {l2 : Int32} {l3 : Int32} {l4 : Value} (h4 : isB l4 = true) {s0 : Int32} : exe X d 75 28 [dm, dm, Value.int l2, Value.int l3, l4, dm, dm] [Value.int s0] (sz, sl, sh, R, I, J) =
    (if ¬ s0 = 0 then (rf (l4) fun p1 => if sh p1 = (15, 0) then ((ev X d 76 [Value.ref p1, Value.int (0), Value.int (1), Value.int l2] (sz, sl, sh, R, I, J)).bind fun q => exe X d 75 41 [dm, dm, Value.int l2, Value.int l3, l4, dm, dm] (q.1.toList ++ []) q.2) else none) else some (some (Value.int (-1)), (sz, sl, sh, R, I, J))) :=
  tq ((E_if_ne f75_28)) (ite_c (tq ((E_aload (v := l4) rfl (isBA h4) f75_33)) (tq ((E_iconst (x := (0)) (by decide) f75_35)) (tq ((E_iconst (x := (1)) (by decide) f75_36)) (tq ((E_iload (x := l2) rfl f75_37)) ((E_callV pn_76 pc_76 rfl rfl (Nat.le_of_ble_eq_true rfl) f75_38)))))) (tq ((E_iconst (x := (-1)) (by decide) f75_31)) ((E_iret pr_75 f75_32))))
theorem t75_41 {X : XX} {d : Nat} {sz sl : Nat} {sh : Nat → Nat × Nat} {R : Nat → Nat → Option Nat} {I : Nat → Nat → Int32} {J : Nat → Nat → Int64} {l2 : Int32} {l3 : Int32} {l4 : Value} (h4 : isB l4 = true) {s0 : Int32} : exe X d 75 41 [dm, dm, Value.int l2, Value.int l3, l4, dm, dm] [Value.int s0] (sz, sl, sh, R, I, J) =
    (rf (l4) fun p1 => if sh p1 = (15, 0) then ((ev X d 76 [Value.ref p1, Value.int (7), Value.int (-1), Value.int l2] (sz, sl, sh, R, I, J)).bind fun q => exe X d 75 52 [dm, dm, dm, Value.int l3, dm, Value.int s0, dm] (q.1.toList ++ []) q.2) else none) :=
  tq ((E_istore (okS_A (Nat.lt_of_sub_eq_succ rfl) rfl h4) f75_41)) (tq ((E_aload (v := l4) rfl (isBA h4) f75_43)) (tq ((E_iconst (x := (7)) (by decide) f75_45)) (tq ((E_iconst (x := (-1)) (by decide) f75_47)) (tq ((E_iload (x := l2) rfl f75_48)) ((E_callV pn_76 pc_76 rfl rfl (Nat.le_of_ble_eq_true rfl) f75_49))))))
theorem t75_52 {X : XX} {d : Nat} {sz sl : Nat} {sh : Nat → Nat × Nat} {R : Nat → Nat → Option Nat} {I : Nat → Nat → Int32} {J : Nat → Nat → Int64} {l3 : Int32} {l5 : Int32} {s0 : Int32} : exe X d 75 52 [dm, dm, dm, Value.int l3, dm, Value.int l5, dm] [Value.int s0] (sz, sl, sh, R, I, J) =
    (if ¬ l5 = 0 then exe X d 75 67 [dm, dm, dm, Value.int l3, dm, Value.int l5, Value.int s0] [] (sz, sl, sh, R, I, J) else (if ¬ s0 = 0 then exe X d 75 67 [dm, dm, dm, Value.int l3, dm, Value.int l5, Value.int s0] [] (sz, sl, sh, R, I, J) else some (some (Value.int (-2)), (sz, sl, sh, R, I, J)))) :=
  tq ((E_istore rfl f75_52)) (tq ((E_iload (x := l5) rfl f75_54)) (tq ((E_if_ne f75_56)) (ite_c (rfl) (tq ((E_iload (x := s0) rfl f75_59)) (tq ((E_if_ne f75_61)) (ite_c (rfl) (tq ((E_iconst (x := (-2)) (by decide) f75_64)) ((E_iret pr_75 f75_66)))))))))
theorem t75_67 {X : XX} {d : Nat} {sz sl : Nat} {sh : Nat → Nat × Nat} {R : Nat → Nat → Option Nat} {I : Nat → Nat → Int32} {J : Nat → Nat → Int64} {l3 : Int32} {l5 : Int32} {l6 : Int32} : exe X d 75 67 [dm, dm, dm, Value.int l3, dm, Value.int l5, Value.int l6] [] (sz, sl, sh, R, I, J) =
    (if ¬ l3 = (1) then some (some (Value.int (if l5 < l6 then l6 else l5)), (sz, sl, sh, R, I, J)) else (if l5 < l6 then some (some (Value.int (1)), (sz, sl, sh, R, I, J)) else some (some (Value.int (0)), (sz, sl, sh, R, I, J)))) :=
  tq ((E_iload (x := l3) rfl f75_67)) (tq ((E_iconst (x := (1)) (by decide) f75_68)) (tq ((E_ic_ne f75_69)) (ite_c (tq ((E_iload (x := l5) rfl f75_85)) (tq ((E_iload (x := l6) rfl f75_87)) (tq ((E_fadd (Nat.le_of_ble_eq_true rfl) f75_89)) ((E_iret pr_75 f75_92))))) (tq ((E_iload (x := l5) rfl f75_72)) (tq ((E_iload (x := l6) rfl f75_74)) (tq ((E_ic_lt f75_76)) (ite_c (tq ((E_iconst (x := (1)) (by decide) f75_83)) ((E_iret pr_75 f75_84))) (tq ((E_iconst (x := (0)) (by decide) f75_79)) (tq ((E_goto f75_80)) ((E_iret pr_75 f75_84)))))))))))
theorem n75 {X : XX} {d : Nat} {h : HP} {a0 : Int32} {a1 : Int32} {a2 : Int32} : ev X (d + 1) 75 [Value.ref 0, Value.int a0, Value.int a1, Value.int a2] h = exe X d 75 0 [Value.ref 0, Value.int a0, Value.int a1, Value.int a2, dm, dm, dm] [] h := ev_exe (Nat.le_of_ble_eq_true rfl)
