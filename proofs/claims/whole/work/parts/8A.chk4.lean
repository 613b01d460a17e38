theorem ck0 : insY 0 (pcd 0) = true := by
  show insY 0 (cd0_0 ++ (cd0_1 ++ (cd0_2 ++ (cd0_3 ++ (cd0_4 ++ (cd0_5 ++ (cd0_6 ++ (cd0_7 ++ (cd0_8 ++ (cd0_9 ++ (cd0_10 ++ (cd0_11 ++ (cd0_12 ++ (cd0_13 ++ (cd0_14 ++ (cd0_15 ++ (cd0_16 ++ (cd0_17 ++ (cd0_18 ++ (cd0_19 ++ (cd0_20))))))))))))))))))))) = true
  unfold insY
  rw [List.all_append, List.all_append, List.all_append, List.all_append, List.all_append, List.all_append, List.all_append, List.all_append, List.all_append, List.all_append, List.all_append, List.all_append, List.all_append, List.all_append, List.all_append, List.all_append, List.all_append, List.all_append, List.all_append, List.all_append]
  simp only [Bool.and_eq_true]
  exact ⟨ck0_0, ck0_1, ck0_2, ck0_3, ck0_4, ck0_5, ck0_6, ck0_7, ck0_8, ck0_9, ck0_10, ck0_11, ck0_12, ck0_13, ck0_14, ck0_15, ck0_16, ck0_17, ck0_18, ck0_19, ck0_20⟩
theorem in_r {a k y : Nat} {f : Nat → Bool} (h : (List.range' a k).all f = true) (h1 : a ≤ y) (h2 : y < a + k) : f y = true := List.all_eq_true.mp h y (List.mem_range'.mpr ⟨y - a, by omega, by omega⟩)
theorem ck_ins : ∀ y, y < NY → insY y (pcd y) = true := by
  intro y hy
  have hy' : y < 236 := hy
  by_cases h0 : y = 0
  · subst h0; exact ck0
  by_cases h1 : y < 17
  · exact in_r ckg_1 (by omega) (by omega)
  by_cases h17 : y < 32
  · exact in_r ckg_17 (by omega) (by omega)
  by_cases h32 : y < 45
  · exact in_r ckg_32 (by omega) (by omega)
  by_cases h45 : y < 58
  · exact in_r ckg_45 (by omega) (by omega)
  by_cases h58 : y < 63
  · exact in_r ckg_58 (by omega) (by omega)
  by_cases h63 : y < 73
  · exact in_r ckg_63 (by omega) (by omega)
  by_cases h73 : y < 80
  · exact in_r ckg_73 (by omega) (by omega)
  by_cases h80 : y < 89
  · exact in_r ckg_80 (by omega) (by omega)
  by_cases h89 : y < 99
  · exact in_r ckg_89 (by omega) (by omega)
  by_cases h99 : y < 109
  · exact in_r ckg_99 (by omega) (by omega)
  by_cases h109 : y < 124
  · exact in_r ckg_109 (by omega) (by omega)
  by_cases h124 : y < 139
  · exact in_r ckg_124 (by omega) (by omega)
  by_cases h139 : y < 146
  · exact in_r ckg_139 (by omega) (by omega)
  by_cases h146 : y < 153
  · exact in_r ckg_146 (by omega) (by omega)
  by_cases h153 : y < 161
  · exact in_r ckg_153 (by omega) (by omega)
  by_cases h161 : y < 170
  · exact in_r ckg_161 (by omega) (by omega)
  by_cases h170 : y < 178
  · exact in_r ckg_170 (by omega) (by omega)
  by_cases h178 : y < 184
  · exact in_r ckg_178 (by omega) (by omega)
  by_cases h184 : y < 190
  · exact in_r ckg_184 (by omega) (by omega)
  by_cases h190 : y < 198
  · exact in_r ckg_190 (by omega) (by omega)
  by_cases h198 : y < 202
  · exact in_r ckg_198 (by omega) (by omega)
  by_cases h202 : y < 209
  · exact in_r ckg_202 (by omega) (by omega)
  by_cases h209 : y < 213
  · exact in_r ckg_209 (by omega) (by omega)
  by_cases h213 : y < 220
  · exact in_r ckg_213 (by omega) (by omega)
  by_cases h220 : y < 229
  · exact in_r ckg_220 (by omega) (by omega)
  by_cases h229 : y < 236
  · exact in_r ckg_229 (by omega) (by omega)
  omega
theorem ck_hd0 : (List.range' 0 15).all hdB = true := by decide +kernel
theorem ck_hk0 : (List.range' 1 14).all hkB = true := by decide +kernel
theorem ck_hd15 : (List.range' 15 15).all hdB = true := by decide +kernel
theorem ck_hk15 : (List.range' 15 15).all hkB = true := by decide +kernel
theorem ck_hd30 : (List.range' 30 15).all hdB = true := by decide +kernel
theorem ck_hk30 : (List.range' 30 15).all hkB = true := by decide +kernel
theorem ck_hd45 : (List.range' 45 15).all hdB = true := by decide +kernel
theorem ck_hk45 : (List.range' 45 15).all hkB = true := by decide +kernel
theorem ck_hd60 : (List.range' 60 15).all hdB = true := by decide +kernel
theorem ck_hk60 : (List.range' 60 15).all hkB = true := by decide +kernel
theorem ck_hd75 : (List.range' 75 15).all hdB = true := by decide +kernel
theorem ck_hk75 : (List.range' 75 15).all hkB = true := by decide +kernel
theorem ck_hd90 : (List.range' 90 15).all hdB = true := by decide +kernel
theorem ck_hk90 : (List.range' 90 15).all hkB = true := by decide +kernel
theorem ck_hd105 : (List.range' 105 15).all hdB = true := by decide +kernel
theorem ck_hk105 : (List.range' 105 15).all hkB = true := by decide +kernel
theorem ck_hd120 : (List.range' 120 15).all hdB = true := by decide +kernel
theorem ck_hk120 : (List.range' 120 15).all hkB = true := by decide +kernel
theorem ck_hd135 : (List.range' 135 15).all hdB = true := by decide +kernel
theorem ck_hk135 : (List.range' 135 15).all hkB = true := by decide +kernel
theorem ck_hd150 : (List.range' 150 15).all hdB = true := by decide +kernel
theorem ck_hk150 : (List.range' 150 15).all hkB = true := by decide +kernel
theorem ck_hd165 : (List.range' 165 15).all hdB = true := by decide +kernel
theorem ck_hk165 : (List.range' 165 15).all hkB = true := by decide +kernel
theorem ck_hd180 : (List.range' 180 15).all hdB = true := by decide +kernel
theorem ck_hk180 : (List.range' 180 15).all hkB = true := by decide +kernel
theorem ck_hd195 : (List.range' 195 15).all hdB = true := by decide +kernel
theorem ck_hk195 : (List.range' 195 15).all hkB = true := by decide +kernel
theorem ck_hd210 : (List.range' 210 15).all hdB = true := by decide +kernel
theorem ck_hk210 : (List.range' 210 15).all hkB = true := by decide +kernel
theorem ck_hd225 : (List.range' 225 11).all hdB = true := by decide +kernel
theorem ck_hk225 : (List.range' 225 11).all hkB = true := by decide +kernel
theorem ck_hdA : ∀ y, y < NY → hdB y = true := by
  intro y hy
  have hy' : y < 236 := hy
  by_cases h15 : y < 15
  · exact in_r ck_hd0 (by omega) (by omega)
  by_cases h30 : y < 30
  · exact in_r ck_hd15 (by omega) (by omega)
  by_cases h45 : y < 45
  · exact in_r ck_hd30 (by omega) (by omega)
  by_cases h60 : y < 60
  · exact in_r ck_hd45 (by omega) (by omega)
  by_cases h75 : y < 75
  · exact in_r ck_hd60 (by omega) (by omega)
  by_cases h90 : y < 90
  · exact in_r ck_hd75 (by omega) (by omega)
  by_cases h105 : y < 105
  · exact in_r ck_hd90 (by omega) (by omega)
  by_cases h120 : y < 120
  · exact in_r ck_hd105 (by omega) (by omega)
  by_cases h135 : y < 135
  · exact in_r ck_hd120 (by omega) (by omega)
  by_cases h150 : y < 150
  · exact in_r ck_hd135 (by omega) (by omega)
  by_cases h165 : y < 165
  · exact in_r ck_hd150 (by omega) (by omega)
  by_cases h180 : y < 180
  · exact in_r ck_hd165 (by omega) (by omega)
  by_cases h195 : y < 195
  · exact in_r ck_hd180 (by omega) (by omega)
  by_cases h210 : y < 210
  · exact in_r ck_hd195 (by omega) (by omega)
  by_cases h225 : y < 225
  · exact in_r ck_hd210 (by omega) (by omega)
  by_cases h240 : y < 236
  · exact in_r ck_hd225 (by omega) (by omega)
  omega
theorem ck_hkA : ∀ y, y < NY → 0 < y → hkB y = true := by
  intro y hy h0
  have hy' : y < 236 := hy
  by_cases h15 : y < 15
  · exact in_r ck_hk0 (by omega) (by omega)
  by_cases h30 : y < 30
  · exact in_r ck_hk15 (by omega) (by omega)
  by_cases h45 : y < 45
  · exact in_r ck_hk30 (by omega) (by omega)
  by_cases h60 : y < 60
  · exact in_r ck_hk45 (by omega) (by omega)
  by_cases h75 : y < 75
  · exact in_r ck_hk60 (by omega) (by omega)
  by_cases h90 : y < 90
  · exact in_r ck_hk75 (by omega) (by omega)
  by_cases h105 : y < 105
  · exact in_r ck_hk90 (by omega) (by omega)
  by_cases h120 : y < 120
  · exact in_r ck_hk105 (by omega) (by omega)
  by_cases h135 : y < 135
  · exact in_r ck_hk120 (by omega) (by omega)
  by_cases h150 : y < 150
  · exact in_r ck_hk135 (by omega) (by omega)
  by_cases h165 : y < 165
  · exact in_r ck_hk150 (by omega) (by omega)
  by_cases h180 : y < 180
  · exact in_r ck_hk165 (by omega) (by omega)
  by_cases h195 : y < 195
  · exact in_r ck_hk180 (by omega) (by omega)
  by_cases h210 : y < 210
  · exact in_r ck_hk195 (by omega) (by omega)
  by_cases h225 : y < 225
  · exact in_r ck_hk210 (by omega) (by omega)
  by_cases h240 : y < 236
  · exact in_r ck_hk225 (by omega) (by omega)
  omega
theorem ck_lay : ∀ c, c < 12 → ((u_ws (cn c) (cT c) (nf c)).all fun w => decide (w ∈ lw_tbl) && goodWord w) = true := by decide +kernel
theorem ck_ty : ∀ c, c < 12 → ∀ k, k < nf c → parseFieldDescriptor (cT c k).2.2.1 = some (cty c k) ∧ (match fT c k with | 0 => cty c k = .int | 1 => cty c k = .long | 3 => cty c k = .boolean | _ => rfR (some (cty c k)) = true) := by
  have h : ∀ c, c < 12 → ∀ k, k < nf c → (decide (parseFieldDescriptor (cT c k).2.2.1 = some (cty c k)) && (match fT c k with | 0 => decide (cty c k = .int) | 1 => decide (cty c k = .long) | 3 => decide (cty c k = .boolean) | _ => rfR (some (cty c k)))) = true := by decide +kernel
  intro c hc k hk
  have := h c hc k hk
  simp only [Bool.and_eq_true, decide_eq_true_eq] at this
  refine ⟨this.1, ?_⟩
  have h2 := this.2
  split at h2 <;> simp_all
theorem ck_nm : ∀ c, c < 12 → ∀ a, a < nf c → ∀ b, b < nf c → a ≠ b → (cT c a).2.1 ≠ (cT c b).2.1 := by decide +kernel
def wp2 (c : Nat) : Nat × Nat := [(87, 71), (188, 76), (174, 75), (522, 83), (97, 72), (154, 74), (126, 73), (237, 78), (311, 80), (574, 84), (212, 77), (963, 79)].getD c (0, 0)
theorem ck_in : ∀ c, c < 12 → hasW (wp2 c).1 (.instantiable (cn c) (nf c)) = true ∧ hasW (wp2 c).2 (.initialized (cn c)) = true := by decide +kernel
theorem chk : Chk := by
  refine ⟨fun y pc e hy hf => ?_, fun y hy => ?_, fun y hy h0 => ?_, fun c hc w hw => ?_, ck_ty, ck_nm, fun c hc _ => ⟨hasW_in (ck_in c hc).1, hasW_in (ck_in c hc).2⟩, ⟨hasW_in (p := 120) (by decide +kernel), hasW_in (p := 172) (by decide +kernel), hasW_in (p := 1119) (by decide +kernel)⟩, ⟨hasW_in (p := 92) (by decide +kernel), hasW_in (p := 93) (by decide +kernel)⟩, ⟨hasW_in (p := 399) (by decide +kernel), hasW_in (p := 398) (by decide +kernel), hasW_in (p := 82) (by decide +kernel)⟩⟩
  · exact List.all_eq_true.mp (ck_ins y hy) (pc, e) (lk_mem _ hf)
  · exact ck_hdA y hy
  · exact ck_hkA y hy h0
  · have := List.all_eq_true.mp (ck_lay c hc) w hw
    simp only [Bool.and_eq_true, decide_eq_true_eq] at this
    exact List.mem_filter.mpr this
theorem chkM : ChkM := ⟨hasW_in (p := 81) (by decide +kernel), ⟨hasW_in (p := 531) (by decide +kernel), hasW_in (p := 532) (by decide +kernel)⟩, ⟨hasW_in (p := 528) (by decide +kernel), hasW_in (p := 529) (by decide +kernel)⟩, ⟨hasW_in (p := 362) (by decide +kernel), hasW_in (p := 363) (by decide +kernel)⟩, ⟨hasW_in (p := 741) (by decide +kernel), hasW_in (p := 742) (by decide +kernel)⟩, ⟨hasW_in (p := 626) (by decide +kernel), hasW_in (p := 627) (by decide +kernel)⟩, ⟨hasW_in (p := 738) (by decide +kernel), hasW_in (p := 739) (by decide +kernel)⟩⟩
