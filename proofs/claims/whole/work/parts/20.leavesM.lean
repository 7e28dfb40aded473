/-! Leaves of the reference. Printed by wip/g20.py. -/
theorem kS_1 {κ : zK} {n : Nat} {x : Int32} : (kS κ n x).1 = upd κ.1 n x := by rw [kS]
theorem kS_2 {κ : zK} {n : Nat} {x : Int32} : (kS κ n x).2 = κ.2 := by rw [kS]
theorem kA_1 {κ : zK} {a j : Nat} {x : Int32} : (kA κ a j x).1 = κ.1 := by rw [kA]
theorem kQ_1 {κ : zK} {a j : Nat} {x : Option Nat} : (kQ κ a j x).1 = κ.1 := by rw [kQ]
theorem kQ_21 {κ : zK} {a j : Nat} {x : Option Nat} : (kQ κ a j x).2.1 = κ.2.1 := by rw [kQ]
theorem mS_1 {μ : zM} {n : Nat} {x : Int32} : (mS μ n x).1 = upd μ.1 n x := by rw [mS]
theorem mS_2 {μ : zM} {n : Nat} {x : Int32} : (mS μ n x).2 = μ.2 := by rw [mS]
theorem mA_1 {μ : zM} {a j : Nat} {x : Int32} : (mA μ a j x).1 = μ.1 := by rw [mA]
theorem upd_ap {f : Nat → Int32} {k j : Nat} {x : Int32} : upd f k x j = if j = k then x else f j := by rw [upd]
theorem mA_2 {μ : zM} {a b i j : Nat} {x : Int32} : (mA μ a j x).2 b i = if b = a then (if i = j then x else μ.2 a i) else μ.2 b i := by
  unfold mA va_up upd
  simp only
  split <;> rfl
theorem kA_21 {κ : zK} {a b i j : Nat} {x : Int32} : (kA κ a j x).2.1 b i = if b = a then (if i = j then x else κ.2.1 a i) else κ.2.1 b i := by
  unfold kA va_up upd
  simp only
  split <;> rfl
theorem kA_22 {κ : zK} {a j : Nat} {x : Int32} : (kA κ a j x).2.2 = κ.2.2 := by rw [kA]
theorem kQ_22 {κ : zK} {a b i j : Nat} {x : Option Nat} : (kQ κ a j x).2.2 b i = if b = a then (if i = j then x else κ.2.2 a i) else κ.2.2 b i := by
  unfold kQ va_up
  simp only
  split <;> rfl
theorem hz_ch_toInt (x : Int32) : (hz_ch x).toInt = x.toInt % 65536 := by
  unfold hz_ch
  rw [lg_i2c_nf, lg_i2c_toInt]
  rfl
theorem hz_char {v : Int32} (h1 : 0 ≤ v.toInt) (h2 : v.toInt < 65536) : narrow .char (.int v) = .int v := by
  show Value.int _ = _
  rw [lg_i2c_small h1 h2]
theorem hz_ch_nar (x : Int32) : narrow .char (.int (hz_ch x)) = .int (hz_ch x) := by
  have := hz_ch_toInt x
  exact hz_char (by omega) (by omega)
theorem z_ite0 {p : Prop} [Decidable p] : ((if p then hz_n 1 else hz_n 0).toInt = 0) = ¬ p := by
  by_cases h : p
  · rw [if_pos h, hz_n_toInt (by decide)]
    simp [h]
  · rw [if_neg h, hz_n_toInt (by decide)]
    simp [h]
theorem hz_n_l {x : Int32} (h : x = 0 ∨ x = 1) : narrow .boolean (.int x) = .int x := by rcases h with rfl | rfl <;> rfl
theorem hz_t_m100 : (hz_n (-100)).toInt = -100 := hz_n_toInt (by decide)
theorem hz_t_m30 : (hz_n (-30)).toInt = -30 := hz_n_toInt (by decide)
theorem hz_t_m20 : (hz_n (-20)).toInt = -20 := hz_n_toInt (by decide)
theorem hz_t_m5 : (hz_n (-5)).toInt = -5 := hz_n_toInt (by decide)
theorem hz_t_m4 : (hz_n (-4)).toInt = -4 := hz_n_toInt (by decide)
theorem hz_t_m3 : (hz_n (-3)).toInt = -3 := hz_n_toInt (by decide)
theorem hz_t_m2 : (hz_n (-2)).toInt = -2 := hz_n_toInt (by decide)
theorem hz_t_m1 : (hz_n (-1)).toInt = -1 := hz_n_toInt (by decide)
theorem hz_t_0 : (hz_n 0).toInt = 0 := hz_n_toInt (by decide)
theorem hz_t_1 : (hz_n 1).toInt = 1 := hz_n_toInt (by decide)
theorem hz_t_2 : (hz_n 2).toInt = 2 := hz_n_toInt (by decide)
theorem hz_t_3 : (hz_n 3).toInt = 3 := hz_n_toInt (by decide)
theorem hz_t_4 : (hz_n 4).toInt = 4 := hz_n_toInt (by decide)
theorem hz_t_5 : (hz_n 5).toInt = 5 := hz_n_toInt (by decide)
theorem hz_t_6 : (hz_n 6).toInt = 6 := hz_n_toInt (by decide)
theorem hz_t_7 : (hz_n 7).toInt = 7 := hz_n_toInt (by decide)
theorem hz_t_8 : (hz_n 8).toInt = 8 := hz_n_toInt (by decide)
theorem hz_t_9 : (hz_n 9).toInt = 9 := hz_n_toInt (by decide)
theorem hz_t_10 : (hz_n 10).toInt = 10 := hz_n_toInt (by decide)
theorem hz_t_15 : (hz_n 15).toInt = 15 := hz_n_toInt (by decide)
theorem hz_t_26 : (hz_n 26).toInt = 26 := hz_n_toInt (by decide)
theorem hz_t_27 : (hz_n 27).toInt = 27 := hz_n_toInt (by decide)
theorem hz_t_32 : (hz_n 32).toInt = 32 := hz_n_toInt (by decide)
theorem hz_t_36 : (hz_n 36).toInt = 36 := hz_n_toInt (by decide)
theorem hz_t_40 : (hz_n 40).toInt = 40 := hz_n_toInt (by decide)
theorem hz_t_41 : (hz_n 41).toInt = 41 := hz_n_toInt (by decide)
theorem hz_t_42 : (hz_n 42).toInt = 42 := hz_n_toInt (by decide)
theorem hz_t_43 : (hz_n 43).toInt = 43 := hz_n_toInt (by decide)
theorem hz_t_44 : (hz_n 44).toInt = 44 := hz_n_toInt (by decide)
theorem hz_t_45 : (hz_n 45).toInt = 45 := hz_n_toInt (by decide)
theorem hz_t_46 : (hz_n 46).toInt = 46 := hz_n_toInt (by decide)
theorem hz_t_47 : (hz_n 47).toInt = 47 := hz_n_toInt (by decide)
theorem hz_t_48 : (hz_n 48).toInt = 48 := hz_n_toInt (by decide)
theorem hz_t_50 : (hz_n 50).toInt = 50 := hz_n_toInt (by decide)
theorem hz_t_57 : (hz_n 57).toInt = 57 := hz_n_toInt (by decide)
theorem hz_t_58 : (hz_n 58).toInt = 58 := hz_n_toInt (by decide)
theorem hz_t_60 : (hz_n 60).toInt = 60 := hz_n_toInt (by decide)
theorem hz_t_61 : (hz_n 61).toInt = 61 := hz_n_toInt (by decide)
theorem hz_t_63 : (hz_n 63).toInt = 63 := hz_n_toInt (by decide)
theorem hz_t_65 : (hz_n 65).toInt = 65 := hz_n_toInt (by decide)
theorem hz_t_90 : (hz_n 90).toInt = 90 := hz_n_toInt (by decide)
theorem hz_t_91 : (hz_n 91).toInt = 91 := hz_n_toInt (by decide)
theorem hz_t_92 : (hz_n 92).toInt = 92 := hz_n_toInt (by decide)
theorem hz_t_93 : (hz_n 93).toInt = 93 := hz_n_toInt (by decide)
theorem hz_t_97 : (hz_n 97).toInt = 97 := hz_n_toInt (by decide)
theorem hz_t_104 : (hz_n 104).toInt = 104 := hz_n_toInt (by decide)
theorem hz_t_108 : (hz_n 108).toInt = 108 := hz_n_toInt (by decide)
theorem hz_t_120 : (hz_n 120).toInt = 120 := hz_n_toInt (by decide)
theorem hz_t_122 : (hz_n 122).toInt = 122 := hz_n_toInt (by decide)
theorem hz_t_126 : (hz_n 126).toInt = 126 := hz_n_toInt (by decide)
theorem hz_t_950 : (hz_n 950).toInt = 950 := hz_n_toInt (by decide)
theorem hz_t_1000 : (hz_n 1000).toInt = 1000 := hz_n_toInt (by decide)
theorem hz_t_1040 : (hz_n 1040).toInt = 1040 := hz_n_toInt (by decide)
theorem hz_t_1080 : (hz_n 1080).toInt = 1080 := hz_n_toInt (by decide)
theorem hz_t_2000 : (hz_n 2000).toInt = 2000 := hz_n_toInt (by decide)
theorem hz_t_2001 : (hz_n 2001).toInt = 2001 := hz_n_toInt (by decide)
theorem hz_t_2150 : (hz_n 2150).toInt = 2150 := hz_n_toInt (by decide)
theorem hz_t_2600 : (hz_n 2600).toInt = 2600 := hz_n_toInt (by decide)
theorem hz_t_4096 : (hz_n 4096).toInt = 4096 := hz_n_toInt (by decide)
def zbit (p : Prop) [Decidable p] : Int32 := if p then hz_n 1 else hz_n 0
set_option maxHeartbeats 2000000 in
set_option maxRecDepth 20000 in
theorem k_M_thrown {l : Launch} {G : hz_G} {κ : zK} {μ : zM} {ω : Nat → Int64} {D : hz_H} {n : Nat}  : hz_M lw_tbl zAO zCl zKT l y_M_thrown c_M_thrown 1 (some .int) (zR 1) G [.ref 15] (zH κ μ ω D) n (fun r h' n' => r = some (.int (μ.1 10)) ∧ h' = zH κ (μ) ω D ∧ n' = n) := by
  refine hz_body (by decide) (by simp [Value.category]) (by simp) ?_
  intro p e s m args below meth c B
  refine hz_go B (ft_M B rfl) (cn_M B rfl) 200 [] ?_
  show q_M_thrown _ 200 0 [some (.ref 15)] [] _
  simp only [↓e_M_thrown_0, ↓e_M_thrown_0n, ↓e_M_thrown_1, ↓e_M_thrown_4, ↓rd_15_0, ↓wr_15_0, ↓rd_15_1, ↓wr_15_1, ↓rd_15_2, ↓rd_15_3, ↓wr_15_3, ↓rd_15_4, ↓rd_15_5, ↓rd_15_6, ↓rd_15_7, ↓rd_15_8, ↓rd_15_9, ↓rd_15_10, ↓rd_15_11, ↓rd_15_12, ↓wr_15_12, ↓rd_15_13, ↓wr_15_13, ↓rd_15_14, ↓rd_15_15, ↓rd_15_16, ↓rd_15_17, ↓wr_15_17, ↓rd_15_18, ↓rd_15_19, ↓rd_15_20, ↓rd_15_21, ↓rd_15_22, ↓rd_15_23, ↓wr_15_23, ↓rd_15_24, ↓rd_15_25, ↓wr_15_25, ↓rd_15_26, ↓rd_15_27, ↓rd_15_28, ↓rd_15_29, ↓wr_15_29, ↓rd_15_30, ↓rd_15_31, ↓rd_15_32, ↓wr_15_32, ↓rd_15_33, ↓wr_15_33, ↓rd_15_34, ↓wr_15_34, ↓rd_15_35, ↓wr_15_35, ↓rd_15_36, ↓wr_15_36, ↓rd_15_37, ↓wr_15_37, ↓rd_15_38, ↓wr_15_38, ↓ea_16, ↓es_16, ↓ea_17, ↓es_17, ↓ea_18, ↓es_18, ↓ea_19, ↓es_19, ↓ea_20, ↓es_20, ↓ea_21, ↓es_21, ↓ea_22, ↓es_22, ↓ea_23, ↓es_23, ↓ea_24, ↓es_24, ↓ea_25, ↓es_25, ↓ea_26, ↓es_26, ↓ea_27, ↓es_27, ↓ea_28, ↓es_28, ↓ea_29, ↓es_29, ↓ea_30, ↓es_30, ↓ea_31, ↓es_31, ↓ea_32, ↓es_32, ↓ea_33, ↓es_33, ↓ea_34, ↓es_34, ↓ea_35, ↓es_35, ↓ea_36, ↓es_36, ↓ea_37, ↓es_37, ↓ea_38, ↓es_38]
  try simp only [hz_t_m100, hz_t_m30, hz_t_m20, hz_t_m5, hz_t_m4, hz_t_m3, hz_t_m2, hz_t_m1, hz_t_0, hz_t_1, hz_t_2, hz_t_3, hz_t_4, hz_t_5, hz_t_6, hz_t_7, hz_t_8, hz_t_9, hz_t_10, hz_t_15, hz_t_26, hz_t_27, hz_t_32, hz_t_36, hz_t_40, hz_t_41, hz_t_42, hz_t_43, hz_t_44, hz_t_45, hz_t_46, hz_t_47, hz_t_48, hz_t_50, hz_t_57, hz_t_58, hz_t_60, hz_t_61, hz_t_63, hz_t_65, hz_t_90, hz_t_91, hz_t_92, hz_t_93, hz_t_97, hz_t_104, hz_t_108, hz_t_120, hz_t_122, hz_t_126, hz_t_950, hz_t_1000, hz_t_1040, hz_t_1080, hz_t_2000, hz_t_2001, hz_t_2150, hz_t_2600, hz_t_4096, kS_1, kA_1, kQ_1, mS_1, mA_1, kS_2, kQ_21, mS_2, upd_ap, mA_2, kA_21, kA_22, kQ_22, Nat.reduceEqDiff, Int.reduceToNat, ↓reduceIte, Classical.not_not, and_self, and_true, true_and, eq_self, not_true_eq_false, not_false_eq_true, false_implies, true_implies, implies_true, z_ite0]
  repeat' (first | with_reducible refine And.intro ?_ ?_ | with_reducible intro _)
  all_goals first
    | omega
    | (refine zat 4 rfl ?_; exact hz_iret B rfl (⟨rfl, rfl, rfl⟩) (Nat.le_refl _) (Nat.le_refl _) d_M_thrown_4)
set_option maxHeartbeats 2000000 in
set_option maxRecDepth 20000 in
theorem k_M_isVariable {l : Launch} {G : hz_G} {κ : zK} {μ : zM} {ω : Nat → Int64} {D : hz_H} {n : Nat} {x : Int32}  : hz_M lw_tbl zAO zCl zKT l y_M_isVariable c_M_isVariable 1 (some .boolean) (zR 1) G [.int x] (zH κ μ ω D) n (fun r h' n' => r = some (.int (if 97 ≤ x.toInt ∧ x.toInt ≤ 122 then hz_n 1 else hz_n 0)) ∧ h' = zH κ (μ) ω D ∧ n' = n) := by
  refine hz_body (by decide) (by simp [Value.category]) (by simp) ?_
  intro p e s m args below meth c B
  refine hz_go B (ft_M B rfl) (cn_M B rfl) 200 [] ?_
  show q_M_isVariable _ 200 0 [some (.int x)] [] _
  simp only [↓e_M_isVariable_0, ↓e_M_isVariable_1, ↓e_M_isVariable_3, ↓e_M_isVariable_6, ↓e_M_isVariable_7, ↓e_M_isVariable_9, ↓e_M_isVariable_12, ↓e_M_isVariable_13, ↓e_M_isVariable_16, ↓e_M_isVariable_17, ↓rd_15_0, ↓wr_15_0, ↓rd_15_1, ↓wr_15_1, ↓rd_15_2, ↓rd_15_3, ↓wr_15_3, ↓rd_15_4, ↓rd_15_5, ↓rd_15_6, ↓rd_15_7, ↓rd_15_8, ↓rd_15_9, ↓rd_15_10, ↓rd_15_11, ↓rd_15_12, ↓wr_15_12, ↓rd_15_13, ↓wr_15_13, ↓rd_15_14, ↓rd_15_15, ↓rd_15_16, ↓rd_15_17, ↓wr_15_17, ↓rd_15_18, ↓rd_15_19, ↓rd_15_20, ↓rd_15_21, ↓rd_15_22, ↓rd_15_23, ↓wr_15_23, ↓rd_15_24, ↓rd_15_25, ↓wr_15_25, ↓rd_15_26, ↓rd_15_27, ↓rd_15_28, ↓rd_15_29, ↓wr_15_29, ↓rd_15_30, ↓rd_15_31, ↓rd_15_32, ↓wr_15_32, ↓rd_15_33, ↓wr_15_33, ↓rd_15_34, ↓wr_15_34, ↓rd_15_35, ↓wr_15_35, ↓rd_15_36, ↓wr_15_36, ↓rd_15_37, ↓wr_15_37, ↓rd_15_38, ↓wr_15_38, ↓ea_16, ↓es_16, ↓ea_17, ↓es_17, ↓ea_18, ↓es_18, ↓ea_19, ↓es_19, ↓ea_20, ↓es_20, ↓ea_21, ↓es_21, ↓ea_22, ↓es_22, ↓ea_23, ↓es_23, ↓ea_24, ↓es_24, ↓ea_25, ↓es_25, ↓ea_26, ↓es_26, ↓ea_27, ↓es_27, ↓ea_28, ↓es_28, ↓ea_29, ↓es_29, ↓ea_30, ↓es_30, ↓ea_31, ↓es_31, ↓ea_32, ↓es_32, ↓ea_33, ↓es_33, ↓ea_34, ↓es_34, ↓ea_35, ↓es_35, ↓ea_36, ↓es_36, ↓ea_37, ↓es_37, ↓ea_38, ↓es_38]
  try simp only [hz_t_m100, hz_t_m30, hz_t_m20, hz_t_m5, hz_t_m4, hz_t_m3, hz_t_m2, hz_t_m1, hz_t_0, hz_t_1, hz_t_2, hz_t_3, hz_t_4, hz_t_5, hz_t_6, hz_t_7, hz_t_8, hz_t_9, hz_t_10, hz_t_15, hz_t_26, hz_t_27, hz_t_32, hz_t_36, hz_t_40, hz_t_41, hz_t_42, hz_t_43, hz_t_44, hz_t_45, hz_t_46, hz_t_47, hz_t_48, hz_t_50, hz_t_57, hz_t_58, hz_t_60, hz_t_61, hz_t_63, hz_t_65, hz_t_90, hz_t_91, hz_t_92, hz_t_93, hz_t_97, hz_t_104, hz_t_108, hz_t_120, hz_t_122, hz_t_126, hz_t_950, hz_t_1000, hz_t_1040, hz_t_1080, hz_t_2000, hz_t_2001, hz_t_2150, hz_t_2600, hz_t_4096, kS_1, kA_1, kQ_1, mS_1, mA_1, kS_2, kQ_21, mS_2, upd_ap, mA_2, kA_21, kA_22, kQ_22, Nat.reduceEqDiff, Int.reduceToNat, ↓reduceIte, Classical.not_not, and_self, and_true, true_and, eq_self, not_true_eq_false, not_false_eq_true, false_implies, true_implies, implies_true, z_ite0]
  repeat' (first | with_reducible refine And.intro ?_ ?_ | with_reducible intro _)
  all_goals first
    | omega
    | (refine zat 17 rfl ?_; exact hz_iret B (by first | rfl | decide | (unfold narrow; simp)) (⟨by first | rfl | (rw [if_pos (by omega)]) | (rw [if_neg (by omega)]), rfl, rfl⟩) (Nat.le_refl _) (Nat.le_refl _) d_M_isVariable_17)
set_option maxHeartbeats 2000000 in
set_option maxRecDepth 20000 in
theorem k_M_isLetter {l : Launch} {G : hz_G} {κ : zK} {μ : zM} {ω : Nat → Int64} {D : hz_H} {n : Nat} {x : Int32}  : hz_M lw_tbl zAO zCl zKT l y_M_isLetter c_M_isLetter 1 (some .boolean) (zR 1) G [.int x] (zH κ μ ω D) n (fun r h' n' => r = some (.int (if 65 ≤ x.toInt ∧ x.toInt ≤ 90 then hz_n 1 else hz_n 0)) ∧ h' = zH κ (μ) ω D ∧ n' = n) := by
  refine hz_body (by decide) (by simp [Value.category]) (by simp) ?_
  intro p e s m args below meth c B
  refine hz_go B (ft_M B rfl) (cn_M B rfl) 200 [] ?_
  show q_M_isLetter _ 200 0 [some (.int x)] [] _
  simp only [↓e_M_isLetter_0, ↓e_M_isLetter_1, ↓e_M_isLetter_3, ↓e_M_isLetter_6, ↓e_M_isLetter_7, ↓e_M_isLetter_9, ↓e_M_isLetter_12, ↓e_M_isLetter_13, ↓e_M_isLetter_16, ↓e_M_isLetter_17, ↓rd_15_0, ↓wr_15_0, ↓rd_15_1, ↓wr_15_1, ↓rd_15_2, ↓rd_15_3, ↓wr_15_3, ↓rd_15_4, ↓rd_15_5, ↓rd_15_6, ↓rd_15_7, ↓rd_15_8, ↓rd_15_9, ↓rd_15_10, ↓rd_15_11, ↓rd_15_12, ↓wr_15_12, ↓rd_15_13, ↓wr_15_13, ↓rd_15_14, ↓rd_15_15, ↓rd_15_16, ↓rd_15_17, ↓wr_15_17, ↓rd_15_18, ↓rd_15_19, ↓rd_15_20, ↓rd_15_21, ↓rd_15_22, ↓rd_15_23, ↓wr_15_23, ↓rd_15_24, ↓rd_15_25, ↓wr_15_25, ↓rd_15_26, ↓rd_15_27, ↓rd_15_28, ↓rd_15_29, ↓wr_15_29, ↓rd_15_30, ↓rd_15_31, ↓rd_15_32, ↓wr_15_32, ↓rd_15_33, ↓wr_15_33, ↓rd_15_34, ↓wr_15_34, ↓rd_15_35, ↓wr_15_35, ↓rd_15_36, ↓wr_15_36, ↓rd_15_37, ↓wr_15_37, ↓rd_15_38, ↓wr_15_38, ↓ea_16, ↓es_16, ↓ea_17, ↓es_17, ↓ea_18, ↓es_18, ↓ea_19, ↓es_19, ↓ea_20, ↓es_20, ↓ea_21, ↓es_21, ↓ea_22, ↓es_22, ↓ea_23, ↓es_23, ↓ea_24, ↓es_24, ↓ea_25, ↓es_25, ↓ea_26, ↓es_26, ↓ea_27, ↓es_27, ↓ea_28, ↓es_28, ↓ea_29, ↓es_29, ↓ea_30, ↓es_30, ↓ea_31, ↓es_31, ↓ea_32, ↓es_32, ↓ea_33, ↓es_33, ↓ea_34, ↓es_34, ↓ea_35, ↓es_35, ↓ea_36, ↓es_36, ↓ea_37, ↓es_37, ↓ea_38, ↓es_38]
  try simp only [hz_t_m100, hz_t_m30, hz_t_m20, hz_t_m5, hz_t_m4, hz_t_m3, hz_t_m2, hz_t_m1, hz_t_0, hz_t_1, hz_t_2, hz_t_3, hz_t_4, hz_t_5, hz_t_6, hz_t_7, hz_t_8, hz_t_9, hz_t_10, hz_t_15, hz_t_26, hz_t_27, hz_t_32, hz_t_36, hz_t_40, hz_t_41, hz_t_42, hz_t_43, hz_t_44, hz_t_45, hz_t_46, hz_t_47, hz_t_48, hz_t_50, hz_t_57, hz_t_58, hz_t_60, hz_t_61, hz_t_63, hz_t_65, hz_t_90, hz_t_91, hz_t_92, hz_t_93, hz_t_97, hz_t_104, hz_t_108, hz_t_120, hz_t_122, hz_t_126, hz_t_950, hz_t_1000, hz_t_1040, hz_t_1080, hz_t_2000, hz_t_2001, hz_t_2150, hz_t_2600, hz_t_4096, kS_1, kA_1, kQ_1, mS_1, mA_1, kS_2, kQ_21, mS_2, upd_ap, mA_2, kA_21, kA_22, kQ_22, Nat.reduceEqDiff, Int.reduceToNat, ↓reduceIte, Classical.not_not, and_self, and_true, true_and, eq_self, not_true_eq_false, not_false_eq_true, false_implies, true_implies, implies_true, z_ite0]
  repeat' (first | with_reducible refine And.intro ?_ ?_ | with_reducible intro _)
  all_goals first
    | omega
    | (refine zat 17 rfl ?_; exact hz_iret B (by first | rfl | decide | (unfold narrow; simp)) (⟨by first | rfl | (rw [if_pos (by omega)]) | (rw [if_neg (by omega)]), rfl, rfl⟩) (Nat.le_refl _) (Nat.le_refl _) d_M_isLetter_17)
set_option maxHeartbeats 2000000 in
set_option maxRecDepth 20000 in
theorem k_M_isOperator {l : Launch} {G : hz_G} {κ : zK} {μ : zM} {ω : Nat → Int64} {D : hz_H} {n : Nat} {x : Int32}  : hz_M lw_tbl zAO zCl zKT l y_M_isOperator c_M_isOperator 1 (some .boolean) (zR 1) G [.int x] (zH κ μ ω D) n (fun r h' n' => r = some (.int (if x.toInt = 43 ∨ x.toInt = 45 ∨ x.toInt = 42 ∨ x.toInt = 60 ∨ x.toInt = 61 then hz_n 1 else hz_n 0)) ∧ h' = zH κ (μ) ω D ∧ n' = n) := by
  refine hz_body (by decide) (by simp [Value.category]) (by simp) ?_
  intro p e s m args below meth c B
  refine hz_go B (ft_M B rfl) (cn_M B rfl) 200 [] ?_
  show q_M_isOperator _ 200 0 [some (.int x)] [] _
  simp only [↓e_M_isOperator_0, ↓e_M_isOperator_1, ↓e_M_isOperator_3, ↓e_M_isOperator_6, ↓e_M_isOperator_7, ↓e_M_isOperator_9, ↓e_M_isOperator_12, ↓e_M_isOperator_13, ↓e_M_isOperator_15, ↓e_M_isOperator_18, ↓e_M_isOperator_19, ↓e_M_isOperator_21, ↓e_M_isOperator_24, ↓e_M_isOperator_25, ↓e_M_isOperator_27, ↓e_M_isOperator_30, ↓e_M_isOperator_31, ↓e_M_isOperator_34, ↓e_M_isOperator_35, ↓rd_15_0, ↓wr_15_0, ↓rd_15_1, ↓wr_15_1, ↓rd_15_2, ↓rd_15_3, ↓wr_15_3, ↓rd_15_4, ↓rd_15_5, ↓rd_15_6, ↓rd_15_7, ↓rd_15_8, ↓rd_15_9, ↓rd_15_10, ↓rd_15_11, ↓rd_15_12, ↓wr_15_12, ↓rd_15_13, ↓wr_15_13, ↓rd_15_14, ↓rd_15_15, ↓rd_15_16, ↓rd_15_17, ↓wr_15_17, ↓rd_15_18, ↓rd_15_19, ↓rd_15_20, ↓rd_15_21, ↓rd_15_22, ↓rd_15_23, ↓wr_15_23, ↓rd_15_24, ↓rd_15_25, ↓wr_15_25, ↓rd_15_26, ↓rd_15_27, ↓rd_15_28, ↓rd_15_29, ↓wr_15_29, ↓rd_15_30, ↓rd_15_31, ↓rd_15_32, ↓wr_15_32, ↓rd_15_33, ↓wr_15_33, ↓rd_15_34, ↓wr_15_34, ↓rd_15_35, ↓wr_15_35, ↓rd_15_36, ↓wr_15_36, ↓rd_15_37, ↓wr_15_37, ↓rd_15_38, ↓wr_15_38, ↓ea_16, ↓es_16, ↓ea_17, ↓es_17, ↓ea_18, ↓es_18, ↓ea_19, ↓es_19, ↓ea_20, ↓es_20, ↓ea_21, ↓es_21, ↓ea_22, ↓es_22, ↓ea_23, ↓es_23, ↓ea_24, ↓es_24, ↓ea_25, ↓es_25, ↓ea_26, ↓es_26, ↓ea_27, ↓es_27, ↓ea_28, ↓es_28, ↓ea_29, ↓es_29, ↓ea_30, ↓es_30, ↓ea_31, ↓es_31, ↓ea_32, ↓es_32, ↓ea_33, ↓es_33, ↓ea_34, ↓es_34, ↓ea_35, ↓es_35, ↓ea_36, ↓es_36, ↓ea_37, ↓es_37, ↓ea_38, ↓es_38]
  try simp only [hz_t_m100, hz_t_m30, hz_t_m20, hz_t_m5, hz_t_m4, hz_t_m3, hz_t_m2, hz_t_m1, hz_t_0, hz_t_1, hz_t_2, hz_t_3, hz_t_4, hz_t_5, hz_t_6, hz_t_7, hz_t_8, hz_t_9, hz_t_10, hz_t_15, hz_t_26, hz_t_27, hz_t_32, hz_t_36, hz_t_40, hz_t_41, hz_t_42, hz_t_43, hz_t_44, hz_t_45, hz_t_46, hz_t_47, hz_t_48, hz_t_50, hz_t_57, hz_t_58, hz_t_60, hz_t_61, hz_t_63, hz_t_65, hz_t_90, hz_t_91, hz_t_92, hz_t_93, hz_t_97, hz_t_104, hz_t_108, hz_t_120, hz_t_122, hz_t_126, hz_t_950, hz_t_1000, hz_t_1040, hz_t_1080, hz_t_2000, hz_t_2001, hz_t_2150, hz_t_2600, hz_t_4096, kS_1, kA_1, kQ_1, mS_1, mA_1, kS_2, kQ_21, mS_2, upd_ap, mA_2, kA_21, kA_22, kQ_22, Nat.reduceEqDiff, Int.reduceToNat, ↓reduceIte, Classical.not_not, and_self, and_true, true_and, eq_self, not_true_eq_false, not_false_eq_true, false_implies, true_implies, implies_true, z_ite0]
  repeat' (first | with_reducible refine And.intro ?_ ?_ | with_reducible intro _)
  all_goals first
    | omega
    | (refine zat 35 rfl ?_; exact hz_iret B (by first | rfl | decide | (unfold narrow; simp)) (⟨by first | rfl | (rw [if_pos (by omega)]) | (rw [if_neg (by omega)]), rfl, rfl⟩) (Nat.le_refl _) (Nat.le_refl _) d_M_isOperator_35)
def m_push (μ : zM) (w k d : Int32) : zM := mS (mA (mA (mA μ 25 (μ.1 14).toInt.toNat w) 26 (μ.1 14).toInt.toNat k) 27 (μ.1 14).toInt.toNat d) 14 (μ.1 14 + hz_n 1)
set_option maxHeartbeats 2000000 in
set_option maxRecDepth 20000 in
theorem k_M_push {l : Launch} {G : hz_G} {κ : zK} {μ : zM} {ω : Nat → Int64} {D : hz_H} {n : Nat} {x y z : Int32} (hw : 0 ≤ (μ.1 14).toInt ∧ (μ.1 14).toInt < 120) : hz_M lw_tbl zAO zCl zKT l y_M_push c_M_push 4 none (zR 1) G [.ref 15, .int x, .int y, .int z] (zH κ μ ω D) n (fun r h' n' => r = none ∧ h' = zH κ (m_push μ x y z) ω D ∧ n' = n) := by
  refine hz_body (by decide) (by simp [Value.category]) (by simp) ?_
  intro p e s m args below meth c B
  refine hz_go B (ft_M B rfl) (cn_M B rfl) 200 [] ?_
  show q_M_push _ 200 0 [some (.ref 15), some (.int x), some (.int y), some (.int z)] [] _
  simp only [↓e_M_push_0, ↓e_M_push_0n, ↓e_M_push_1, ↓e_M_push_4, ↓e_M_push_4n, ↓e_M_push_5, ↓e_M_push_8, ↓e_M_push_9, ↓e_M_push_10, ↓e_M_push_10n, ↓e_M_push_11, ↓e_M_push_14, ↓e_M_push_14n, ↓e_M_push_15, ↓e_M_push_18, ↓e_M_push_19, ↓e_M_push_20, ↓e_M_push_20n, ↓e_M_push_21, ↓e_M_push_24, ↓e_M_push_24n, ↓e_M_push_25, ↓e_M_push_28, ↓e_M_push_29, ↓e_M_push_30, ↓e_M_push_30n, ↓e_M_push_31, ↓e_M_push_31i, ↓e_M_push_32, ↓e_M_push_35, ↓e_M_push_36, ↓e_M_push_37, ↓e_M_push_40, ↓rd_15_0, ↓wr_15_0, ↓rd_15_1, ↓wr_15_1, ↓rd_15_2, ↓rd_15_3, ↓wr_15_3, ↓rd_15_4, ↓rd_15_5, ↓rd_15_6, ↓rd_15_7, ↓rd_15_8, ↓rd_15_9, ↓rd_15_10, ↓rd_15_11, ↓rd_15_12, ↓wr_15_12, ↓rd_15_13, ↓wr_15_13, ↓rd_15_14, ↓rd_15_15, ↓rd_15_16, ↓rd_15_17, ↓wr_15_17, ↓rd_15_18, ↓rd_15_19, ↓rd_15_20, ↓rd_15_21, ↓rd_15_22, ↓rd_15_23, ↓wr_15_23, ↓rd_15_24, ↓rd_15_25, ↓wr_15_25, ↓rd_15_26, ↓rd_15_27, ↓rd_15_28, ↓rd_15_29, ↓wr_15_29, ↓rd_15_30, ↓rd_15_31, ↓rd_15_32, ↓wr_15_32, ↓rd_15_33, ↓wr_15_33, ↓rd_15_34, ↓wr_15_34, ↓rd_15_35, ↓wr_15_35, ↓rd_15_36, ↓wr_15_36, ↓rd_15_37, ↓wr_15_37, ↓rd_15_38, ↓wr_15_38, ↓ea_16, ↓es_16, ↓ea_17, ↓es_17, ↓ea_18, ↓es_18, ↓ea_19, ↓es_19, ↓ea_20, ↓es_20, ↓ea_21, ↓es_21, ↓ea_22, ↓es_22, ↓ea_23, ↓es_23, ↓ea_24, ↓es_24, ↓ea_25, ↓es_25, ↓ea_26, ↓es_26, ↓ea_27, ↓es_27, ↓ea_28, ↓es_28, ↓ea_29, ↓es_29, ↓ea_30, ↓es_30, ↓ea_31, ↓es_31, ↓ea_32, ↓es_32, ↓ea_33, ↓es_33, ↓ea_34, ↓es_34, ↓ea_35, ↓es_35, ↓ea_36, ↓es_36, ↓ea_37, ↓es_37, ↓ea_38, ↓es_38]
  try simp only [hz_t_m100, hz_t_m30, hz_t_m20, hz_t_m5, hz_t_m4, hz_t_m3, hz_t_m2, hz_t_m1, hz_t_0, hz_t_1, hz_t_2, hz_t_3, hz_t_4, hz_t_5, hz_t_6, hz_t_7, hz_t_8, hz_t_9, hz_t_10, hz_t_15, hz_t_26, hz_t_27, hz_t_32, hz_t_36, hz_t_40, hz_t_41, hz_t_42, hz_t_43, hz_t_44, hz_t_45, hz_t_46, hz_t_47, hz_t_48, hz_t_50, hz_t_57, hz_t_58, hz_t_60, hz_t_61, hz_t_63, hz_t_65, hz_t_90, hz_t_91, hz_t_92, hz_t_93, hz_t_97, hz_t_104, hz_t_108, hz_t_120, hz_t_122, hz_t_126, hz_t_950, hz_t_1000, hz_t_1040, hz_t_1080, hz_t_2000, hz_t_2001, hz_t_2150, hz_t_2600, hz_t_4096, kS_1, kA_1, kQ_1, mS_1, mA_1, kS_2, kQ_21, mS_2, upd_ap, mA_2, kA_21, kA_22, kQ_22, Nat.reduceEqDiff, Int.reduceToNat, ↓reduceIte, Classical.not_not, and_self, and_true, true_and, eq_self, not_true_eq_false, not_false_eq_true, false_implies, true_implies, implies_true, z_ite0]
  repeat' (first | with_reducible refine And.intro ?_ ?_ | with_reducible intro _)
  all_goals first
    | omega
    | (refine zat 40 rfl ?_; exact hz_vret B (⟨rfl, rfl, rfl⟩) (Nat.le_refl _) (Nat.le_refl _) d_M_push_40)
set_option maxHeartbeats 2000000 in
set_option maxRecDepth 20000 in
theorem k_M_type {l : Launch} {G : hz_G} {κ : zK} {μ : zM} {ω : Nat → Int64} {D : hz_H} {n : Nat} {x : Int32} (ht : 0 ≤ (μ.1 11).toInt ∧ (μ.1 11).toInt ≤ 40) : hz_M lw_tbl zAO zCl zKT l y_M_type c_M_type 2 (some .boolean) (zR 1) G [.ref 15, .int x] (zH κ μ ω D) n (fun r h' n' => r = some (.int (if x.toInt < 32 ∨ 126 < x.toInt ∨ (μ.1 11).toInt = 40 then hz_n 0 else hz_n 1)) ∧ h' = zH κ (if x.toInt < 32 ∨ 126 < x.toInt ∨ (μ.1 11).toInt = 40 then mS μ 10 (hz_n 0) else mS (mA (mS μ 10 (hz_n 0)) 16 (μ.1 11).toInt.toNat x) 11 (μ.1 11 + hz_n 1)) ω D ∧ n' = n) := by
  refine hz_body (by decide) (by simp [Value.category]) (by simp) ?_
  intro p e s m args below meth c B
  refine hz_go B (ft_M B rfl) (cn_M B rfl) 200 [] ?_
  show q_M_type _ 200 0 [some (.ref 15), some (.int x)] [] _
  simp only [↓e_M_type_0, ↓e_M_type_0n, ↓e_M_type_1, ↓e_M_type_2, ↓e_M_type_5, ↓e_M_type_6, ↓e_M_type_8, ↓e_M_type_11, ↓e_M_type_12, ↓e_M_type_14, ↓e_M_type_17, ↓e_M_type_17n, ↓e_M_type_18, ↓e_M_type_21, ↓e_M_type_23, ↓e_M_type_26, ↓e_M_type_27, ↓e_M_type_28, ↓e_M_type_28n, ↓e_M_type_29, ↓e_M_type_32, ↓e_M_type_32n, ↓e_M_type_33, ↓e_M_type_36, ↓e_M_type_37, ↓e_M_type_38, ↓e_M_type_38n, ↓e_M_type_39, ↓e_M_type_39i, ↓e_M_type_40, ↓e_M_type_43, ↓e_M_type_44, ↓e_M_type_45, ↓e_M_type_48, ↓e_M_type_49, ↓rd_15_0, ↓wr_15_0, ↓rd_15_1, ↓wr_15_1, ↓rd_15_2, ↓rd_15_3, ↓wr_15_3, ↓rd_15_4, ↓rd_15_5, ↓rd_15_6, ↓rd_15_7, ↓rd_15_8, ↓rd_15_9, ↓rd_15_10, ↓rd_15_11, ↓rd_15_12, ↓wr_15_12, ↓rd_15_13, ↓wr_15_13, ↓rd_15_14, ↓rd_15_15, ↓rd_15_16, ↓rd_15_17, ↓wr_15_17, ↓rd_15_18, ↓rd_15_19, ↓rd_15_20, ↓rd_15_21, ↓rd_15_22, ↓rd_15_23, ↓wr_15_23, ↓rd_15_24, ↓rd_15_25, ↓wr_15_25, ↓rd_15_26, ↓rd_15_27, ↓rd_15_28, ↓rd_15_29, ↓wr_15_29, ↓rd_15_30, ↓rd_15_31, ↓rd_15_32, ↓wr_15_32, ↓rd_15_33, ↓wr_15_33, ↓rd_15_34, ↓wr_15_34, ↓rd_15_35, ↓wr_15_35, ↓rd_15_36, ↓wr_15_36, ↓rd_15_37, ↓wr_15_37, ↓rd_15_38, ↓wr_15_38, ↓ea_16, ↓es_16, ↓ea_17, ↓es_17, ↓ea_18, ↓es_18, ↓ea_19, ↓es_19, ↓ea_20, ↓es_20, ↓ea_21, ↓es_21, ↓ea_22, ↓es_22, ↓ea_23, ↓es_23, ↓ea_24, ↓es_24, ↓ea_25, ↓es_25, ↓ea_26, ↓es_26, ↓ea_27, ↓es_27, ↓ea_28, ↓es_28, ↓ea_29, ↓es_29, ↓ea_30, ↓es_30, ↓ea_31, ↓es_31, ↓ea_32, ↓es_32, ↓ea_33, ↓es_33, ↓ea_34, ↓es_34, ↓ea_35, ↓es_35, ↓ea_36, ↓es_36, ↓ea_37, ↓es_37, ↓ea_38, ↓es_38]
  try simp only [hz_t_m100, hz_t_m30, hz_t_m20, hz_t_m5, hz_t_m4, hz_t_m3, hz_t_m2, hz_t_m1, hz_t_0, hz_t_1, hz_t_2, hz_t_3, hz_t_4, hz_t_5, hz_t_6, hz_t_7, hz_t_8, hz_t_9, hz_t_10, hz_t_15, hz_t_26, hz_t_27, hz_t_32, hz_t_36, hz_t_40, hz_t_41, hz_t_42, hz_t_43, hz_t_44, hz_t_45, hz_t_46, hz_t_47, hz_t_48, hz_t_50, hz_t_57, hz_t_58, hz_t_60, hz_t_61, hz_t_63, hz_t_65, hz_t_90, hz_t_91, hz_t_92, hz_t_93, hz_t_97, hz_t_104, hz_t_108, hz_t_120, hz_t_122, hz_t_126, hz_t_950, hz_t_1000, hz_t_1040, hz_t_1080, hz_t_2000, hz_t_2001, hz_t_2150, hz_t_2600, hz_t_4096, kS_1, kA_1, kQ_1, mS_1, mA_1, kS_2, kQ_21, mS_2, upd_ap, mA_2, kA_21, kA_22, kQ_22, Nat.reduceEqDiff, Int.reduceToNat, ↓reduceIte, Classical.not_not, and_self, and_true, true_and, eq_self, not_true_eq_false, not_false_eq_true, false_implies, true_implies, implies_true, z_ite0]
  repeat' (first | with_reducible refine And.intro ?_ ?_ | with_reducible intro _)
  all_goals first
    | omega
    | (refine zat 27 rfl ?_; exact hz_iret B (by first | rfl | decide | (unfold narrow; simp)) (⟨by first | rfl | (rw [if_pos (by omega)]) | (rw [if_neg (by omega)]), by first | rfl | (rw [if_pos (by omega)] <;> rfl) | (rw [if_neg (by omega)] <;> rfl), rfl⟩) (Nat.le_refl _) (Nat.le_refl _) d_M_type_27)
    | (refine zat 49 rfl ?_; exact hz_iret B (by first | rfl | decide | (unfold narrow; simp)) (⟨by first | rfl | (rw [if_pos (by omega)]) | (rw [if_neg (by omega)]), by first | rfl | (rw [if_pos (by omega)] <;> rfl) | (rw [if_neg (by omega)] <;> rfl), rfl⟩) (Nat.le_refl _) (Nat.le_refl _) d_M_type_49)
set_option maxHeartbeats 2000000 in
set_option maxRecDepth 20000 in
theorem k_M_wipe {l : Launch} {G : hz_G} {κ : zK} {μ : zM} {ω : Nat → Int64} {D : hz_H} {n : Nat}  : hz_M lw_tbl zAO zCl zKT l y_M_wipe c_M_wipe 2 (some .int) (zR 1) G [.ref 15] (zH κ μ ω D) n (fun r h' n' => r = some (.int (μ.1 11)) ∧ h' = zH κ (mS (mS μ 10 (hz_n 0)) 11 (hz_n 0)) ω D ∧ n' = n) := by
  refine hz_body (by decide) (by simp [Value.category]) (by simp) ?_
  intro p e s m args below meth c B
  refine hz_go B (ft_M B rfl) (cn_M B rfl) 200 [] ?_
  show q_M_wipe _ 200 0 [some (.ref 15), none] [] _
  simp only [↓e_M_wipe_0, ↓e_M_wipe_0n, ↓e_M_wipe_1, ↓e_M_wipe_2, ↓e_M_wipe_5, ↓e_M_wipe_5n, ↓e_M_wipe_6, ↓e_M_wipe_9, ↓e_M_wipe_10, ↓e_M_wipe_10n, ↓e_M_wipe_11, ↓e_M_wipe_12, ↓e_M_wipe_15, ↓e_M_wipe_16, ↓rd_15_0, ↓wr_15_0, ↓rd_15_1, ↓wr_15_1, ↓rd_15_2, ↓rd_15_3, ↓wr_15_3, ↓rd_15_4, ↓rd_15_5, ↓rd_15_6, ↓rd_15_7, ↓rd_15_8, ↓rd_15_9, ↓rd_15_10, ↓rd_15_11, ↓rd_15_12, ↓wr_15_12, ↓rd_15_13, ↓wr_15_13, ↓rd_15_14, ↓rd_15_15, ↓rd_15_16, ↓rd_15_17, ↓wr_15_17, ↓rd_15_18, ↓rd_15_19, ↓rd_15_20, ↓rd_15_21, ↓rd_15_22, ↓rd_15_23, ↓wr_15_23, ↓rd_15_24, ↓rd_15_25, ↓wr_15_25, ↓rd_15_26, ↓rd_15_27, ↓rd_15_28, ↓rd_15_29, ↓wr_15_29, ↓rd_15_30, ↓rd_15_31, ↓rd_15_32, ↓wr_15_32, ↓rd_15_33, ↓wr_15_33, ↓rd_15_34, ↓wr_15_34, ↓rd_15_35, ↓wr_15_35, ↓rd_15_36, ↓wr_15_36, ↓rd_15_37, ↓wr_15_37, ↓rd_15_38, ↓wr_15_38, ↓ea_16, ↓es_16, ↓ea_17, ↓es_17, ↓ea_18, ↓es_18, ↓ea_19, ↓es_19, ↓ea_20, ↓es_20, ↓ea_21, ↓es_21, ↓ea_22, ↓es_22, ↓ea_23, ↓es_23, ↓ea_24, ↓es_24, ↓ea_25, ↓es_25, ↓ea_26, ↓es_26, ↓ea_27, ↓es_27, ↓ea_28, ↓es_28, ↓ea_29, ↓es_29, ↓ea_30, ↓es_30, ↓ea_31, ↓es_31, ↓ea_32, ↓es_32, ↓ea_33, ↓es_33, ↓ea_34, ↓es_34, ↓ea_35, ↓es_35, ↓ea_36, ↓es_36, ↓ea_37, ↓es_37, ↓ea_38, ↓es_38]
  try simp only [hz_t_m100, hz_t_m30, hz_t_m20, hz_t_m5, hz_t_m4, hz_t_m3, hz_t_m2, hz_t_m1, hz_t_0, hz_t_1, hz_t_2, hz_t_3, hz_t_4, hz_t_5, hz_t_6, hz_t_7, hz_t_8, hz_t_9, hz_t_10, hz_t_15, hz_t_26, hz_t_27, hz_t_32, hz_t_36, hz_t_40, hz_t_41, hz_t_42, hz_t_43, hz_t_44, hz_t_45, hz_t_46, hz_t_47, hz_t_48, hz_t_50, hz_t_57, hz_t_58, hz_t_60, hz_t_61, hz_t_63, hz_t_65, hz_t_90, hz_t_91, hz_t_92, hz_t_93, hz_t_97, hz_t_104, hz_t_108, hz_t_120, hz_t_122, hz_t_126, hz_t_950, hz_t_1000, hz_t_1040, hz_t_1080, hz_t_2000, hz_t_2001, hz_t_2150, hz_t_2600, hz_t_4096, kS_1, kA_1, kQ_1, mS_1, mA_1, kS_2, kQ_21, mS_2, upd_ap, mA_2, kA_21, kA_22, kQ_22, Nat.reduceEqDiff, Int.reduceToNat, ↓reduceIte, Classical.not_not, and_self, and_true, true_and, eq_self, not_true_eq_false, not_false_eq_true, false_implies, true_implies, implies_true, z_ite0]
  repeat' (first | with_reducible refine And.intro ?_ ?_ | with_reducible intro _)
  all_goals first
    | omega
    | (refine zat 16 rfl ?_; exact hz_iret B rfl (⟨rfl, rfl, rfl⟩) (Nat.le_refl _) (Nat.le_refl _) d_M_wipe_16)
def m_add (μ : zM) (w v p : Int32) : zM := mS (mA (mA (mA (mA μ 21 (μ.1 13).toInt.toNat w) 22 (μ.1 13).toInt.toNat v) 23 (μ.1 13).toInt.toNat (hz_n 0)) 24 (μ.1 13 - hz_n 1040).toInt.toNat p) 13 (μ.1 13 + hz_n 1)
set_option maxHeartbeats 2000000 in
set_option maxRecDepth 20000 in
theorem k_M_add {l : Launch} {G : hz_G} {κ : zK} {μ : zM} {ω : Nat → Int64} {D : hz_H} {n : Nat} {x y z : Int32} (hw : 0 ≤ (μ.1 13).toInt ∧ (μ.1 13).toInt < 1080) (hp : 0 ≤ (μ.1 13 - hz_n 1040).toInt ∧ (μ.1 13 - hz_n 1040).toInt < 40) : hz_M lw_tbl zAO zCl zKT l y_M_add c_M_add 4 (some .int) (zR 1) G [.ref 15, .int x, .int y, .int z] (zH κ μ ω D) n (fun r h' n' => r = some (.int (μ.1 13 + hz_n 1 - hz_n 1)) ∧ h' = zH κ (m_add μ x y z) ω D ∧ n' = n) := by
  refine hz_body (by decide) (by simp [Value.category]) (by simp) ?_
  intro p e s m args below meth c B
  refine hz_go B (ft_M B rfl) (cn_M B rfl) 200 [] ?_
  show q_M_add _ 200 0 [some (.ref 15), some (.int x), some (.int y), some (.int z)] [] _
  simp only [↓e_M_add_0, ↓e_M_add_0n, ↓e_M_add_1, ↓e_M_add_4, ↓e_M_add_4n, ↓e_M_add_5, ↓e_M_add_8, ↓e_M_add_9, ↓e_M_add_10, ↓e_M_add_10n, ↓e_M_add_11, ↓e_M_add_14, ↓e_M_add_14n, ↓e_M_add_15, ↓e_M_add_18, ↓e_M_add_19, ↓e_M_add_20, ↓e_M_add_20n, ↓e_M_add_21, ↓e_M_add_24, ↓e_M_add_24n, ↓e_M_add_25, ↓e_M_add_28, ↓e_M_add_29, ↓e_M_add_30, ↓e_M_add_30n, ↓e_M_add_31, ↓e_M_add_34, ↓e_M_add_34n, ↓e_M_add_35, ↓e_M_add_38, ↓e_M_add_41, ↓e_M_add_42, ↓e_M_add_43, ↓e_M_add_44, ↓e_M_add_44n, ↓e_M_add_45, ↓e_M_add_45i, ↓e_M_add_46, ↓e_M_add_49, ↓e_M_add_50, ↓e_M_add_51, ↓e_M_add_54, ↓e_M_add_54n, ↓e_M_add_55, ↓e_M_add_58, ↓e_M_add_59, ↓e_M_add_60, ↓rd_15_0, ↓wr_15_0, ↓rd_15_1, ↓wr_15_1, ↓rd_15_2, ↓rd_15_3, ↓wr_15_3, ↓rd_15_4, ↓rd_15_5, ↓rd_15_6, ↓rd_15_7, ↓rd_15_8, ↓rd_15_9, ↓rd_15_10, ↓rd_15_11, ↓rd_15_12, ↓wr_15_12, ↓rd_15_13, ↓wr_15_13, ↓rd_15_14, ↓rd_15_15, ↓rd_15_16, ↓rd_15_17, ↓wr_15_17, ↓rd_15_18, ↓rd_15_19, ↓rd_15_20, ↓rd_15_21, ↓rd_15_22, ↓rd_15_23, ↓wr_15_23, ↓rd_15_24, ↓rd_15_25, ↓wr_15_25, ↓rd_15_26, ↓rd_15_27, ↓rd_15_28, ↓rd_15_29, ↓wr_15_29, ↓rd_15_30, ↓rd_15_31, ↓rd_15_32, ↓wr_15_32, ↓rd_15_33, ↓wr_15_33, ↓rd_15_34, ↓wr_15_34, ↓rd_15_35, ↓wr_15_35, ↓rd_15_36, ↓wr_15_36, ↓rd_15_37, ↓wr_15_37, ↓rd_15_38, ↓wr_15_38, ↓ea_16, ↓es_16, ↓ea_17, ↓es_17, ↓ea_18, ↓es_18, ↓ea_19, ↓es_19, ↓ea_20, ↓es_20, ↓ea_21, ↓es_21, ↓ea_22, ↓es_22, ↓ea_23, ↓es_23, ↓ea_24, ↓es_24, ↓ea_25, ↓es_25, ↓ea_26, ↓es_26, ↓ea_27, ↓es_27, ↓ea_28, ↓es_28, ↓ea_29, ↓es_29, ↓ea_30, ↓es_30, ↓ea_31, ↓es_31, ↓ea_32, ↓es_32, ↓ea_33, ↓es_33, ↓ea_34, ↓es_34, ↓ea_35, ↓es_35, ↓ea_36, ↓es_36, ↓ea_37, ↓es_37, ↓ea_38, ↓es_38]
  try simp only [hz_t_m100, hz_t_m30, hz_t_m20, hz_t_m5, hz_t_m4, hz_t_m3, hz_t_m2, hz_t_m1, hz_t_0, hz_t_1, hz_t_2, hz_t_3, hz_t_4, hz_t_5, hz_t_6, hz_t_7, hz_t_8, hz_t_9, hz_t_10, hz_t_15, hz_t_26, hz_t_27, hz_t_32, hz_t_36, hz_t_40, hz_t_41, hz_t_42, hz_t_43, hz_t_44, hz_t_45, hz_t_46, hz_t_47, hz_t_48, hz_t_50, hz_t_57, hz_t_58, hz_t_60, hz_t_61, hz_t_63, hz_t_65, hz_t_90, hz_t_91, hz_t_92, hz_t_93, hz_t_97, hz_t_104, hz_t_108, hz_t_120, hz_t_122, hz_t_126, hz_t_950, hz_t_1000, hz_t_1040, hz_t_1080, hz_t_2000, hz_t_2001, hz_t_2150, hz_t_2600, hz_t_4096, kS_1, kA_1, kQ_1, mS_1, mA_1, kS_2, kQ_21, mS_2, upd_ap, mA_2, kA_21, kA_22, kQ_22, Nat.reduceEqDiff, Int.reduceToNat, ↓reduceIte, Classical.not_not, and_self, and_true, true_and, eq_self, not_true_eq_false, not_false_eq_true, false_implies, true_implies, implies_true, z_ite0]
  repeat' (first | with_reducible refine And.intro ?_ ?_ | with_reducible intro _)
  all_goals first
    | omega
    | (refine zat 60 rfl ?_; exact hz_iret B rfl (⟨rfl, rfl, rfl⟩) (Nat.le_refl _) (Nat.le_refl _) d_M_add_60)
def m_below (μ : zM) (i : Nat) : Int32 := if (μ.2 21 i).toInt = 5 ∨ (μ.2 21 i).toInt = 7 ∨ (μ.2 21 i).toInt = 10 then hz_n 2 else if (μ.2 21 i).toInt = 8 ∨ (μ.2 21 i).toInt = 9 then hz_n 3 else if (μ.2 21 i).toInt = 6 then hz_n 1 + μ.2 23 i else hz_n 0
set_option maxHeartbeats 2000000 in
set_option maxRecDepth 20000 in
theorem k_M_below {l : Launch} {G : hz_G} {κ : zK} {μ : zM} {ω : Nat → Int64} {D : hz_H} {n : Nat} {x : Int32} (hx : 0 ≤ x.toInt ∧ x.toInt < 1080) : hz_M lw_tbl zAO zCl zKT l y_M_below c_M_below 2 (some .int) (zR 1) G [.ref 15, .int x] (zH κ μ ω D) n (fun r h' n' => r = some (.int (m_below μ x.toInt.toNat)) ∧ h' = zH κ (μ) ω D ∧ n' = n) := by
  refine hz_body (by decide) (by simp [Value.category]) (by simp) ?_
  intro p e s m args below meth c B
  refine hz_go B (ft_M B rfl) (cn_M B rfl) 200 [] ?_
  show q_M_below _ 200 0 [some (.ref 15), some (.int x)] [] _
  simp only [↓e_M_below_0, ↓e_M_below_0n, ↓e_M_below_1, ↓e_M_below_4, ↓e_M_below_5, ↓e_M_below_6, ↓e_M_below_44, ↓e_M_below_45, ↓e_M_below_46, ↓e_M_below_47, ↓e_M_below_48, ↓e_M_below_49, ↓e_M_below_49n, ↓e_M_below_50, ↓e_M_below_53, ↓e_M_below_54, ↓e_M_below_55, ↓e_M_below_56, ↓e_M_below_57, ↓e_M_below_58, ↓rd_15_0, ↓wr_15_0, ↓rd_15_1, ↓wr_15_1, ↓rd_15_2, ↓rd_15_3, ↓wr_15_3, ↓rd_15_4, ↓rd_15_5, ↓rd_15_6, ↓rd_15_7, ↓rd_15_8, ↓rd_15_9, ↓rd_15_10, ↓rd_15_11, ↓rd_15_12, ↓wr_15_12, ↓rd_15_13, ↓wr_15_13, ↓rd_15_14, ↓rd_15_15, ↓rd_15_16, ↓rd_15_17, ↓wr_15_17, ↓rd_15_18, ↓rd_15_19, ↓rd_15_20, ↓rd_15_21, ↓rd_15_22, ↓rd_15_23, ↓wr_15_23, ↓rd_15_24, ↓rd_15_25, ↓wr_15_25, ↓rd_15_26, ↓rd_15_27, ↓rd_15_28, ↓rd_15_29, ↓wr_15_29, ↓rd_15_30, ↓rd_15_31, ↓rd_15_32, ↓wr_15_32, ↓rd_15_33, ↓wr_15_33, ↓rd_15_34, ↓wr_15_34, ↓rd_15_35, ↓wr_15_35, ↓rd_15_36, ↓wr_15_36, ↓rd_15_37, ↓wr_15_37, ↓rd_15_38, ↓wr_15_38, ↓ea_16, ↓es_16, ↓ea_17, ↓es_17, ↓ea_18, ↓es_18, ↓ea_19, ↓es_19, ↓ea_20, ↓es_20, ↓ea_21, ↓es_21, ↓ea_22, ↓es_22, ↓ea_23, ↓es_23, ↓ea_24, ↓es_24, ↓ea_25, ↓es_25, ↓ea_26, ↓es_26, ↓ea_27, ↓es_27, ↓ea_28, ↓es_28, ↓ea_29, ↓es_29, ↓ea_30, ↓es_30, ↓ea_31, ↓es_31, ↓ea_32, ↓es_32, ↓ea_33, ↓es_33, ↓ea_34, ↓es_34, ↓ea_35, ↓es_35, ↓ea_36, ↓es_36, ↓ea_37, ↓es_37, ↓ea_38, ↓es_38]
  try simp only [hz_t_m100, hz_t_m30, hz_t_m20, hz_t_m5, hz_t_m4, hz_t_m3, hz_t_m2, hz_t_m1, hz_t_0, hz_t_1, hz_t_2, hz_t_3, hz_t_4, hz_t_5, hz_t_6, hz_t_7, hz_t_8, hz_t_9, hz_t_10, hz_t_15, hz_t_26, hz_t_27, hz_t_32, hz_t_36, hz_t_40, hz_t_41, hz_t_42, hz_t_43, hz_t_44, hz_t_45, hz_t_46, hz_t_47, hz_t_48, hz_t_50, hz_t_57, hz_t_58, hz_t_60, hz_t_61, hz_t_63, hz_t_65, hz_t_90, hz_t_91, hz_t_92, hz_t_93, hz_t_97, hz_t_104, hz_t_108, hz_t_120, hz_t_122, hz_t_126, hz_t_950, hz_t_1000, hz_t_1040, hz_t_1080, hz_t_2000, hz_t_2001, hz_t_2150, hz_t_2600, hz_t_4096, kS_1, kA_1, kQ_1, mS_1, mA_1, kS_2, kQ_21, mS_2, upd_ap, mA_2, kA_21, kA_22, kQ_22, Nat.reduceEqDiff, Int.reduceToNat, ↓reduceIte, Classical.not_not, and_self, and_true, true_and, eq_self, not_true_eq_false, not_false_eq_true, false_implies, true_implies, implies_true, z_ite0]
  repeat' (first | with_reducible refine And.intro ?_ ?_ | with_reducible intro _)
  all_goals first
    | omega
    | (refine zat 45 rfl ?_; exact hz_iret B rfl (⟨by unfold m_below; first | (rw [if_pos (by omega)]) | (rw [if_neg (by omega), if_pos (by omega)]) | (rw [if_neg (by omega), if_neg (by omega), if_pos (by omega)]) | (rw [if_neg (by omega), if_neg (by omega), if_neg (by omega)]), rfl, rfl⟩) (Nat.le_refl _) (Nat.le_refl _) d_M_below_45)
    | (refine zat 47 rfl ?_; exact hz_iret B rfl (⟨by unfold m_below; first | (rw [if_pos (by omega)]) | (rw [if_neg (by omega), if_pos (by omega)]) | (rw [if_neg (by omega), if_neg (by omega), if_pos (by omega)]) | (rw [if_neg (by omega), if_neg (by omega), if_neg (by omega)]), rfl, rfl⟩) (Nat.le_refl _) (Nat.le_refl _) d_M_below_47)
    | (refine zat 56 rfl ?_; exact hz_iret B rfl (⟨by unfold m_below; first | (rw [if_pos (by omega)]) | (rw [if_neg (by omega), if_pos (by omega)]) | (rw [if_neg (by omega), if_neg (by omega), if_pos (by omega)]) | (rw [if_neg (by omega), if_neg (by omega), if_neg (by omega)]), rfl, rfl⟩) (Nat.le_refl _) (Nat.le_refl _) d_M_below_56)
    | (refine zat 58 rfl ?_; exact hz_iret B rfl (⟨by unfold m_below; first | (rw [if_pos (by omega)]) | (rw [if_neg (by omega), if_pos (by omega)]) | (rw [if_neg (by omega), if_neg (by omega), if_pos (by omega)]) | (rw [if_neg (by omega), if_neg (by omega), if_neg (by omega)]), rfl, rfl⟩) (Nat.le_refl _) (Nat.le_refl _) d_M_below_58)
def m_newPromise (μ : zM) (k a : Int32) : zM := mS (mA (mA (mA μ 28 (μ.1 15).toInt.toNat (hz_n 0)) 29 (μ.1 15).toInt.toNat k) 30 (μ.1 15).toInt.toNat a) 15 (μ.1 15 + hz_n 1)
set_option maxHeartbeats 2000000 in
set_option maxRecDepth 20000 in
theorem k_M_newPromise {l : Launch} {G : hz_G} {κ : zK} {μ : zM} {ω : Nat → Int64} {D : hz_H} {n : Nat} {x y : Int32} (hw : 0 ≤ (μ.1 15).toInt ∧ (μ.1 15).toInt < 1000) : hz_M lw_tbl zAO zCl zKT l y_M_newPromise c_M_newPromise 3 (some .int) (zR 1) G [.ref 15, .int x, .int y] (zH κ μ ω D) n (fun r h' n' => r = some (.int (μ.1 15 + hz_n 1 - hz_n 1)) ∧ h' = zH κ (m_newPromise μ x y) ω D ∧ n' = n) := by
  refine hz_body (by decide) (by simp [Value.category]) (by simp) ?_
  intro p e s m args below meth c B
  refine hz_go B (ft_M B rfl) (cn_M B rfl) 200 [] ?_
  show q_M_newPromise _ 200 0 [some (.ref 15), some (.int x), some (.int y)] [] _
  simp only [↓e_M_newPromise_0, ↓e_M_newPromise_0n, ↓e_M_newPromise_1, ↓e_M_newPromise_4, ↓e_M_newPromise_4n, ↓e_M_newPromise_5, ↓e_M_newPromise_8, ↓e_M_newPromise_9, ↓e_M_newPromise_10, ↓e_M_newPromise_10n, ↓e_M_newPromise_11, ↓e_M_newPromise_14, ↓e_M_newPromise_14n, ↓e_M_newPromise_15, ↓e_M_newPromise_18, ↓e_M_newPromise_19, ↓e_M_newPromise_20, ↓e_M_newPromise_20n, ↓e_M_newPromise_21, ↓e_M_newPromise_24, ↓e_M_newPromise_24n, ↓e_M_newPromise_25, ↓e_M_newPromise_28, ↓e_M_newPromise_29, ↓e_M_newPromise_30, ↓e_M_newPromise_30n, ↓e_M_newPromise_31, ↓e_M_newPromise_31i, ↓e_M_newPromise_32, ↓e_M_newPromise_35, ↓e_M_newPromise_36, ↓e_M_newPromise_37, ↓e_M_newPromise_40, ↓e_M_newPromise_40n, ↓e_M_newPromise_41, ↓e_M_newPromise_44, ↓e_M_newPromise_45, ↓e_M_newPromise_46, ↓rd_15_0, ↓wr_15_0, ↓rd_15_1, ↓wr_15_1, ↓rd_15_2, ↓rd_15_3, ↓wr_15_3, ↓rd_15_4, ↓rd_15_5, ↓rd_15_6, ↓rd_15_7, ↓rd_15_8, ↓rd_15_9, ↓rd_15_10, ↓rd_15_11, ↓rd_15_12, ↓wr_15_12, ↓rd_15_13, ↓wr_15_13, ↓rd_15_14, ↓rd_15_15, ↓rd_15_16, ↓rd_15_17, ↓wr_15_17, ↓rd_15_18, ↓rd_15_19, ↓rd_15_20, ↓rd_15_21, ↓rd_15_22, ↓rd_15_23, ↓wr_15_23, ↓rd_15_24, ↓rd_15_25, ↓wr_15_25, ↓rd_15_26, ↓rd_15_27, ↓rd_15_28, ↓rd_15_29, ↓wr_15_29, ↓rd_15_30, ↓rd_15_31, ↓rd_15_32, ↓wr_15_32, ↓rd_15_33, ↓wr_15_33, ↓rd_15_34, ↓wr_15_34, ↓rd_15_35, ↓wr_15_35, ↓rd_15_36, ↓wr_15_36, ↓rd_15_37, ↓wr_15_37, ↓rd_15_38, ↓wr_15_38, ↓ea_16, ↓es_16, ↓ea_17, ↓es_17, ↓ea_18, ↓es_18, ↓ea_19, ↓es_19, ↓ea_20, ↓es_20, ↓ea_21, ↓es_21, ↓ea_22, ↓es_22, ↓ea_23, ↓es_23, ↓ea_24, ↓es_24, ↓ea_25, ↓es_25, ↓ea_26, ↓es_26, ↓ea_27, ↓es_27, ↓ea_28, ↓es_28, ↓ea_29, ↓es_29, ↓ea_30, ↓es_30, ↓ea_31, ↓es_31, ↓ea_32, ↓es_32, ↓ea_33, ↓es_33, ↓ea_34, ↓es_34, ↓ea_35, ↓es_35, ↓ea_36, ↓es_36, ↓ea_37, ↓es_37, ↓ea_38, ↓es_38]
  try simp only [hz_t_m100, hz_t_m30, hz_t_m20, hz_t_m5, hz_t_m4, hz_t_m3, hz_t_m2, hz_t_m1, hz_t_0, hz_t_1, hz_t_2, hz_t_3, hz_t_4, hz_t_5, hz_t_6, hz_t_7, hz_t_8, hz_t_9, hz_t_10, hz_t_15, hz_t_26, hz_t_27, hz_t_32, hz_t_36, hz_t_40, hz_t_41, hz_t_42, hz_t_43, hz_t_44, hz_t_45, hz_t_46, hz_t_47, hz_t_48, hz_t_50, hz_t_57, hz_t_58, hz_t_60, hz_t_61, hz_t_63, hz_t_65, hz_t_90, hz_t_91, hz_t_92, hz_t_93, hz_t_97, hz_t_104, hz_t_108, hz_t_120, hz_t_122, hz_t_126, hz_t_950, hz_t_1000, hz_t_1040, hz_t_1080, hz_t_2000, hz_t_2001, hz_t_2150, hz_t_2600, hz_t_4096, kS_1, kA_1, kQ_1, mS_1, mA_1, kS_2, kQ_21, mS_2, upd_ap, mA_2, kA_21, kA_22, kQ_22, Nat.reduceEqDiff, Int.reduceToNat, ↓reduceIte, Classical.not_not, and_self, and_true, true_and, eq_self, not_true_eq_false, not_false_eq_true, false_implies, true_implies, implies_true, z_ite0]
  repeat' (first | with_reducible refine And.intro ?_ ?_ | with_reducible intro _)
  all_goals first
    | omega
    | (refine zat 46 rfl ?_; exact hz_iret B rfl (⟨rfl, rfl, rfl⟩) (Nat.le_refl _) (Nat.le_refl _) d_M_newPromise_46)
def m_bind (μ : zM) (v p a : Int32) : zM := mS (mA (mA (mA μ 34 (μ.1 17).toInt.toNat v) 35 (μ.1 17).toInt.toNat p) 36 (μ.1 17).toInt.toNat a) 17 (μ.1 17 + hz_n 1)
set_option maxHeartbeats 2000000 in
set_option maxRecDepth 20000 in
theorem k_M_bind {l : Launch} {G : hz_G} {κ : zK} {μ : zM} {ω : Nat → Int64} {D : hz_H} {n : Nat} {x y z : Int32} (hw : 0 ≤ (μ.1 17).toInt ∧ (μ.1 17).toInt < 950) : hz_M lw_tbl zAO zCl zKT l y_M_bind c_M_bind 4 (some .int) (zR 1) G [.ref 15, .int x, .int y, .int z] (zH κ μ ω D) n (fun r h' n' => r = some (.int (μ.1 17 + hz_n 1 - hz_n 1)) ∧ h' = zH κ (m_bind μ x y z) ω D ∧ n' = n) := by
  refine hz_body (by decide) (by simp [Value.category]) (by simp) ?_
  intro p e s m args below meth c B
  refine hz_go B (ft_M B rfl) (cn_M B rfl) 200 [] ?_
  show q_M_bind _ 200 0 [some (.ref 15), some (.int x), some (.int y), some (.int z)] [] _
  simp only [↓e_M_bind_0, ↓e_M_bind_0n, ↓e_M_bind_1, ↓e_M_bind_4, ↓e_M_bind_4n, ↓e_M_bind_5, ↓e_M_bind_8, ↓e_M_bind_9, ↓e_M_bind_10, ↓e_M_bind_10n, ↓e_M_bind_11, ↓e_M_bind_14, ↓e_M_bind_14n, ↓e_M_bind_15, ↓e_M_bind_18, ↓e_M_bind_19, ↓e_M_bind_20, ↓e_M_bind_20n, ↓e_M_bind_21, ↓e_M_bind_24, ↓e_M_bind_24n, ↓e_M_bind_25, ↓e_M_bind_28, ↓e_M_bind_29, ↓e_M_bind_30, ↓e_M_bind_30n, ↓e_M_bind_31, ↓e_M_bind_31i, ↓e_M_bind_32, ↓e_M_bind_35, ↓e_M_bind_36, ↓e_M_bind_37, ↓e_M_bind_40, ↓e_M_bind_40n, ↓e_M_bind_41, ↓e_M_bind_44, ↓e_M_bind_45, ↓e_M_bind_46, ↓rd_15_0, ↓wr_15_0, ↓rd_15_1, ↓wr_15_1, ↓rd_15_2, ↓rd_15_3, ↓wr_15_3, ↓rd_15_4, ↓rd_15_5, ↓rd_15_6, ↓rd_15_7, ↓rd_15_8, ↓rd_15_9, ↓rd_15_10, ↓rd_15_11, ↓rd_15_12, ↓wr_15_12, ↓rd_15_13, ↓wr_15_13, ↓rd_15_14, ↓rd_15_15, ↓rd_15_16, ↓rd_15_17, ↓wr_15_17, ↓rd_15_18, ↓rd_15_19, ↓rd_15_20, ↓rd_15_21, ↓rd_15_22, ↓rd_15_23, ↓wr_15_23, ↓rd_15_24, ↓rd_15_25, ↓wr_15_25, ↓rd_15_26, ↓rd_15_27, ↓rd_15_28, ↓rd_15_29, ↓wr_15_29, ↓rd_15_30, ↓rd_15_31, ↓rd_15_32, ↓wr_15_32, ↓rd_15_33, ↓wr_15_33, ↓rd_15_34, ↓wr_15_34, ↓rd_15_35, ↓wr_15_35, ↓rd_15_36, ↓wr_15_36, ↓rd_15_37, ↓wr_15_37, ↓rd_15_38, ↓wr_15_38, ↓ea_16, ↓es_16, ↓ea_17, ↓es_17, ↓ea_18, ↓es_18, ↓ea_19, ↓es_19, ↓ea_20, ↓es_20, ↓ea_21, ↓es_21, ↓ea_22, ↓es_22, ↓ea_23, ↓es_23, ↓ea_24, ↓es_24, ↓ea_25, ↓es_25, ↓ea_26, ↓es_26, ↓ea_27, ↓es_27, ↓ea_28, ↓es_28, ↓ea_29, ↓es_29, ↓ea_30, ↓es_30, ↓ea_31, ↓es_31, ↓ea_32, ↓es_32, ↓ea_33, ↓es_33, ↓ea_34, ↓es_34, ↓ea_35, ↓es_35, ↓ea_36, ↓es_36, ↓ea_37, ↓es_37, ↓ea_38, ↓es_38]
  try simp only [hz_t_m100, hz_t_m30, hz_t_m20, hz_t_m5, hz_t_m4, hz_t_m3, hz_t_m2, hz_t_m1, hz_t_0, hz_t_1, hz_t_2, hz_t_3, hz_t_4, hz_t_5, hz_t_6, hz_t_7, hz_t_8, hz_t_9, hz_t_10, hz_t_15, hz_t_26, hz_t_27, hz_t_32, hz_t_36, hz_t_40, hz_t_41, hz_t_42, hz_t_43, hz_t_44, hz_t_45, hz_t_46, hz_t_47, hz_t_48, hz_t_50, hz_t_57, hz_t_58, hz_t_60, hz_t_61, hz_t_63, hz_t_65, hz_t_90, hz_t_91, hz_t_92, hz_t_93, hz_t_97, hz_t_104, hz_t_108, hz_t_120, hz_t_122, hz_t_126, hz_t_950, hz_t_1000, hz_t_1040, hz_t_1080, hz_t_2000, hz_t_2001, hz_t_2150, hz_t_2600, hz_t_4096, kS_1, kA_1, kQ_1, mS_1, mA_1, kS_2, kQ_21, mS_2, upd_ap, mA_2, kA_21, kA_22, kQ_22, Nat.reduceEqDiff, Int.reduceToNat, ↓reduceIte, Classical.not_not, and_self, and_true, true_and, eq_self, not_true_eq_false, not_false_eq_true, false_implies, true_implies, implies_true, z_ite0]
  repeat' (first | with_reducible refine And.intro ?_ ?_ | with_reducible intro _)
  all_goals first
    | omega
    | (refine zat 46 rfl ?_; exact hz_iret B rfl (⟨rfl, rfl, rfl⟩) (Nat.le_refl _) (Nat.le_refl _) d_M_bind_46)
def m_store (μ : zM) (v : Int32) : zM := mS (mA μ 33 (μ.1 16).toInt.toNat v) 16 (μ.1 16 + hz_n 1)
set_option maxHeartbeats 2000000 in
set_option maxRecDepth 20000 in
theorem k_M_store {l : Launch} {G : hz_G} {κ : zK} {μ : zM} {ω : Nat → Int64} {D : hz_H} {n : Nat} {x : Int32} (hw : 0 ≤ (μ.1 16).toInt ∧ (μ.1 16).toInt < 2600) : hz_M lw_tbl zAO zCl zKT l y_M_store c_M_store 2 (some .int) (zR 1) G [.ref 15, .int x] (zH κ μ ω D) n (fun r h' n' => r = some (.int (μ.1 16 + hz_n 1 - hz_n 1)) ∧ h' = zH κ (m_store μ x) ω D ∧ n' = n) := by
  refine hz_body (by decide) (by simp [Value.category]) (by simp) ?_
  intro p e s m args below meth c B
  refine hz_go B (ft_M B rfl) (cn_M B rfl) 200 [] ?_
  show q_M_store _ 200 0 [some (.ref 15), some (.int x)] [] _
  simp only [↓e_M_store_0, ↓e_M_store_0n, ↓e_M_store_1, ↓e_M_store_4, ↓e_M_store_4n, ↓e_M_store_5, ↓e_M_store_8, ↓e_M_store_9, ↓e_M_store_10, ↓e_M_store_10n, ↓e_M_store_11, ↓e_M_store_11i, ↓e_M_store_12, ↓e_M_store_15, ↓e_M_store_16, ↓e_M_store_17, ↓e_M_store_20, ↓e_M_store_20n, ↓e_M_store_21, ↓e_M_store_24, ↓e_M_store_25, ↓e_M_store_26, ↓rd_15_0, ↓wr_15_0, ↓rd_15_1, ↓wr_15_1, ↓rd_15_2, ↓rd_15_3, ↓wr_15_3, ↓rd_15_4, ↓rd_15_5, ↓rd_15_6, ↓rd_15_7, ↓rd_15_8, ↓rd_15_9, ↓rd_15_10, ↓rd_15_11, ↓rd_15_12, ↓wr_15_12, ↓rd_15_13, ↓wr_15_13, ↓rd_15_14, ↓rd_15_15, ↓rd_15_16, ↓rd_15_17, ↓wr_15_17, ↓rd_15_18, ↓rd_15_19, ↓rd_15_20, ↓rd_15_21, ↓rd_15_22, ↓rd_15_23, ↓wr_15_23, ↓rd_15_24, ↓rd_15_25, ↓wr_15_25, ↓rd_15_26, ↓rd_15_27, ↓rd_15_28, ↓rd_15_29, ↓wr_15_29, ↓rd_15_30, ↓rd_15_31, ↓rd_15_32, ↓wr_15_32, ↓rd_15_33, ↓wr_15_33, ↓rd_15_34, ↓wr_15_34, ↓rd_15_35, ↓wr_15_35, ↓rd_15_36, ↓wr_15_36, ↓rd_15_37, ↓wr_15_37, ↓rd_15_38, ↓wr_15_38, ↓ea_16, ↓es_16, ↓ea_17, ↓es_17, ↓ea_18, ↓es_18, ↓ea_19, ↓es_19, ↓ea_20, ↓es_20, ↓ea_21, ↓es_21, ↓ea_22, ↓es_22, ↓ea_23, ↓es_23, ↓ea_24, ↓es_24, ↓ea_25, ↓es_25, ↓ea_26, ↓es_26, ↓ea_27, ↓es_27, ↓ea_28, ↓es_28, ↓ea_29, ↓es_29, ↓ea_30, ↓es_30, ↓ea_31, ↓es_31, ↓ea_32, ↓es_32, ↓ea_33, ↓es_33, ↓ea_34, ↓es_34, ↓ea_35, ↓es_35, ↓ea_36, ↓es_36, ↓ea_37, ↓es_37, ↓ea_38, ↓es_38]
  try simp only [hz_t_m100, hz_t_m30, hz_t_m20, hz_t_m5, hz_t_m4, hz_t_m3, hz_t_m2, hz_t_m1, hz_t_0, hz_t_1, hz_t_2, hz_t_3, hz_t_4, hz_t_5, hz_t_6, hz_t_7, hz_t_8, hz_t_9, hz_t_10, hz_t_15, hz_t_26, hz_t_27, hz_t_32, hz_t_36, hz_t_40, hz_t_41, hz_t_42, hz_t_43, hz_t_44, hz_t_45, hz_t_46, hz_t_47, hz_t_48, hz_t_50, hz_t_57, hz_t_58, hz_t_60, hz_t_61, hz_t_63, hz_t_65, hz_t_90, hz_t_91, hz_t_92, hz_t_93, hz_t_97, hz_t_104, hz_t_108, hz_t_120, hz_t_122, hz_t_126, hz_t_950, hz_t_1000, hz_t_1040, hz_t_1080, hz_t_2000, hz_t_2001, hz_t_2150, hz_t_2600, hz_t_4096, kS_1, kA_1, kQ_1, mS_1, mA_1, kS_2, kQ_21, mS_2, upd_ap, mA_2, kA_21, kA_22, kQ_22, Nat.reduceEqDiff, Int.reduceToNat, ↓reduceIte, Classical.not_not, and_self, and_true, true_and, eq_self, not_true_eq_false, not_false_eq_true, false_implies, true_implies, implies_true, z_ite0]
  repeat' (first | with_reducible refine And.intro ?_ ?_ | with_reducible intro _)
  all_goals first
    | omega
    | (refine zat 26 rfl ?_; exact hz_iret B rfl (⟨rfl, rfl, rfl⟩) (Nat.le_refl _) (Nat.le_refl _) d_M_store_26)
def m_stack (μ : zM) (w a b : Int32) : zM := mS (mA (mA μ 37 (μ.1 18).toInt.toNat (hz_n 4096 * w + a)) 38 (μ.1 18).toInt.toNat b) 18 (μ.1 18 + hz_n 1)
set_option maxHeartbeats 2000000 in
set_option maxRecDepth 20000 in
theorem k_M_stack {l : Launch} {G : hz_G} {κ : zK} {μ : zM} {ω : Nat → Int64} {D : hz_H} {n : Nat} {x y z : Int32} (hw : 0 ≤ (μ.1 18).toInt ∧ (μ.1 18).toInt < 2150) : hz_M lw_tbl zAO zCl zKT l y_M_stack c_M_stack 4 none (zR 1) G [.ref 15, .int x, .int y, .int z] (zH κ μ ω D) n (fun r h' n' => r = none ∧ h' = zH κ (m_stack μ x y z) ω D ∧ n' = n) := by
  refine hz_body (by decide) (by simp [Value.category]) (by simp) ?_
  intro p e s m args below meth c B
  refine hz_go B (ft_M B rfl) (cn_M B rfl) 200 [] ?_
  show q_M_stack _ 200 0 [some (.ref 15), some (.int x), some (.int y), some (.int z)] [] _
  simp only [↓e_M_stack_0, ↓e_M_stack_0n, ↓e_M_stack_1, ↓e_M_stack_4, ↓e_M_stack_4n, ↓e_M_stack_5, ↓e_M_stack_8, ↓e_M_stack_11, ↓e_M_stack_12, ↓e_M_stack_13, ↓e_M_stack_14, ↓e_M_stack_15, ↓e_M_stack_16, ↓e_M_stack_16n, ↓e_M_stack_17, ↓e_M_stack_20, ↓e_M_stack_20n, ↓e_M_stack_21, ↓e_M_stack_24, ↓e_M_stack_25, ↓e_M_stack_26, ↓e_M_stack_26n, ↓e_M_stack_27, ↓e_M_stack_27i, ↓e_M_stack_28, ↓e_M_stack_31, ↓e_M_stack_32, ↓e_M_stack_33, ↓e_M_stack_36, ↓rd_15_0, ↓wr_15_0, ↓rd_15_1, ↓wr_15_1, ↓rd_15_2, ↓rd_15_3, ↓wr_15_3, ↓rd_15_4, ↓rd_15_5, ↓rd_15_6, ↓rd_15_7, ↓rd_15_8, ↓rd_15_9, ↓rd_15_10, ↓rd_15_11, ↓rd_15_12, ↓wr_15_12, ↓rd_15_13, ↓wr_15_13, ↓rd_15_14, ↓rd_15_15, ↓rd_15_16, ↓rd_15_17, ↓wr_15_17, ↓rd_15_18, ↓rd_15_19, ↓rd_15_20, ↓rd_15_21, ↓rd_15_22, ↓rd_15_23, ↓wr_15_23, ↓rd_15_24, ↓rd_15_25, ↓wr_15_25, ↓rd_15_26, ↓rd_15_27, ↓rd_15_28, ↓rd_15_29, ↓wr_15_29, ↓rd_15_30, ↓rd_15_31, ↓rd_15_32, ↓wr_15_32, ↓rd_15_33, ↓wr_15_33, ↓rd_15_34, ↓wr_15_34, ↓rd_15_35, ↓wr_15_35, ↓rd_15_36, ↓wr_15_36, ↓rd_15_37, ↓wr_15_37, ↓rd_15_38, ↓wr_15_38, ↓ea_16, ↓es_16, ↓ea_17, ↓es_17, ↓ea_18, ↓es_18, ↓ea_19, ↓es_19, ↓ea_20, ↓es_20, ↓ea_21, ↓es_21, ↓ea_22, ↓es_22, ↓ea_23, ↓es_23, ↓ea_24, ↓es_24, ↓ea_25, ↓es_25, ↓ea_26, ↓es_26, ↓ea_27, ↓es_27, ↓ea_28, ↓es_28, ↓ea_29, ↓es_29, ↓ea_30, ↓es_30, ↓ea_31, ↓es_31, ↓ea_32, ↓es_32, ↓ea_33, ↓es_33, ↓ea_34, ↓es_34, ↓ea_35, ↓es_35, ↓ea_36, ↓es_36, ↓ea_37, ↓es_37, ↓ea_38, ↓es_38]
  try simp only [hz_t_m100, hz_t_m30, hz_t_m20, hz_t_m5, hz_t_m4, hz_t_m3, hz_t_m2, hz_t_m1, hz_t_0, hz_t_1, hz_t_2, hz_t_3, hz_t_4, hz_t_5, hz_t_6, hz_t_7, hz_t_8, hz_t_9, hz_t_10, hz_t_15, hz_t_26, hz_t_27, hz_t_32, hz_t_36, hz_t_40, hz_t_41, hz_t_42, hz_t_43, hz_t_44, hz_t_45, hz_t_46, hz_t_47, hz_t_48, hz_t_50, hz_t_57, hz_t_58, hz_t_60, hz_t_61, hz_t_63, hz_t_65, hz_t_90, hz_t_91, hz_t_92, hz_t_93, hz_t_97, hz_t_104, hz_t_108, hz_t_120, hz_t_122, hz_t_126, hz_t_950, hz_t_1000, hz_t_1040, hz_t_1080, hz_t_2000, hz_t_2001, hz_t_2150, hz_t_2600, hz_t_4096, kS_1, kA_1, kQ_1, mS_1, mA_1, kS_2, kQ_21, mS_2, upd_ap, mA_2, kA_21, kA_22, kQ_22, Nat.reduceEqDiff, Int.reduceToNat, ↓reduceIte, Classical.not_not, and_self, and_true, true_and, eq_self, not_true_eq_false, not_false_eq_true, false_implies, true_implies, implies_true, z_ite0]
  repeat' (first | with_reducible refine And.intro ?_ ?_ | with_reducible intro _)
  all_goals first
    | omega
    | (refine zat 36 rfl ?_; exact hz_vret B (⟨rfl, rfl, rfl⟩) (Nat.le_refl _) (Nat.le_refl _) d_M_stack_36)
def m_evaluate (μ : zM) (k a : Int32) : zM := mS (mS (mS μ 22 k) 23 a) 24 (hz_n (-1))
set_option maxHeartbeats 2000000 in
set_option maxRecDepth 20000 in
theorem k_M_evaluate {l : Launch} {G : hz_G} {κ : zK} {μ : zM} {ω : Nat → Int64} {D : hz_H} {n : Nat} {x y : Int32}  : hz_M lw_tbl zAO zCl zKT l y_M_evaluate c_M_evaluate 3 none (zR 1) G [.ref 15, .int x, .int y] (zH κ μ ω D) n (fun r h' n' => r = none ∧ h' = zH κ (m_evaluate μ x y) ω D ∧ n' = n) := by
  refine hz_body (by decide) (by simp [Value.category]) (by simp) ?_
  intro p e s m args below meth c B
  refine hz_go B (ft_M B rfl) (cn_M B rfl) 200 [] ?_
  show q_M_evaluate _ 200 0 [some (.ref 15), some (.int x), some (.int y)] [] _
  simp only [↓e_M_evaluate_0, ↓e_M_evaluate_0n, ↓e_M_evaluate_1, ↓e_M_evaluate_2, ↓e_M_evaluate_5, ↓e_M_evaluate_5n, ↓e_M_evaluate_6, ↓e_M_evaluate_7, ↓e_M_evaluate_10, ↓e_M_evaluate_10n, ↓e_M_evaluate_11, ↓e_M_evaluate_12, ↓e_M_evaluate_15, ↓rd_15_0, ↓wr_15_0, ↓rd_15_1, ↓wr_15_1, ↓rd_15_2, ↓rd_15_3, ↓wr_15_3, ↓rd_15_4, ↓rd_15_5, ↓rd_15_6, ↓rd_15_7, ↓rd_15_8, ↓rd_15_9, ↓rd_15_10, ↓rd_15_11, ↓rd_15_12, ↓wr_15_12, ↓rd_15_13, ↓wr_15_13, ↓rd_15_14, ↓rd_15_15, ↓rd_15_16, ↓rd_15_17, ↓wr_15_17, ↓rd_15_18, ↓rd_15_19, ↓rd_15_20, ↓rd_15_21, ↓rd_15_22, ↓rd_15_23, ↓wr_15_23, ↓rd_15_24, ↓rd_15_25, ↓wr_15_25, ↓rd_15_26, ↓rd_15_27, ↓rd_15_28, ↓rd_15_29, ↓wr_15_29, ↓rd_15_30, ↓rd_15_31, ↓rd_15_32, ↓wr_15_32, ↓rd_15_33, ↓wr_15_33, ↓rd_15_34, ↓wr_15_34, ↓rd_15_35, ↓wr_15_35, ↓rd_15_36, ↓wr_15_36, ↓rd_15_37, ↓wr_15_37, ↓rd_15_38, ↓wr_15_38, ↓ea_16, ↓es_16, ↓ea_17, ↓es_17, ↓ea_18, ↓es_18, ↓ea_19, ↓es_19, ↓ea_20, ↓es_20, ↓ea_21, ↓es_21, ↓ea_22, ↓es_22, ↓ea_23, ↓es_23, ↓ea_24, ↓es_24, ↓ea_25, ↓es_25, ↓ea_26, ↓es_26, ↓ea_27, ↓es_27, ↓ea_28, ↓es_28, ↓ea_29, ↓es_29, ↓ea_30, ↓es_30, ↓ea_31, ↓es_31, ↓ea_32, ↓es_32, ↓ea_33, ↓es_33, ↓ea_34, ↓es_34, ↓ea_35, ↓es_35, ↓ea_36, ↓es_36, ↓ea_37, ↓es_37, ↓ea_38, ↓es_38]
  try simp only [hz_t_m100, hz_t_m30, hz_t_m20, hz_t_m5, hz_t_m4, hz_t_m3, hz_t_m2, hz_t_m1, hz_t_0, hz_t_1, hz_t_2, hz_t_3, hz_t_4, hz_t_5, hz_t_6, hz_t_7, hz_t_8, hz_t_9, hz_t_10, hz_t_15, hz_t_26, hz_t_27, hz_t_32, hz_t_36, hz_t_40, hz_t_41, hz_t_42, hz_t_43, hz_t_44, hz_t_45, hz_t_46, hz_t_47, hz_t_48, hz_t_50, hz_t_57, hz_t_58, hz_t_60, hz_t_61, hz_t_63, hz_t_65, hz_t_90, hz_t_91, hz_t_92, hz_t_93, hz_t_97, hz_t_104, hz_t_108, hz_t_120, hz_t_122, hz_t_126, hz_t_950, hz_t_1000, hz_t_1040, hz_t_1080, hz_t_2000, hz_t_2001, hz_t_2150, hz_t_2600, hz_t_4096, kS_1, kA_1, kQ_1, mS_1, mA_1, kS_2, kQ_21, mS_2, upd_ap, mA_2, kA_21, kA_22, kQ_22, Nat.reduceEqDiff, Int.reduceToNat, ↓reduceIte, Classical.not_not, and_self, and_true, true_and, eq_self, not_true_eq_false, not_false_eq_true, false_implies, true_implies, implies_true, z_ite0]
  repeat' (first | with_reducible refine And.intro ?_ ?_ | with_reducible intro _)
  all_goals first
    | omega
    | (refine zat 15 rfl ?_; exact hz_vret B (⟨rfl, rfl, rfl⟩) (Nat.le_refl _) (Nat.le_refl _) d_M_evaluate_15)
def m_found (μ : zM) (k a : Int32) : zM := mS (mS (mS μ 22 (hz_n (-1))) 24 k) 25 a
set_option maxHeartbeats 2000000 in
set_option maxRecDepth 20000 in
theorem k_M_found {l : Launch} {G : hz_G} {κ : zK} {μ : zM} {ω : Nat → Int64} {D : hz_H} {n : Nat} {x y : Int32}  : hz_M lw_tbl zAO zCl zKT l y_M_found c_M_found 3 none (zR 1) G [.ref 15, .int x, .int y] (zH κ μ ω D) n (fun r h' n' => r = none ∧ h' = zH κ (m_found μ x y) ω D ∧ n' = n) := by
  refine hz_body (by decide) (by simp [Value.category]) (by simp) ?_
  intro p e s m args below meth c B
  refine hz_go B (ft_M B rfl) (cn_M B rfl) 200 [] ?_
  show q_M_found _ 200 0 [some (.ref 15), some (.int x), some (.int y)] [] _
  simp only [↓e_M_found_0, ↓e_M_found_0n, ↓e_M_found_1, ↓e_M_found_2, ↓e_M_found_5, ↓e_M_found_5n, ↓e_M_found_6, ↓e_M_found_7, ↓e_M_found_10, ↓e_M_found_10n, ↓e_M_found_11, ↓e_M_found_12, ↓e_M_found_15, ↓rd_15_0, ↓wr_15_0, ↓rd_15_1, ↓wr_15_1, ↓rd_15_2, ↓rd_15_3, ↓wr_15_3, ↓rd_15_4, ↓rd_15_5, ↓rd_15_6, ↓rd_15_7, ↓rd_15_8, ↓rd_15_9, ↓rd_15_10, ↓rd_15_11, ↓rd_15_12, ↓wr_15_12, ↓rd_15_13, ↓wr_15_13, ↓rd_15_14, ↓rd_15_15, ↓rd_15_16, ↓rd_15_17, ↓wr_15_17, ↓rd_15_18, ↓rd_15_19, ↓rd_15_20, ↓rd_15_21, ↓rd_15_22, ↓rd_15_23, ↓wr_15_23, ↓rd_15_24, ↓rd_15_25, ↓wr_15_25, ↓rd_15_26, ↓rd_15_27, ↓rd_15_28, ↓rd_15_29, ↓wr_15_29, ↓rd_15_30, ↓rd_15_31, ↓rd_15_32, ↓wr_15_32, ↓rd_15_33, ↓wr_15_33, ↓rd_15_34, ↓wr_15_34, ↓rd_15_35, ↓wr_15_35, ↓rd_15_36, ↓wr_15_36, ↓rd_15_37, ↓wr_15_37, ↓rd_15_38, ↓wr_15_38, ↓ea_16, ↓es_16, ↓ea_17, ↓es_17, ↓ea_18, ↓es_18, ↓ea_19, ↓es_19, ↓ea_20, ↓es_20, ↓ea_21, ↓es_21, ↓ea_22, ↓es_22, ↓ea_23, ↓es_23, ↓ea_24, ↓es_24, ↓ea_25, ↓es_25, ↓ea_26, ↓es_26, ↓ea_27, ↓es_27, ↓ea_28, ↓es_28, ↓ea_29, ↓es_29, ↓ea_30, ↓es_30, ↓ea_31, ↓es_31, ↓ea_32, ↓es_32, ↓ea_33, ↓es_33, ↓ea_34, ↓es_34, ↓ea_35, ↓es_35, ↓ea_36, ↓es_36, ↓ea_37, ↓es_37, ↓ea_38, ↓es_38]
  try simp only [hz_t_m100, hz_t_m30, hz_t_m20, hz_t_m5, hz_t_m4, hz_t_m3, hz_t_m2, hz_t_m1, hz_t_0, hz_t_1, hz_t_2, hz_t_3, hz_t_4, hz_t_5, hz_t_6, hz_t_7, hz_t_8, hz_t_9, hz_t_10, hz_t_15, hz_t_26, hz_t_27, hz_t_32, hz_t_36, hz_t_40, hz_t_41, hz_t_42, hz_t_43, hz_t_44, hz_t_45, hz_t_46, hz_t_47, hz_t_48, hz_t_50, hz_t_57, hz_t_58, hz_t_60, hz_t_61, hz_t_63, hz_t_65, hz_t_90, hz_t_91, hz_t_92, hz_t_93, hz_t_97, hz_t_104, hz_t_108, hz_t_120, hz_t_122, hz_t_126, hz_t_950, hz_t_1000, hz_t_1040, hz_t_1080, hz_t_2000, hz_t_2001, hz_t_2150, hz_t_2600, hz_t_4096, kS_1, kA_1, kQ_1, mS_1, mA_1, kS_2, kQ_21, mS_2, upd_ap, mA_2, kA_21, kA_22, kQ_22, Nat.reduceEqDiff, Int.reduceToNat, ↓reduceIte, Classical.not_not, and_self, and_true, true_and, eq_self, not_true_eq_false, not_false_eq_true, false_implies, true_implies, implies_true, z_ite0]
  repeat' (first | with_reducible refine And.intro ?_ ?_ | with_reducible intro _)
  all_goals first
    | omega
    | (refine zat 15 rfl ?_; exact hz_vret B (⟨rfl, rfl, rfl⟩) (Nat.le_refl _) (Nat.le_refl _) d_M_found_15)
def m_nothing (μ : zM) : zM := mS (mS μ 22 (hz_n (-1))) 24 (hz_n (-1))
set_option maxHeartbeats 2000000 in
set_option maxRecDepth 20000 in
theorem k_M_nothing {l : Launch} {G : hz_G} {κ : zK} {μ : zM} {ω : Nat → Int64} {D : hz_H} {n : Nat}  : hz_M lw_tbl zAO zCl zKT l y_M_nothing c_M_nothing 1 none (zR 1) G [.ref 15] (zH κ μ ω D) n (fun r h' n' => r = none ∧ h' = zH κ (m_nothing μ) ω D ∧ n' = n) := by
  refine hz_body (by decide) (by simp [Value.category]) (by simp) ?_
  intro p e s m args below meth c B
  refine hz_go B (ft_M B rfl) (cn_M B rfl) 200 [] ?_
  show q_M_nothing _ 200 0 [some (.ref 15)] [] _
  simp only [↓e_M_nothing_0, ↓e_M_nothing_0n, ↓e_M_nothing_1, ↓e_M_nothing_2, ↓e_M_nothing_5, ↓e_M_nothing_5n, ↓e_M_nothing_6, ↓e_M_nothing_7, ↓e_M_nothing_10, ↓rd_15_0, ↓wr_15_0, ↓rd_15_1, ↓wr_15_1, ↓rd_15_2, ↓rd_15_3, ↓wr_15_3, ↓rd_15_4, ↓rd_15_5, ↓rd_15_6, ↓rd_15_7, ↓rd_15_8, ↓rd_15_9, ↓rd_15_10, ↓rd_15_11, ↓rd_15_12, ↓wr_15_12, ↓rd_15_13, ↓wr_15_13, ↓rd_15_14, ↓rd_15_15, ↓rd_15_16, ↓rd_15_17, ↓wr_15_17, ↓rd_15_18, ↓rd_15_19, ↓rd_15_20, ↓rd_15_21, ↓rd_15_22, ↓rd_15_23, ↓wr_15_23, ↓rd_15_24, ↓rd_15_25, ↓wr_15_25, ↓rd_15_26, ↓rd_15_27, ↓rd_15_28, ↓rd_15_29, ↓wr_15_29, ↓rd_15_30, ↓rd_15_31, ↓rd_15_32, ↓wr_15_32, ↓rd_15_33, ↓wr_15_33, ↓rd_15_34, ↓wr_15_34, ↓rd_15_35, ↓wr_15_35, ↓rd_15_36, ↓wr_15_36, ↓rd_15_37, ↓wr_15_37, ↓rd_15_38, ↓wr_15_38, ↓ea_16, ↓es_16, ↓ea_17, ↓es_17, ↓ea_18, ↓es_18, ↓ea_19, ↓es_19, ↓ea_20, ↓es_20, ↓ea_21, ↓es_21, ↓ea_22, ↓es_22, ↓ea_23, ↓es_23, ↓ea_24, ↓es_24, ↓ea_25, ↓es_25, ↓ea_26, ↓es_26, ↓ea_27, ↓es_27, ↓ea_28, ↓es_28, ↓ea_29, ↓es_29, ↓ea_30, ↓es_30, ↓ea_31, ↓es_31, ↓ea_32, ↓es_32, ↓ea_33, ↓es_33, ↓ea_34, ↓es_34, ↓ea_35, ↓es_35, ↓ea_36, ↓es_36, ↓ea_37, ↓es_37, ↓ea_38, ↓es_38]
  try simp only [hz_t_m100, hz_t_m30, hz_t_m20, hz_t_m5, hz_t_m4, hz_t_m3, hz_t_m2, hz_t_m1, hz_t_0, hz_t_1, hz_t_2, hz_t_3, hz_t_4, hz_t_5, hz_t_6, hz_t_7, hz_t_8, hz_t_9, hz_t_10, hz_t_15, hz_t_26, hz_t_27, hz_t_32, hz_t_36, hz_t_40, hz_t_41, hz_t_42, hz_t_43, hz_t_44, hz_t_45, hz_t_46, hz_t_47, hz_t_48, hz_t_50, hz_t_57, hz_t_58, hz_t_60, hz_t_61, hz_t_63, hz_t_65, hz_t_90, hz_t_91, hz_t_92, hz_t_93, hz_t_97, hz_t_104, hz_t_108, hz_t_120, hz_t_122, hz_t_126, hz_t_950, hz_t_1000, hz_t_1040, hz_t_1080, hz_t_2000, hz_t_2001, hz_t_2150, hz_t_2600, hz_t_4096, kS_1, kA_1, kQ_1, mS_1, mA_1, kS_2, kQ_21, mS_2, upd_ap, mA_2, kA_21, kA_22, kQ_22, Nat.reduceEqDiff, Int.reduceToNat, ↓reduceIte, Classical.not_not, and_self, and_true, true_and, eq_self, not_true_eq_false, not_false_eq_true, false_implies, true_implies, implies_true, z_ite0]
  repeat' (first | with_reducible refine And.intro ?_ ?_ | with_reducible intro _)
  all_goals first
    | omega
    | (refine zat 10 rfl ?_; exact hz_vret B (⟨rfl, rfl, rfl⟩) (Nat.le_refl _) (Nat.le_refl _) d_M_nothing_10)
set_option maxHeartbeats 2000000 in
set_option maxRecDepth 20000 in
theorem k_M_entries {l : Launch} {G : hz_G} {κ : zK} {μ : zM} {ω : Nat → Int64} {D : hz_H} {n : Nat}  : hz_M lw_tbl zAO zCl zKT l y_M_entries c_M_entries 1 (some .int) (zR 1) G [.ref 15] (zH κ μ ω D) n (fun r h' n' => r = some (.int (μ.1 20)) ∧ h' = zH κ (mS μ 10 (hz_n 0)) ω D ∧ n' = n) := by
  refine hz_body (by decide) (by simp [Value.category]) (by simp) ?_
  intro p e s m args below meth c B
  refine hz_go B (ft_M B rfl) (cn_M B rfl) 200 [] ?_
  show q_M_entries _ 200 0 [some (.ref 15)] [] _
  simp only [↓e_M_entries_0, ↓e_M_entries_0n, ↓e_M_entries_1, ↓e_M_entries_2, ↓e_M_entries_5, ↓e_M_entries_5n, ↓e_M_entries_6, ↓e_M_entries_9, ↓rd_15_0, ↓wr_15_0, ↓rd_15_1, ↓wr_15_1, ↓rd_15_2, ↓rd_15_3, ↓wr_15_3, ↓rd_15_4, ↓rd_15_5, ↓rd_15_6, ↓rd_15_7, ↓rd_15_8, ↓rd_15_9, ↓rd_15_10, ↓rd_15_11, ↓rd_15_12, ↓wr_15_12, ↓rd_15_13, ↓wr_15_13, ↓rd_15_14, ↓rd_15_15, ↓rd_15_16, ↓rd_15_17, ↓wr_15_17, ↓rd_15_18, ↓rd_15_19, ↓rd_15_20, ↓rd_15_21, ↓rd_15_22, ↓rd_15_23, ↓wr_15_23, ↓rd_15_24, ↓rd_15_25, ↓wr_15_25, ↓rd_15_26, ↓rd_15_27, ↓rd_15_28, ↓rd_15_29, ↓wr_15_29, ↓rd_15_30, ↓rd_15_31, ↓rd_15_32, ↓wr_15_32, ↓rd_15_33, ↓wr_15_33, ↓rd_15_34, ↓wr_15_34, ↓rd_15_35, ↓wr_15_35, ↓rd_15_36, ↓wr_15_36, ↓rd_15_37, ↓wr_15_37, ↓rd_15_38, ↓wr_15_38, ↓ea_16, ↓es_16, ↓ea_17, ↓es_17, ↓ea_18, ↓es_18, ↓ea_19, ↓es_19, ↓ea_20, ↓es_20, ↓ea_21, ↓es_21, ↓ea_22, ↓es_22, ↓ea_23, ↓es_23, ↓ea_24, ↓es_24, ↓ea_25, ↓es_25, ↓ea_26, ↓es_26, ↓ea_27, ↓es_27, ↓ea_28, ↓es_28, ↓ea_29, ↓es_29, ↓ea_30, ↓es_30, ↓ea_31, ↓es_31, ↓ea_32, ↓es_32, ↓ea_33, ↓es_33, ↓ea_34, ↓es_34, ↓ea_35, ↓es_35, ↓ea_36, ↓es_36, ↓ea_37, ↓es_37, ↓ea_38, ↓es_38]
  try simp only [hz_t_m100, hz_t_m30, hz_t_m20, hz_t_m5, hz_t_m4, hz_t_m3, hz_t_m2, hz_t_m1, hz_t_0, hz_t_1, hz_t_2, hz_t_3, hz_t_4, hz_t_5, hz_t_6, hz_t_7, hz_t_8, hz_t_9, hz_t_10, hz_t_15, hz_t_26, hz_t_27, hz_t_32, hz_t_36, hz_t_40, hz_t_41, hz_t_42, hz_t_43, hz_t_44, hz_t_45, hz_t_46, hz_t_47, hz_t_48, hz_t_50, hz_t_57, hz_t_58, hz_t_60, hz_t_61, hz_t_63, hz_t_65, hz_t_90, hz_t_91, hz_t_92, hz_t_93, hz_t_97, hz_t_104, hz_t_108, hz_t_120, hz_t_122, hz_t_126, hz_t_950, hz_t_1000, hz_t_1040, hz_t_1080, hz_t_2000, hz_t_2001, hz_t_2150, hz_t_2600, hz_t_4096, kS_1, kA_1, kQ_1, mS_1, mA_1, kS_2, kQ_21, mS_2, upd_ap, mA_2, kA_21, kA_22, kQ_22, Nat.reduceEqDiff, Int.reduceToNat, ↓reduceIte, Classical.not_not, and_self, and_true, true_and, eq_self, not_true_eq_false, not_false_eq_true, false_implies, true_implies, implies_true, z_ite0]
  repeat' (first | with_reducible refine And.intro ?_ ?_ | with_reducible intro _)
  all_goals first
    | omega
    | (refine zat 9 rfl ?_; exact hz_iret B rfl (⟨rfl, rfl, rfl⟩) (Nat.le_refl _) (Nat.le_refl _) d_M_entries_9)
set_option maxHeartbeats 2000000 in
set_option maxRecDepth 20000 in
theorem k_M_length {l : Launch} {G : hz_G} {κ : zK} {μ : zM} {ω : Nat → Int64} {D : hz_H} {n : Nat}  : hz_M lw_tbl zAO zCl zKT l y_M_length c_M_length 1 (some .int) (zR 1) G [.ref 15] (zH κ μ ω D) n (fun r h' n' => r = some (.int (μ.1 12)) ∧ h' = zH κ (mS μ 10 (hz_n 0)) ω D ∧ n' = n) := by
  refine hz_body (by decide) (by simp [Value.category]) (by simp) ?_
  intro p e s m args below meth c B
  refine hz_go B (ft_M B rfl) (cn_M B rfl) 200 [] ?_
  show q_M_length _ 200 0 [some (.ref 15)] [] _
  simp only [↓e_M_length_0, ↓e_M_length_0n, ↓e_M_length_1, ↓e_M_length_2, ↓e_M_length_5, ↓e_M_length_5n, ↓e_M_length_6, ↓e_M_length_9, ↓rd_15_0, ↓wr_15_0, ↓rd_15_1, ↓wr_15_1, ↓rd_15_2, ↓rd_15_3, ↓wr_15_3, ↓rd_15_4, ↓rd_15_5, ↓rd_15_6, ↓rd_15_7, ↓rd_15_8, ↓rd_15_9, ↓rd_15_10, ↓rd_15_11, ↓rd_15_12, ↓wr_15_12, ↓rd_15_13, ↓wr_15_13, ↓rd_15_14, ↓rd_15_15, ↓rd_15_16, ↓rd_15_17, ↓wr_15_17, ↓rd_15_18, ↓rd_15_19, ↓rd_15_20, ↓rd_15_21, ↓rd_15_22, ↓rd_15_23, ↓wr_15_23, ↓rd_15_24, ↓rd_15_25, ↓wr_15_25, ↓rd_15_26, ↓rd_15_27, ↓rd_15_28, ↓rd_15_29, ↓wr_15_29, ↓rd_15_30, ↓rd_15_31, ↓rd_15_32, ↓wr_15_32, ↓rd_15_33, ↓wr_15_33, ↓rd_15_34, ↓wr_15_34, ↓rd_15_35, ↓wr_15_35, ↓rd_15_36, ↓wr_15_36, ↓rd_15_37, ↓wr_15_37, ↓rd_15_38, ↓wr_15_38, ↓ea_16, ↓es_16, ↓ea_17, ↓es_17, ↓ea_18, ↓es_18, ↓ea_19, ↓es_19, ↓ea_20, ↓es_20, ↓ea_21, ↓es_21, ↓ea_22, ↓es_22, ↓ea_23, ↓es_23, ↓ea_24, ↓es_24, ↓ea_25, ↓es_25, ↓ea_26, ↓es_26, ↓ea_27, ↓es_27, ↓ea_28, ↓es_28, ↓ea_29, ↓es_29, ↓ea_30, ↓es_30, ↓ea_31, ↓es_31, ↓ea_32, ↓es_32, ↓ea_33, ↓es_33, ↓ea_34, ↓es_34, ↓ea_35, ↓es_35, ↓ea_36, ↓es_36, ↓ea_37, ↓es_37, ↓ea_38, ↓es_38]
  try simp only [hz_t_m100, hz_t_m30, hz_t_m20, hz_t_m5, hz_t_m4, hz_t_m3, hz_t_m2, hz_t_m1, hz_t_0, hz_t_1, hz_t_2, hz_t_3, hz_t_4, hz_t_5, hz_t_6, hz_t_7, hz_t_8, hz_t_9, hz_t_10, hz_t_15, hz_t_26, hz_t_27, hz_t_32, hz_t_36, hz_t_40, hz_t_41, hz_t_42, hz_t_43, hz_t_44, hz_t_45, hz_t_46, hz_t_47, hz_t_48, hz_t_50, hz_t_57, hz_t_58, hz_t_60, hz_t_61, hz_t_63, hz_t_65, hz_t_90, hz_t_91, hz_t_92, hz_t_93, hz_t_97, hz_t_104, hz_t_108, hz_t_120, hz_t_122, hz_t_126, hz_t_950, hz_t_1000, hz_t_1040, hz_t_1080, hz_t_2000, hz_t_2001, hz_t_2150, hz_t_2600, hz_t_4096, kS_1, kA_1, kQ_1, mS_1, mA_1, kS_2, kQ_21, mS_2, upd_ap, mA_2, kA_21, kA_22, kQ_22, Nat.reduceEqDiff, Int.reduceToNat, ↓reduceIte, Classical.not_not, and_self, and_true, true_and, eq_self, not_true_eq_false, not_false_eq_true, false_implies, true_implies, implies_true, z_ite0]
  repeat' (first | with_reducible refine And.intro ?_ ?_ | with_reducible intro _)
  all_goals first
    | omega
    | (refine zat 9 rfl ?_; exact hz_iret B rfl (⟨rfl, rfl, rfl⟩) (Nat.le_refl _) (Nat.le_refl _) d_M_length_9)
def m_put (μ : zM) (x : Int32) : zM := if (μ.1 21).toInt = 0 then (if (μ.1 12).toInt = 60 then mS μ 21 (hz_n (-5)) else mS (mA μ 17 (μ.1 12).toInt.toNat x) 12 (μ.1 12 + hz_n 1)) else μ
set_option maxHeartbeats 2000000 in
set_option maxRecDepth 20000 in
theorem k_M_put {l : Launch} {G : hz_G} {κ : zK} {μ : zM} {ω : Nat → Int64} {D : hz_H} {n : Nat} {x : Int32} (hw : 0 ≤ (μ.1 12).toInt ∧ (μ.1 12).toInt ≤ 60) : hz_M lw_tbl zAO zCl zKT l y_M_put c_M_put 2 none (zR 1) G [.ref 15, .int x] (zH κ μ ω D) n (fun r h' n' => r = none ∧ h' = zH κ (m_put μ x) ω D ∧ n' = n) := by
  refine hz_body (by decide) (by simp [Value.category]) (by simp) ?_
  intro p e s m args below meth c B
  refine hz_go B (ft_M B rfl) (cn_M B rfl) 200 [] ?_
  show q_M_put _ 200 0 [some (.ref 15), some (.int x)] [] _
  simp only [↓e_M_put_0, ↓e_M_put_0n, ↓e_M_put_1, ↓e_M_put_4, ↓e_M_put_7, ↓e_M_put_7n, ↓e_M_put_8, ↓e_M_put_11, ↓e_M_put_13, ↓e_M_put_16, ↓e_M_put_16n, ↓e_M_put_17, ↓e_M_put_19, ↓e_M_put_22, ↓e_M_put_22n, ↓e_M_put_23, ↓e_M_put_26, ↓e_M_put_29, ↓e_M_put_29n, ↓e_M_put_30, ↓e_M_put_33, ↓e_M_put_33n, ↓e_M_put_34, ↓e_M_put_37, ↓e_M_put_38, ↓e_M_put_39, ↓e_M_put_39n, ↓e_M_put_40, ↓e_M_put_40i, ↓e_M_put_41, ↓e_M_put_44, ↓e_M_put_45, ↓e_M_put_46, ↓e_M_put_49, ↓rd_15_0, ↓wr_15_0, ↓rd_15_1, ↓wr_15_1, ↓rd_15_2, ↓rd_15_3, ↓wr_15_3, ↓rd_15_4, ↓rd_15_5, ↓rd_15_6, ↓rd_15_7, ↓rd_15_8, ↓rd_15_9, ↓rd_15_10, ↓rd_15_11, ↓rd_15_12, ↓wr_15_12, ↓rd_15_13, ↓wr_15_13, ↓rd_15_14, ↓rd_15_15, ↓rd_15_16, ↓rd_15_17, ↓wr_15_17, ↓rd_15_18, ↓rd_15_19, ↓rd_15_20, ↓rd_15_21, ↓rd_15_22, ↓rd_15_23, ↓wr_15_23, ↓rd_15_24, ↓rd_15_25, ↓wr_15_25, ↓rd_15_26, ↓rd_15_27, ↓rd_15_28, ↓rd_15_29, ↓wr_15_29, ↓rd_15_30, ↓rd_15_31, ↓rd_15_32, ↓wr_15_32, ↓rd_15_33, ↓wr_15_33, ↓rd_15_34, ↓wr_15_34, ↓rd_15_35, ↓wr_15_35, ↓rd_15_36, ↓wr_15_36, ↓rd_15_37, ↓wr_15_37, ↓rd_15_38, ↓wr_15_38, ↓ea_16, ↓es_16, ↓ea_17, ↓es_17, ↓ea_18, ↓es_18, ↓ea_19, ↓es_19, ↓ea_20, ↓es_20, ↓ea_21, ↓es_21, ↓ea_22, ↓es_22, ↓ea_23, ↓es_23, ↓ea_24, ↓es_24, ↓ea_25, ↓es_25, ↓ea_26, ↓es_26, ↓ea_27, ↓es_27, ↓ea_28, ↓es_28, ↓ea_29, ↓es_29, ↓ea_30, ↓es_30, ↓ea_31, ↓es_31, ↓ea_32, ↓es_32, ↓ea_33, ↓es_33, ↓ea_34, ↓es_34, ↓ea_35, ↓es_35, ↓ea_36, ↓es_36, ↓ea_37, ↓es_37, ↓ea_38, ↓es_38]
  try simp only [hz_t_m100, hz_t_m30, hz_t_m20, hz_t_m5, hz_t_m4, hz_t_m3, hz_t_m2, hz_t_m1, hz_t_0, hz_t_1, hz_t_2, hz_t_3, hz_t_4, hz_t_5, hz_t_6, hz_t_7, hz_t_8, hz_t_9, hz_t_10, hz_t_15, hz_t_26, hz_t_27, hz_t_32, hz_t_36, hz_t_40, hz_t_41, hz_t_42, hz_t_43, hz_t_44, hz_t_45, hz_t_46, hz_t_47, hz_t_48, hz_t_50, hz_t_57, hz_t_58, hz_t_60, hz_t_61, hz_t_63, hz_t_65, hz_t_90, hz_t_91, hz_t_92, hz_t_93, hz_t_97, hz_t_104, hz_t_108, hz_t_120, hz_t_122, hz_t_126, hz_t_950, hz_t_1000, hz_t_1040, hz_t_1080, hz_t_2000, hz_t_2001, hz_t_2150, hz_t_2600, hz_t_4096, kS_1, kA_1, kQ_1, mS_1, mA_1, kS_2, kQ_21, mS_2, upd_ap, mA_2, kA_21, kA_22, kQ_22, Nat.reduceEqDiff, Int.reduceToNat, ↓reduceIte, Classical.not_not, and_self, and_true, true_and, eq_self, not_true_eq_false, not_false_eq_true, false_implies, true_implies, implies_true, z_ite0]
  repeat' (first | with_reducible refine And.intro ?_ ?_ | with_reducible intro _)
  all_goals first
    | omega
    | (refine zat 49 rfl ?_; exact hz_vret B (⟨rfl, by unfold m_put; first | (rw [if_pos (by omega), if_pos (by omega)] <;> rfl) | (rw [if_pos (by omega), if_neg (by omega)] <;> rfl) | (rw [if_neg (by omega)]), rfl⟩) (Nat.le_refl _) (Nat.le_refl _) d_M_put_49)
def z_rekon (c a b : Int32) : Int32 := if c.toInt = 43 then a + b else if c.toInt = 45 then a - b else if c.toInt = 42 then a * b else if c.toInt = 60 then (if a.toInt < b.toInt then hz_n 1 else hz_n 0) else (if a.toInt = b.toInt then hz_n 1 else hz_n 0)
set_option maxHeartbeats 2000000 in
set_option maxRecDepth 20000 in
theorem k_M_rekon {l : Launch} {G : hz_G} {κ : zK} {μ : zM} {ω : Nat → Int64} {D : hz_H} {n : Nat} {x y z : Int32}  : hz_M lw_tbl zAO zCl zKT l y_M_rekon c_M_rekon 4 (some .int) (zR 1) G [.ref 15, .int x, .int y, .int z] (zH κ μ ω D) n (fun r h' n' => r = some (.int (z_rekon x y z)) ∧ h' = zH κ (μ) ω D ∧ n' = n) := by
  refine hz_body (by decide) (by simp [Value.category]) (by simp) ?_
  intro p e s m args below meth c B
  refine hz_go B (ft_M B rfl) (cn_M B rfl) 200 [] ?_
  show q_M_rekon _ 200 0 [some (.ref 15), some (.int x), some (.int y), some (.int z)] [] _
  simp only [↓e_M_rekon_0, ↓e_M_rekon_1, ↓e_M_rekon_44, ↓e_M_rekon_45, ↓e_M_rekon_46, ↓e_M_rekon_47, ↓e_M_rekon_48, ↓e_M_rekon_49, ↓e_M_rekon_50, ↓e_M_rekon_51, ↓e_M_rekon_52, ↓e_M_rekon_53, ↓e_M_rekon_54, ↓e_M_rekon_55, ↓e_M_rekon_56, ↓e_M_rekon_57, ↓e_M_rekon_58, ↓e_M_rekon_61, ↓e_M_rekon_62, ↓e_M_rekon_65, ↓e_M_rekon_66, ↓e_M_rekon_67, ↓e_M_rekon_68, ↓e_M_rekon_69, ↓e_M_rekon_72, ↓e_M_rekon_73, ↓e_M_rekon_76, ↓e_M_rekon_77, ↓rd_15_0, ↓wr_15_0, ↓rd_15_1, ↓wr_15_1, ↓rd_15_2, ↓rd_15_3, ↓wr_15_3, ↓rd_15_4, ↓rd_15_5, ↓rd_15_6, ↓rd_15_7, ↓rd_15_8, ↓rd_15_9, ↓rd_15_10, ↓rd_15_11, ↓rd_15_12, ↓wr_15_12, ↓rd_15_13, ↓wr_15_13, ↓rd_15_14, ↓rd_15_15, ↓rd_15_16, ↓rd_15_17, ↓wr_15_17, ↓rd_15_18, ↓rd_15_19, ↓rd_15_20, ↓rd_15_21, ↓rd_15_22, ↓rd_15_23, ↓wr_15_23, ↓rd_15_24, ↓rd_15_25, ↓wr_15_25, ↓rd_15_26, ↓rd_15_27, ↓rd_15_28, ↓rd_15_29, ↓wr_15_29, ↓rd_15_30, ↓rd_15_31, ↓rd_15_32, ↓wr_15_32, ↓rd_15_33, ↓wr_15_33, ↓rd_15_34, ↓wr_15_34, ↓rd_15_35, ↓wr_15_35, ↓rd_15_36, ↓wr_15_36, ↓rd_15_37, ↓wr_15_37, ↓rd_15_38, ↓wr_15_38, ↓ea_16, ↓es_16, ↓ea_17, ↓es_17, ↓ea_18, ↓es_18, ↓ea_19, ↓es_19, ↓ea_20, ↓es_20, ↓ea_21, ↓es_21, ↓ea_22, ↓es_22, ↓ea_23, ↓es_23, ↓ea_24, ↓es_24, ↓ea_25, ↓es_25, ↓ea_26, ↓es_26, ↓ea_27, ↓es_27, ↓ea_28, ↓es_28, ↓ea_29, ↓es_29, ↓ea_30, ↓es_30, ↓ea_31, ↓es_31, ↓ea_32, ↓es_32, ↓ea_33, ↓es_33, ↓ea_34, ↓es_34, ↓ea_35, ↓es_35, ↓ea_36, ↓es_36, ↓ea_37, ↓es_37, ↓ea_38, ↓es_38]
  try simp only [hz_t_m100, hz_t_m30, hz_t_m20, hz_t_m5, hz_t_m4, hz_t_m3, hz_t_m2, hz_t_m1, hz_t_0, hz_t_1, hz_t_2, hz_t_3, hz_t_4, hz_t_5, hz_t_6, hz_t_7, hz_t_8, hz_t_9, hz_t_10, hz_t_15, hz_t_26, hz_t_27, hz_t_32, hz_t_36, hz_t_40, hz_t_41, hz_t_42, hz_t_43, hz_t_44, hz_t_45, hz_t_46, hz_t_47, hz_t_48, hz_t_50, hz_t_57, hz_t_58, hz_t_60, hz_t_61, hz_t_63, hz_t_65, hz_t_90, hz_t_91, hz_t_92, hz_t_93, hz_t_97, hz_t_104, hz_t_108, hz_t_120, hz_t_122, hz_t_126, hz_t_950, hz_t_1000, hz_t_1040, hz_t_1080, hz_t_2000, hz_t_2001, hz_t_2150, hz_t_2600, hz_t_4096, kS_1, kA_1, kQ_1, mS_1, mA_1, kS_2, kQ_21, mS_2, upd_ap, mA_2, kA_21, kA_22, kQ_22, Nat.reduceEqDiff, Int.reduceToNat, ↓reduceIte, Classical.not_not, and_self, and_true, true_and, eq_self, not_true_eq_false, not_false_eq_true, false_implies, true_implies, implies_true, z_ite0]
  repeat' (first | with_reducible refine And.intro ?_ ?_ | with_reducible intro _)
  all_goals first
    | omega
    | (refine zat 47 rfl ?_; exact hz_iret B rfl (⟨by unfold z_rekon; first | (rw [if_pos (by omega)]) | (rw [if_neg (by omega), if_pos (by omega)]) | (rw [if_neg (by omega), if_neg (by omega), if_pos (by omega)]) | (rw [if_neg (by omega), if_neg (by omega), if_neg (by omega), if_pos (by omega), if_pos (by omega)]) | (rw [if_neg (by omega), if_neg (by omega), if_neg (by omega), if_pos (by omega), if_neg (by omega)]) | (rw [if_neg (by omega), if_neg (by omega), if_neg (by omega), if_neg (by omega), if_pos (by omega)]) | (rw [if_neg (by omega), if_neg (by omega), if_neg (by omega), if_neg (by omega), if_neg (by omega)]), rfl, rfl⟩) (Nat.le_refl _) (Nat.le_refl _) d_M_rekon_47)
    | (refine zat 51 rfl ?_; exact hz_iret B rfl (⟨by unfold z_rekon; first | (rw [if_pos (by omega)]) | (rw [if_neg (by omega), if_pos (by omega)]) | (rw [if_neg (by omega), if_neg (by omega), if_pos (by omega)]) | (rw [if_neg (by omega), if_neg (by omega), if_neg (by omega), if_pos (by omega), if_pos (by omega)]) | (rw [if_neg (by omega), if_neg (by omega), if_neg (by omega), if_pos (by omega), if_neg (by omega)]) | (rw [if_neg (by omega), if_neg (by omega), if_neg (by omega), if_neg (by omega), if_pos (by omega)]) | (rw [if_neg (by omega), if_neg (by omega), if_neg (by omega), if_neg (by omega), if_neg (by omega)]), rfl, rfl⟩) (Nat.le_refl _) (Nat.le_refl _) d_M_rekon_51)
    | (refine zat 55 rfl ?_; exact hz_iret B rfl (⟨by unfold z_rekon; first | (rw [if_pos (by omega)]) | (rw [if_neg (by omega), if_pos (by omega)]) | (rw [if_neg (by omega), if_neg (by omega), if_pos (by omega)]) | (rw [if_neg (by omega), if_neg (by omega), if_neg (by omega), if_pos (by omega), if_pos (by omega)]) | (rw [if_neg (by omega), if_neg (by omega), if_neg (by omega), if_pos (by omega), if_neg (by omega)]) | (rw [if_neg (by omega), if_neg (by omega), if_neg (by omega), if_neg (by omega), if_pos (by omega)]) | (rw [if_neg (by omega), if_neg (by omega), if_neg (by omega), if_neg (by omega), if_neg (by omega)]), rfl, rfl⟩) (Nat.le_refl _) (Nat.le_refl _) d_M_rekon_55)
    | (refine zat 66 rfl ?_; exact hz_iret B rfl (⟨by unfold z_rekon; first | (rw [if_pos (by omega)]) | (rw [if_neg (by omega), if_pos (by omega)]) | (rw [if_neg (by omega), if_neg (by omega), if_pos (by omega)]) | (rw [if_neg (by omega), if_neg (by omega), if_neg (by omega), if_pos (by omega), if_pos (by omega)]) | (rw [if_neg (by omega), if_neg (by omega), if_neg (by omega), if_pos (by omega), if_neg (by omega)]) | (rw [if_neg (by omega), if_neg (by omega), if_neg (by omega), if_neg (by omega), if_pos (by omega)]) | (rw [if_neg (by omega), if_neg (by omega), if_neg (by omega), if_neg (by omega), if_neg (by omega)]), rfl, rfl⟩) (Nat.le_refl _) (Nat.le_refl _) d_M_rekon_66)
    | (refine zat 77 rfl ?_; exact hz_iret B rfl (⟨by unfold z_rekon; first | (rw [if_pos (by omega)]) | (rw [if_neg (by omega), if_pos (by omega)]) | (rw [if_neg (by omega), if_neg (by omega), if_pos (by omega)]) | (rw [if_neg (by omega), if_neg (by omega), if_neg (by omega), if_pos (by omega), if_pos (by omega)]) | (rw [if_neg (by omega), if_neg (by omega), if_neg (by omega), if_pos (by omega), if_neg (by omega)]) | (rw [if_neg (by omega), if_neg (by omega), if_neg (by omega), if_neg (by omega), if_pos (by omega)]) | (rw [if_neg (by omega), if_neg (by omega), if_neg (by omega), if_neg (by omega), if_neg (by omega)]), rfl, rfl⟩) (Nat.le_refl _) (Nat.le_refl _) d_M_rekon_77)
set_option maxHeartbeats 2000000 in
set_option maxRecDepth 20000 in
theorem k_M_charAt {l : Launch} {G : hz_G} {κ : zK} {μ : zM} {ω : Nat → Int64} {D : hz_H} {n : Nat} {x : Int32} (hw : (μ.1 12).toInt ≤ 60) : hz_M lw_tbl zAO zCl zKT l y_M_charAt c_M_charAt 2 (some .char) (zR 1) G [.ref 15, .int x] (zH κ μ ω D) n (fun r h' n' => r = some (.int (if x.toInt < 0 ∨ (μ.1 12).toInt ≤ x.toInt then hz_n 32 else hz_ch (μ.2 17 x.toInt.toNat))) ∧ h' = zH κ (mS μ 10 (hz_n 0)) ω D ∧ n' = n) := by
  refine hz_body (by decide) (by simp [Value.category]) (by simp) ?_
  intro p e s m args below meth c B
  refine hz_go B (ft_M B rfl) (cn_M B rfl) 200 [] ?_
  show q_M_charAt _ 200 0 [some (.ref 15), some (.int x)] [] _
  simp only [↓e_M_charAt_0, ↓e_M_charAt_0n, ↓e_M_charAt_1, ↓e_M_charAt_2, ↓e_M_charAt_5, ↓e_M_charAt_6, ↓e_M_charAt_9, ↓e_M_charAt_10, ↓e_M_charAt_10n, ↓e_M_charAt_11, ↓e_M_charAt_14, ↓e_M_charAt_17, ↓e_M_charAt_19, ↓e_M_charAt_22, ↓e_M_charAt_22n, ↓e_M_charAt_23, ↓e_M_charAt_26, ↓e_M_charAt_27, ↓e_M_charAt_28, ↓e_M_charAt_29, ↓rd_15_0, ↓wr_15_0, ↓rd_15_1, ↓wr_15_1, ↓rd_15_2, ↓rd_15_3, ↓wr_15_3, ↓rd_15_4, ↓rd_15_5, ↓rd_15_6, ↓rd_15_7, ↓rd_15_8, ↓rd_15_9, ↓rd_15_10, ↓rd_15_11, ↓rd_15_12, ↓wr_15_12, ↓rd_15_13, ↓wr_15_13, ↓rd_15_14, ↓rd_15_15, ↓rd_15_16, ↓rd_15_17, ↓wr_15_17, ↓rd_15_18, ↓rd_15_19, ↓rd_15_20, ↓rd_15_21, ↓rd_15_22, ↓rd_15_23, ↓wr_15_23, ↓rd_15_24, ↓rd_15_25, ↓wr_15_25, ↓rd_15_26, ↓rd_15_27, ↓rd_15_28, ↓rd_15_29, ↓wr_15_29, ↓rd_15_30, ↓rd_15_31, ↓rd_15_32, ↓wr_15_32, ↓rd_15_33, ↓wr_15_33, ↓rd_15_34, ↓wr_15_34, ↓rd_15_35, ↓wr_15_35, ↓rd_15_36, ↓wr_15_36, ↓rd_15_37, ↓wr_15_37, ↓rd_15_38, ↓wr_15_38, ↓ea_16, ↓es_16, ↓ea_17, ↓es_17, ↓ea_18, ↓es_18, ↓ea_19, ↓es_19, ↓ea_20, ↓es_20, ↓ea_21, ↓es_21, ↓ea_22, ↓es_22, ↓ea_23, ↓es_23, ↓ea_24, ↓es_24, ↓ea_25, ↓es_25, ↓ea_26, ↓es_26, ↓ea_27, ↓es_27, ↓ea_28, ↓es_28, ↓ea_29, ↓es_29, ↓ea_30, ↓es_30, ↓ea_31, ↓es_31, ↓ea_32, ↓es_32, ↓ea_33, ↓es_33, ↓ea_34, ↓es_34, ↓ea_35, ↓es_35, ↓ea_36, ↓es_36, ↓ea_37, ↓es_37, ↓ea_38, ↓es_38]
  try simp only [hz_t_m100, hz_t_m30, hz_t_m20, hz_t_m5, hz_t_m4, hz_t_m3, hz_t_m2, hz_t_m1, hz_t_0, hz_t_1, hz_t_2, hz_t_3, hz_t_4, hz_t_5, hz_t_6, hz_t_7, hz_t_8, hz_t_9, hz_t_10, hz_t_15, hz_t_26, hz_t_27, hz_t_32, hz_t_36, hz_t_40, hz_t_41, hz_t_42, hz_t_43, hz_t_44, hz_t_45, hz_t_46, hz_t_47, hz_t_48, hz_t_50, hz_t_57, hz_t_58, hz_t_60, hz_t_61, hz_t_63, hz_t_65, hz_t_90, hz_t_91, hz_t_92, hz_t_93, hz_t_97, hz_t_104, hz_t_108, hz_t_120, hz_t_122, hz_t_126, hz_t_950, hz_t_1000, hz_t_1040, hz_t_1080, hz_t_2000, hz_t_2001, hz_t_2150, hz_t_2600, hz_t_4096, kS_1, kA_1, kQ_1, mS_1, mA_1, kS_2, kQ_21, mS_2, upd_ap, mA_2, kA_21, kA_22, kQ_22, Nat.reduceEqDiff, Int.reduceToNat, ↓reduceIte, Classical.not_not, and_self, and_true, true_and, eq_self, not_true_eq_false, not_false_eq_true, false_implies, true_implies, implies_true, z_ite0]
  repeat' (first | with_reducible refine And.intro ?_ ?_ | with_reducible intro _)
  all_goals first
    | omega
    | (refine zat 29 rfl ?_; exact hz_iret B (by first | exact hz_ch_nar _ | rfl | decide | assumption) (⟨by first | rfl | (rw [if_pos (by omega)]) | (rw [if_neg (by omega)]), rfl, rfl⟩) (Nat.le_refl _) (Nat.le_refl _) d_M_charAt_29)
