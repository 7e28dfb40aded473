/-! The constructor of the reference. Printed by wip/g49.py. -/
set_option maxHeartbeats 40000000 in
set_option maxRecDepth 20000 in
theorem k_M_init {l : Launch} {G : hz_G} {h : hz_H} {v0 v1 v2 v3 v4 v5 v6 v7 v8 v9 v10 v11 v12 v13 v14 v15 v16 v17 v18 v19 v20 v21 v22 v23 v24 v25 v26 v27 v28 v29 v30 v31 v32 v33 v34 v35 v36 v37 v38 : Value} (hD : h 15 = some (.inr (5, [v0, v1, v2, v3, v4, v5, v6, v7, v8, v9, v10, v11, v12, v13, v14, v15, v16, v17, v18, v19, v20, v21, v22, v23, v24, v25, v26, v27, v28, v29, v30, v31, v32, v33, v34, v35, v36, v37, v38]))) : hz_M lw_tbl zAO zCl zKT l y_M_init c_M_init 1 none { frames := 2, cells := 23, slots := 17677, locals := 80 } G [.ref 15] h 16 (fun r h' n' => r = none ∧ h' = hz_set (hz_set (hz_set (hz_set (hz_set (hz_set (hz_set (hz_set (hz_set (hz_set (hz_set (hz_set (hz_set (hz_set (hz_set (hz_set (hz_set (hz_set (hz_set (hz_set (hz_set (hz_set (hz_set (hz_set (h) 16 (.inl (1, 40, fun _ => .int 0))) 17 (.inl (1, 60, fun _ => .int 0))) 18 (.inl (3, 26, fun _ => .int 0))) 19 (.inl (1, 27, fun _ => .int 0))) 20 (.inl (1, 108, fun _ => .int 0))) 21 (.inl (1, 1080, fun _ => .int 0))) 22 (.inl (1, 1080, fun _ => .int 0))) 23 (.inl (1, 1080, fun _ => .int 0))) 24 (.inl (1, 40, fun _ => .int 0))) 25 (.inl (1, 120, fun _ => .int 0))) 26 (.inl (1, 120, fun _ => .int 0))) 27 (.inl (1, 120, fun _ => .int 0))) 28 (.inl (1, 1000, fun _ => .int 0))) 29 (.inl (1, 1000, fun _ => .int 0))) 30 (.inl (1, 1000, fun _ => .int 0))) 31 (.inl (1, 1000, fun _ => .int 0))) 32 (.inl (1, 26, fun _ => .int 0))) 33 (.inl (1, 2600, fun _ => .int 0))) 34 (.inl (1, 950, fun _ => .int 0))) 35 (.inl (1, 950, fun _ => .int 0))) 36 (.inl (1, 950, fun _ => .int 0))) 37 (.inl (1, 2150, fun _ => .int 0))) 38 (.inl (1, 2150, fun _ => .int 0))) 15 (.inr (5, [v0, v1, .ref 16, v3, .ref 17, .ref 18, .ref 19, .ref 20, .ref 21, .ref 22, .ref 23, .ref 24, v12, v13, .ref 25, .ref 26, .ref 27, v17, .ref 28, .ref 29, .ref 30, .ref 31, .ref 32, v23, .ref 33, v25, .ref 34, .ref 35, .ref 36, v29, .ref 37, .ref 38, v32, v33, v34, v35, v36, v37, v38])) ∧ n' = 39) := by
  refine hz_body (by decide) (by simp [Value.category]) (by simp) ?_
  intro p e s m args below meth c B
  refine hz_go B (ft_Mi B rfl rfl) (cn_M B rfl) 5 [] ?_
  show q_M_init _ 5 0 [some (.ref 15)] [] _
  rw [e_M_init_0, e_M_init_1]
  refine hz_objInit B ol_M ol_i ol_c d_M_init_1 (by decide) (by decide) ?_
  refine zat 4 rfl ?_
  refine hz_go B (ft_Mi B rfl rfl) (cn_M B rfl) 100 [] ?_
  show q_M_init _ 100 4 _ _ _
  rw [e_M_init_4, e_M_init_5, e_M_init_7]
  refine hz_newa (aty := .int) (ty := .int) (t := 1) (N := 40) (v0 := .int 0) B rfl rfl (fun _ => rfl) ac_int rfl rfl (by rw [hz_t_40]; decide) (by rw [hz_t_40]; rfl) (by decide) (by decide) (by decide) d_M_init_7 ?_
  refine zat 9 rfl ?_
  refine hz_go B (ft_Mi B rfl rfl) (cn_M B rfl) 100 [] ?_
  show q_M_init _ 100 9 _ _ _
  rw [e_M_init_9, hwr_at ((hz_set_ne (by omega)).trans hD) (by simp)]
  simp only [List.set_cons_succ, List.set_cons_zero]
  generalize hW1 : hz_set h (16) (.inl (1, 40, fun _ => .int 0)) = W1
  rw [e_M_init_12, e_M_init_13, e_M_init_15]
  refine hz_newa (aty := .int) (ty := .int) (t := 1) (N := 60) (v0 := .int 0) B rfl rfl (fun _ => rfl) ac_int rfl rfl (by rw [hz_t_60]; decide) (by rw [hz_t_60]; rfl) (by decide) (by decide) (by decide) d_M_init_15 ?_
  refine zat 17 rfl ?_
  refine hz_go B (ft_Mi B rfl rfl) (cn_M B rfl) 100 [] ?_
  show q_M_init _ 100 17 _ _ _
  rw [hz_set_comm (i := 15) (k := 16 + 1) (by omega)]
  rw [e_M_init_17, hwr_at hz_set_at (by exact (show 4 < 39 by decide)), hz_set_set]
  simp only [List.set_cons_succ, List.set_cons_zero]
  generalize hW2 : hz_set W1 (16 + 1) (.inl (1, 60, fun _ => .int 0)) = W2
  rw [e_M_init_20, e_M_init_21, e_M_init_23]
  refine hz_newa (aty := .boolean) (ty := .boolean) (t := 3) (N := 26) (v0 := .int 0) B rfl rfl (fun _ => rfl) ac_boolean rfl rfl (by rw [hz_t_26]; decide) (by rw [hz_t_26]; rfl) (by decide) (by decide) (by decide) d_M_init_23 ?_
  refine zat 25 rfl ?_
  refine hz_go B (ft_Mi B rfl rfl) (cn_M B rfl) 100 [] ?_
  show q_M_init _ 100 25 _ _ _
  rw [hz_set_comm (i := 15) (k := 16 + 1 + 1) (by omega)]
  rw [e_M_init_25, hwr_at hz_set_at (by exact (show 5 < 39 by decide)), hz_set_set]
  simp only [List.set_cons_succ, List.set_cons_zero]
  generalize hW3 : hz_set W2 (16 + 1 + 1) (.inl (3, 26, fun _ => .int 0)) = W3
  rw [e_M_init_28, e_M_init_29, e_M_init_31]
  refine hz_newa (aty := .int) (ty := .int) (t := 1) (N := 27) (v0 := .int 0) B rfl rfl (fun _ => rfl) ac_int rfl rfl (by rw [hz_t_27]; decide) (by rw [hz_t_27]; rfl) (by decide) (by decide) (by decide) d_M_init_31 ?_
  refine zat 33 rfl ?_
  refine hz_go B (ft_Mi B rfl rfl) (cn_M B rfl) 100 [] ?_
  show q_M_init _ 100 33 _ _ _
  rw [hz_set_comm (i := 15) (k := 16 + 1 + 1 + 1) (by omega)]
  rw [e_M_init_33, hwr_at hz_set_at (by exact (show 6 < 39 by decide)), hz_set_set]
  simp only [List.set_cons_succ, List.set_cons_zero]
  generalize hW4 : hz_set W3 (16 + 1 + 1 + 1) (.inl (1, 27, fun _ => .int 0)) = W4
  rw [e_M_init_36, e_M_init_37, e_M_init_39]
  refine hz_newa (aty := .int) (ty := .int) (t := 1) (N := 108) (v0 := .int 0) B rfl rfl (fun _ => rfl) ac_int rfl rfl (by rw [hz_t_108]; decide) (by rw [hz_t_108]; rfl) (by decide) (by decide) (by decide) d_M_init_39 ?_
  refine zat 41 rfl ?_
  refine hz_go B (ft_Mi B rfl rfl) (cn_M B rfl) 100 [] ?_
  show q_M_init _ 100 41 _ _ _
  rw [hz_set_comm (i := 15) (k := 16 + 1 + 1 + 1 + 1) (by omega)]
  rw [e_M_init_41, hwr_at hz_set_at (by exact (show 7 < 39 by decide)), hz_set_set]
  simp only [List.set_cons_succ, List.set_cons_zero]
  generalize hW5 : hz_set W4 (16 + 1 + 1 + 1 + 1) (.inl (1, 108, fun _ => .int 0)) = W5
  rw [e_M_init_44, e_M_init_45, e_M_init_48]
  refine hz_newa (aty := .int) (ty := .int) (t := 1) (N := 1080) (v0 := .int 0) B rfl rfl (fun _ => rfl) ac_int rfl rfl (by rw [hz_t_1080]; decide) (by rw [hz_t_1080]; rfl) (by decide) (by decide) (by decide) d_M_init_48 ?_
  refine zat 50 rfl ?_
  refine hz_go B (ft_Mi B rfl rfl) (cn_M B rfl) 100 [] ?_
  show q_M_init _ 100 50 _ _ _
  rw [hz_set_comm (i := 15) (k := 16 + 1 + 1 + 1 + 1 + 1) (by omega)]
  rw [e_M_init_50, hwr_at hz_set_at (by exact (show 8 < 39 by decide)), hz_set_set]
  simp only [List.set_cons_succ, List.set_cons_zero]
  generalize hW6 : hz_set W5 (16 + 1 + 1 + 1 + 1 + 1) (.inl (1, 1080, fun _ => .int 0)) = W6
  rw [e_M_init_53, e_M_init_54, e_M_init_57]
  refine hz_newa (aty := .int) (ty := .int) (t := 1) (N := 1080) (v0 := .int 0) B rfl rfl (fun _ => rfl) ac_int rfl rfl (by rw [hz_t_1080]; decide) (by rw [hz_t_1080]; rfl) (by decide) (by decide) (by decide) d_M_init_57 ?_
  refine zat 59 rfl ?_
  refine hz_go B (ft_Mi B rfl rfl) (cn_M B rfl) 100 [] ?_
  show q_M_init _ 100 59 _ _ _
  rw [hz_set_comm (i := 15) (k := 16 + 1 + 1 + 1 + 1 + 1 + 1) (by omega)]
  rw [e_M_init_59, hwr_at hz_set_at (by exact (show 9 < 39 by decide)), hz_set_set]
  simp only [List.set_cons_succ, List.set_cons_zero]
  generalize hW7 : hz_set W6 (16 + 1 + 1 + 1 + 1 + 1 + 1) (.inl (1, 1080, fun _ => .int 0)) = W7
  rw [e_M_init_62, e_M_init_63, e_M_init_66]
  refine hz_newa (aty := .int) (ty := .int) (t := 1) (N := 1080) (v0 := .int 0) B rfl rfl (fun _ => rfl) ac_int rfl rfl (by rw [hz_t_1080]; decide) (by rw [hz_t_1080]; rfl) (by decide) (by decide) (by decide) d_M_init_66 ?_
  refine zat 68 rfl ?_
  refine hz_go B (ft_Mi B rfl rfl) (cn_M B rfl) 100 [] ?_
  show q_M_init _ 100 68 _ _ _
  rw [hz_set_comm (i := 15) (k := 16 + 1 + 1 + 1 + 1 + 1 + 1 + 1) (by omega)]
  rw [e_M_init_68, hwr_at hz_set_at (by exact (show 10 < 39 by decide)), hz_set_set]
  simp only [List.set_cons_succ, List.set_cons_zero]
  generalize hW8 : hz_set W7 (16 + 1 + 1 + 1 + 1 + 1 + 1 + 1) (.inl (1, 1080, fun _ => .int 0)) = W8
  rw [e_M_init_71, e_M_init_72, e_M_init_74]
  refine hz_newa (aty := .int) (ty := .int) (t := 1) (N := 40) (v0 := .int 0) B rfl rfl (fun _ => rfl) ac_int rfl rfl (by rw [hz_t_40]; decide) (by rw [hz_t_40]; rfl) (by decide) (by decide) (by decide) d_M_init_74 ?_
  refine zat 76 rfl ?_
  refine hz_go B (ft_Mi B rfl rfl) (cn_M B rfl) 100 [] ?_
  show q_M_init _ 100 76 _ _ _
  rw [hz_set_comm (i := 15) (k := 16 + 1 + 1 + 1 + 1 + 1 + 1 + 1 + 1) (by omega)]
  rw [e_M_init_76, hwr_at hz_set_at (by exact (show 11 < 39 by decide)), hz_set_set]
  simp only [List.set_cons_succ, List.set_cons_zero]
  generalize hW9 : hz_set W8 (16 + 1 + 1 + 1 + 1 + 1 + 1 + 1 + 1) (.inl (1, 40, fun _ => .int 0)) = W9
  rw [e_M_init_79, e_M_init_80, e_M_init_82]
  refine hz_newa (aty := .int) (ty := .int) (t := 1) (N := 120) (v0 := .int 0) B rfl rfl (fun _ => rfl) ac_int rfl rfl (by rw [hz_t_120]; decide) (by rw [hz_t_120]; rfl) (by decide) (by decide) (by decide) d_M_init_82 ?_
  refine zat 84 rfl ?_
  refine hz_go B (ft_Mi B rfl rfl) (cn_M B rfl) 100 [] ?_
  show q_M_init _ 100 84 _ _ _
  rw [hz_set_comm (i := 15) (k := 16 + 1 + 1 + 1 + 1 + 1 + 1 + 1 + 1 + 1) (by omega)]
  rw [e_M_init_84, hwr_at hz_set_at (by exact (show 14 < 39 by decide)), hz_set_set]
  simp only [List.set_cons_succ, List.set_cons_zero]
  generalize hW10 : hz_set W9 (16 + 1 + 1 + 1 + 1 + 1 + 1 + 1 + 1 + 1) (.inl (1, 120, fun _ => .int 0)) = W10
  rw [e_M_init_87, e_M_init_88, e_M_init_90]
  refine hz_newa (aty := .int) (ty := .int) (t := 1) (N := 120) (v0 := .int 0) B rfl rfl (fun _ => rfl) ac_int rfl rfl (by rw [hz_t_120]; decide) (by rw [hz_t_120]; rfl) (by decide) (by decide) (by decide) d_M_init_90 ?_
  refine zat 92 rfl ?_
  refine hz_go B (ft_Mi B rfl rfl) (cn_M B rfl) 100 [] ?_
  show q_M_init _ 100 92 _ _ _
  rw [hz_set_comm (i := 15) (k := 16 + 1 + 1 + 1 + 1 + 1 + 1 + 1 + 1 + 1 + 1) (by omega)]
  rw [e_M_init_92, hwr_at hz_set_at (by exact (show 15 < 39 by decide)), hz_set_set]
  simp only [List.set_cons_succ, List.set_cons_zero]
  generalize hW11 : hz_set W10 (16 + 1 + 1 + 1 + 1 + 1 + 1 + 1 + 1 + 1 + 1) (.inl (1, 120, fun _ => .int 0)) = W11
  rw [e_M_init_95, e_M_init_96, e_M_init_98]
  refine hz_newa (aty := .int) (ty := .int) (t := 1) (N := 120) (v0 := .int 0) B rfl rfl (fun _ => rfl) ac_int rfl rfl (by rw [hz_t_120]; decide) (by rw [hz_t_120]; rfl) (by decide) (by decide) (by decide) d_M_init_98 ?_
  refine zat 100 rfl ?_
  refine hz_go B (ft_Mi B rfl rfl) (cn_M B rfl) 100 [] ?_
  show q_M_init _ 100 100 _ _ _
  rw [hz_set_comm (i := 15) (k := 16 + 1 + 1 + 1 + 1 + 1 + 1 + 1 + 1 + 1 + 1 + 1) (by omega)]
  rw [e_M_init_100, hwr_at hz_set_at (by exact (show 16 < 39 by decide)), hz_set_set]
  simp only [List.set_cons_succ, List.set_cons_zero]
  generalize hW12 : hz_set W11 (16 + 1 + 1 + 1 + 1 + 1 + 1 + 1 + 1 + 1 + 1 + 1) (.inl (1, 120, fun _ => .int 0)) = W12
  rw [e_M_init_103, e_M_init_104, e_M_init_107]
  refine hz_newa (aty := .int) (ty := .int) (t := 1) (N := 1000) (v0 := .int 0) B rfl rfl (fun _ => rfl) ac_int rfl rfl (by rw [hz_t_1000]; decide) (by rw [hz_t_1000]; rfl) (by decide) (by decide) (by decide) d_M_init_107 ?_
  refine zat 109 rfl ?_
  refine hz_go B (ft_Mi B rfl rfl) (cn_M B rfl) 100 [] ?_
  show q_M_init _ 100 109 _ _ _
  rw [hz_set_comm (i := 15) (k := 16 + 1 + 1 + 1 + 1 + 1 + 1 + 1 + 1 + 1 + 1 + 1 + 1) (by omega)]
  rw [e_M_init_109, hwr_at hz_set_at (by exact (show 18 < 39 by decide)), hz_set_set]
  simp only [List.set_cons_succ, List.set_cons_zero]
  generalize hW13 : hz_set W12 (16 + 1 + 1 + 1 + 1 + 1 + 1 + 1 + 1 + 1 + 1 + 1 + 1) (.inl (1, 1000, fun _ => .int 0)) = W13
  rw [e_M_init_112, e_M_init_113, e_M_init_116]
  refine hz_newa (aty := .int) (ty := .int) (t := 1) (N := 1000) (v0 := .int 0) B rfl rfl (fun _ => rfl) ac_int rfl rfl (by rw [hz_t_1000]; decide) (by rw [hz_t_1000]; rfl) (by decide) (by decide) (by decide) d_M_init_116 ?_
  refine zat 118 rfl ?_
  refine hz_go B (ft_Mi B rfl rfl) (cn_M B rfl) 100 [] ?_
  show q_M_init _ 100 118 _ _ _
  rw [hz_set_comm (i := 15) (k := 16 + 1 + 1 + 1 + 1 + 1 + 1 + 1 + 1 + 1 + 1 + 1 + 1 + 1) (by omega)]
  rw [e_M_init_118, hwr_at hz_set_at (by exact (show 19 < 39 by decide)), hz_set_set]
  simp only [List.set_cons_succ, List.set_cons_zero]
  generalize hW14 : hz_set W13 (16 + 1 + 1 + 1 + 1 + 1 + 1 + 1 + 1 + 1 + 1 + 1 + 1 + 1) (.inl (1, 1000, fun _ => .int 0)) = W14
  rw [e_M_init_121, e_M_init_122, e_M_init_125]
  refine hz_newa (aty := .int) (ty := .int) (t := 1) (N := 1000) (v0 := .int 0) B rfl rfl (fun _ => rfl) ac_int rfl rfl (by rw [hz_t_1000]; decide) (by rw [hz_t_1000]; rfl) (by decide) (by decide) (by decide) d_M_init_125 ?_
  refine zat 127 rfl ?_
  refine hz_go B (ft_Mi B rfl rfl) (cn_M B rfl) 100 [] ?_
  show q_M_init _ 100 127 _ _ _
  rw [hz_set_comm (i := 15) (k := 16 + 1 + 1 + 1 + 1 + 1 + 1 + 1 + 1 + 1 + 1 + 1 + 1 + 1 + 1) (by omega)]
  rw [e_M_init_127, hwr_at hz_set_at (by exact (show 20 < 39 by decide)), hz_set_set]
  simp only [List.set_cons_succ, List.set_cons_zero]
  generalize hW15 : hz_set W14 (16 + 1 + 1 + 1 + 1 + 1 + 1 + 1 + 1 + 1 + 1 + 1 + 1 + 1 + 1) (.inl (1, 1000, fun _ => .int 0)) = W15
  rw [e_M_init_130, e_M_init_131, e_M_init_134]
  refine hz_newa (aty := .int) (ty := .int) (t := 1) (N := 1000) (v0 := .int 0) B rfl rfl (fun _ => rfl) ac_int rfl rfl (by rw [hz_t_1000]; decide) (by rw [hz_t_1000]; rfl) (by decide) (by decide) (by decide) d_M_init_134 ?_
  refine zat 136 rfl ?_
  refine hz_go B (ft_Mi B rfl rfl) (cn_M B rfl) 100 [] ?_
  show q_M_init _ 100 136 _ _ _
  rw [hz_set_comm (i := 15) (k := 16 + 1 + 1 + 1 + 1 + 1 + 1 + 1 + 1 + 1 + 1 + 1 + 1 + 1 + 1 + 1) (by omega)]
  rw [e_M_init_136, hwr_at hz_set_at (by exact (show 21 < 39 by decide)), hz_set_set]
  simp only [List.set_cons_succ, List.set_cons_zero]
  generalize hW16 : hz_set W15 (16 + 1 + 1 + 1 + 1 + 1 + 1 + 1 + 1 + 1 + 1 + 1 + 1 + 1 + 1 + 1) (.inl (1, 1000, fun _ => .int 0)) = W16
  rw [e_M_init_139, e_M_init_140, e_M_init_142]
  refine hz_newa (aty := .int) (ty := .int) (t := 1) (N := 26) (v0 := .int 0) B rfl rfl (fun _ => rfl) ac_int rfl rfl (by rw [hz_t_26]; decide) (by rw [hz_t_26]; rfl) (by decide) (by decide) (by decide) d_M_init_142 ?_
  refine zat 144 rfl ?_
  refine hz_go B (ft_Mi B rfl rfl) (cn_M B rfl) 100 [] ?_
  show q_M_init _ 100 144 _ _ _
  rw [hz_set_comm (i := 15) (k := 16 + 1 + 1 + 1 + 1 + 1 + 1 + 1 + 1 + 1 + 1 + 1 + 1 + 1 + 1 + 1 + 1) (by omega)]
  rw [e_M_init_144, hwr_at hz_set_at (by exact (show 22 < 39 by decide)), hz_set_set]
  simp only [List.set_cons_succ, List.set_cons_zero]
  generalize hW17 : hz_set W16 (16 + 1 + 1 + 1 + 1 + 1 + 1 + 1 + 1 + 1 + 1 + 1 + 1 + 1 + 1 + 1 + 1) (.inl (1, 26, fun _ => .int 0)) = W17
  rw [e_M_init_147, e_M_init_148, e_M_init_151]
  refine hz_newa (aty := .int) (ty := .int) (t := 1) (N := 2600) (v0 := .int 0) B rfl rfl (fun _ => rfl) ac_int rfl rfl (by rw [hz_t_2600]; decide) (by rw [hz_t_2600]; rfl) (by decide) (by decide) (by decide) d_M_init_151 ?_
  refine zat 153 rfl ?_
  refine hz_go B (ft_Mi B rfl rfl) (cn_M B rfl) 100 [] ?_
  show q_M_init _ 100 153 _ _ _
  rw [hz_set_comm (i := 15) (k := 16 + 1 + 1 + 1 + 1 + 1 + 1 + 1 + 1 + 1 + 1 + 1 + 1 + 1 + 1 + 1 + 1 + 1) (by omega)]
  rw [e_M_init_153, hwr_at hz_set_at (by exact (show 24 < 39 by decide)), hz_set_set]
  simp only [List.set_cons_succ, List.set_cons_zero]
  generalize hW18 : hz_set W17 (16 + 1 + 1 + 1 + 1 + 1 + 1 + 1 + 1 + 1 + 1 + 1 + 1 + 1 + 1 + 1 + 1 + 1) (.inl (1, 2600, fun _ => .int 0)) = W18
  rw [e_M_init_156, e_M_init_157, e_M_init_160]
  refine hz_newa (aty := .int) (ty := .int) (t := 1) (N := 950) (v0 := .int 0) B rfl rfl (fun _ => rfl) ac_int rfl rfl (by rw [hz_t_950]; decide) (by rw [hz_t_950]; rfl) (by decide) (by decide) (by decide) d_M_init_160 ?_
  refine zat 162 rfl ?_
  refine hz_go B (ft_Mi B rfl rfl) (cn_M B rfl) 100 [] ?_
  show q_M_init _ 100 162 _ _ _
  rw [hz_set_comm (i := 15) (k := 16 + 1 + 1 + 1 + 1 + 1 + 1 + 1 + 1 + 1 + 1 + 1 + 1 + 1 + 1 + 1 + 1 + 1 + 1) (by omega)]
  rw [e_M_init_162, hwr_at hz_set_at (by exact (show 26 < 39 by decide)), hz_set_set]
  simp only [List.set_cons_succ, List.set_cons_zero]
  generalize hW19 : hz_set W18 (16 + 1 + 1 + 1 + 1 + 1 + 1 + 1 + 1 + 1 + 1 + 1 + 1 + 1 + 1 + 1 + 1 + 1 + 1) (.inl (1, 950, fun _ => .int 0)) = W19
  rw [e_M_init_165, e_M_init_166, e_M_init_169]
  refine hz_newa (aty := .int) (ty := .int) (t := 1) (N := 950) (v0 := .int 0) B rfl rfl (fun _ => rfl) ac_int rfl rfl (by rw [hz_t_950]; decide) (by rw [hz_t_950]; rfl) (by decide) (by decide) (by decide) d_M_init_169 ?_
  refine zat 171 rfl ?_
  refine hz_go B (ft_Mi B rfl rfl) (cn_M B rfl) 100 [] ?_
  show q_M_init _ 100 171 _ _ _
  rw [hz_set_comm (i := 15) (k := 16 + 1 + 1 + 1 + 1 + 1 + 1 + 1 + 1 + 1 + 1 + 1 + 1 + 1 + 1 + 1 + 1 + 1 + 1 + 1) (by omega)]
  rw [e_M_init_171, hwr_at hz_set_at (by exact (show 27 < 39 by decide)), hz_set_set]
  simp only [List.set_cons_succ, List.set_cons_zero]
  generalize hW20 : hz_set W19 (16 + 1 + 1 + 1 + 1 + 1 + 1 + 1 + 1 + 1 + 1 + 1 + 1 + 1 + 1 + 1 + 1 + 1 + 1 + 1) (.inl (1, 950, fun _ => .int 0)) = W20
  rw [e_M_init_174, e_M_init_175, e_M_init_178]
  refine hz_newa (aty := .int) (ty := .int) (t := 1) (N := 950) (v0 := .int 0) B rfl rfl (fun _ => rfl) ac_int rfl rfl (by rw [hz_t_950]; decide) (by rw [hz_t_950]; rfl) (by decide) (by decide) (by decide) d_M_init_178 ?_
  refine zat 180 rfl ?_
  refine hz_go B (ft_Mi B rfl rfl) (cn_M B rfl) 100 [] ?_
  show q_M_init _ 100 180 _ _ _
  rw [hz_set_comm (i := 15) (k := 16 + 1 + 1 + 1 + 1 + 1 + 1 + 1 + 1 + 1 + 1 + 1 + 1 + 1 + 1 + 1 + 1 + 1 + 1 + 1 + 1) (by omega)]
  rw [e_M_init_180, hwr_at hz_set_at (by exact (show 28 < 39 by decide)), hz_set_set]
  simp only [List.set_cons_succ, List.set_cons_zero]
  generalize hW21 : hz_set W20 (16 + 1 + 1 + 1 + 1 + 1 + 1 + 1 + 1 + 1 + 1 + 1 + 1 + 1 + 1 + 1 + 1 + 1 + 1 + 1 + 1) (.inl (1, 950, fun _ => .int 0)) = W21
  rw [e_M_init_183, e_M_init_184, e_M_init_187]
  refine hz_newa (aty := .int) (ty := .int) (t := 1) (N := 2150) (v0 := .int 0) B rfl rfl (fun _ => rfl) ac_int rfl rfl (by rw [hz_t_2150]; decide) (by rw [hz_t_2150]; rfl) (by decide) (by decide) (by decide) d_M_init_187 ?_
  refine zat 189 rfl ?_
  refine hz_go B (ft_Mi B rfl rfl) (cn_M B rfl) 100 [] ?_
  show q_M_init _ 100 189 _ _ _
  rw [hz_set_comm (i := 15) (k := 16 + 1 + 1 + 1 + 1 + 1 + 1 + 1 + 1 + 1 + 1 + 1 + 1 + 1 + 1 + 1 + 1 + 1 + 1 + 1 + 1 + 1) (by omega)]
  rw [e_M_init_189, hwr_at hz_set_at (by exact (show 30 < 39 by decide)), hz_set_set]
  simp only [List.set_cons_succ, List.set_cons_zero]
  generalize hW22 : hz_set W21 (16 + 1 + 1 + 1 + 1 + 1 + 1 + 1 + 1 + 1 + 1 + 1 + 1 + 1 + 1 + 1 + 1 + 1 + 1 + 1 + 1 + 1) (.inl (1, 2150, fun _ => .int 0)) = W22
  rw [e_M_init_192, e_M_init_193, e_M_init_196]
  refine hz_newa (aty := .int) (ty := .int) (t := 1) (N := 2150) (v0 := .int 0) B rfl rfl (fun _ => rfl) ac_int rfl rfl (by rw [hz_t_2150]; decide) (by rw [hz_t_2150]; rfl) (by decide) (by decide) (by decide) d_M_init_196 ?_
  refine zat 198 rfl ?_
  refine hz_go B (ft_Mi B rfl rfl) (cn_M B rfl) 100 [] ?_
  show q_M_init _ 100 198 _ _ _
  rw [hz_set_comm (i := 15) (k := 16 + 1 + 1 + 1 + 1 + 1 + 1 + 1 + 1 + 1 + 1 + 1 + 1 + 1 + 1 + 1 + 1 + 1 + 1 + 1 + 1 + 1 + 1) (by omega)]
  rw [e_M_init_198, hwr_at hz_set_at (by exact (show 31 < 39 by decide)), hz_set_set]
  simp only [List.set_cons_succ, List.set_cons_zero]
  generalize hW23 : hz_set W22 (16 + 1 + 1 + 1 + 1 + 1 + 1 + 1 + 1 + 1 + 1 + 1 + 1 + 1 + 1 + 1 + 1 + 1 + 1 + 1 + 1 + 1 + 1) (.inl (1, 2150, fun _ => .int 0)) = W23
  rw [e_M_init_201]
  subst hW23
  subst hW22
  subst hW21
  subst hW20
  subst hW19
  subst hW18
  subst hW17
  subst hW16
  subst hW15
  subst hW14
  subst hW13
  subst hW12
  subst hW11
  subst hW10
  subst hW9
  subst hW8
  subst hW7
  subst hW6
  subst hW5
  subst hW4
  subst hW3
  subst hW2
  subst hW1
  exact hz_vret B ⟨rfl, rfl, rfl⟩ (by decide) (by decide) d_M_init_201
