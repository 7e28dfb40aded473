/-! The constructor of the graph. Printed by wip/g48.py. -/
set_option maxHeartbeats 2000000 in
set_option maxRecDepth 20000 in
theorem k_G_init {l : Launch} {G : hz_G} {h : hz_H} {v0 v1 v2 v3 v4 v5 v6 v7 v8 v9 v10 v11 v12 v13 : Value} (hD : h 2 = some (.inr (1, [v0, v1, v2, v3, v4, v5, v6, v7, v8, v9, v10, v11, v12, v13]))) : hz_M lw_tbl zAO zCl zKT l y_G_init c_G_init 1 none { frames := 2, cells := 9, slots := 12108, locals := 80 } G [.ref 2] h 3 (fun r h' n' => r = none ∧ h' = hz_set (hz_set (hz_set (hz_set (hz_set (hz_set (hz_set (hz_set (hz_set (hz_set (h) 3 (.inl (2, 26, fun _ => .null))) 4 (.inl (2, 50, fun _ => .null))) 5 (.inl (1, 26, fun _ => .int 0))) 6 (.inl (1, 2001, fun _ => .int 0))) 7 (.inl (1, 2001, fun _ => .int 0))) 8 (.inl (1, 2001, fun _ => .int 0))) 9 (.inl (1, 2001, fun _ => .int 0))) 10 (.inl (1, 2001, fun _ => .int 0))) 11 (.inl (1, 2001, fun _ => .int 0))) 2 (.inr (1, [.ref 3, .ref 4, .ref 5, .ref 6, .ref 7, .ref 8, .ref 9, .ref 10, .ref 11, .int (hz_n 0), .int (hz_n 0), .int (hz_n 0), .int (hz_n 0), .int (hz_n 0)])) ∧ n' = 12) := by
  refine hz_body (by decide) (by simp [Value.category]) (by simp) ?_
  intro p e s m args below meth c B
  refine hz_go B (ft_Gi B rfl rfl) (cn_G B rfl) 5 [] ?_
  show q_G_init _ 5 0 [some (.ref 2)] [] _
  rw [e_G_init_0, e_G_init_1]
  refine hz_objInit B ol_G ol_i ol_c d_G_init_1 (by decide) (by decide) ?_
  refine zat 4 rfl ?_
  refine hz_go B (ft_Gi B rfl rfl) (cn_G B rfl) 100 [] ?_
  show q_G_init _ 100 4 _ _ _
  rw [e_G_init_4, e_G_init_5, e_G_init_7]
  refine hz_newq (t := 2) (N := 26) B rfl nl_G_9 (by simp) (by rw [hz_t_26]; decide) (by rw [hz_t_26]; rfl) (by decide) (by decide) (by decide) d_G_init_7 ?_
  refine zat 10 rfl ?_
  refine hz_go B (ft_Gi B rfl rfl) (cn_G B rfl) 100 [] ?_
  show q_G_init _ 100 10 _ _ _
  rw [e_G_init_10, hwr_at ((hz_set_ne (by omega)).trans hD) (by simp), e_G_init_13, e_G_init_14, e_G_init_16]
  refine hz_newq (t := 2) (N := 50) B rfl nl_G_9 (by simp) (by rw [hz_t_50]; decide) (by rw [hz_t_50]; rfl) (by decide) (by decide) (by decide) d_G_init_16 ?_
  refine zat 19 rfl ?_
  refine hz_go B (ft_Gi B rfl rfl) (cn_G B rfl) 100 [] ?_
  show q_G_init _ 100 19 _ _ _
  rw [hz_set_comm (i := 2) (k := 3 + 1) (by omega)]
  rw [e_G_init_19, hwr_at hz_set_at (by simp), hz_set_set, e_G_init_22, e_G_init_23, e_G_init_25]
  refine hz_newa (aty := .int) (ty := .int) (t := 1) (N := 26) (v0 := .int 0) B rfl rfl (fun _ => rfl) ac_int rfl rfl (by rw [hz_t_26]; decide) (by rw [hz_t_26]; rfl) (by decide) (by decide) (by decide) d_G_init_25 ?_
  refine zat 27 rfl ?_
  refine hz_go B (ft_Gi B rfl rfl) (cn_G B rfl) 100 [] ?_
  show q_G_init _ 100 27 _ _ _
  rw [hz_set_comm (i := 2) (k := 3 + 1 + 1) (by omega)]
  rw [e_G_init_27, hwr_at hz_set_at (by simp), hz_set_set, e_G_init_30, e_G_init_31, e_G_init_34]
  refine hz_newa (aty := .int) (ty := .int) (t := 1) (N := 2001) (v0 := .int 0) B rfl rfl (fun _ => rfl) ac_int rfl rfl (by rw [hz_t_2001]; decide) (by rw [hz_t_2001]; rfl) (by decide) (by decide) (by decide) d_G_init_34 ?_
  refine zat 36 rfl ?_
  refine hz_go B (ft_Gi B rfl rfl) (cn_G B rfl) 100 [] ?_
  show q_G_init _ 100 36 _ _ _
  rw [hz_set_comm (i := 2) (k := 3 + 1 + 1 + 1) (by omega)]
  rw [e_G_init_36, hwr_at hz_set_at (by simp), hz_set_set, e_G_init_39, e_G_init_40, e_G_init_43]
  refine hz_newa (aty := .int) (ty := .int) (t := 1) (N := 2001) (v0 := .int 0) B rfl rfl (fun _ => rfl) ac_int rfl rfl (by rw [hz_t_2001]; decide) (by rw [hz_t_2001]; rfl) (by decide) (by decide) (by decide) d_G_init_43 ?_
  refine zat 45 rfl ?_
  refine hz_go B (ft_Gi B rfl rfl) (cn_G B rfl) 100 [] ?_
  show q_G_init _ 100 45 _ _ _
  rw [hz_set_comm (i := 2) (k := 3 + 1 + 1 + 1 + 1) (by omega)]
  rw [e_G_init_45, hwr_at hz_set_at (by simp), hz_set_set, e_G_init_48, e_G_init_49, e_G_init_52]
  refine hz_newa (aty := .int) (ty := .int) (t := 1) (N := 2001) (v0 := .int 0) B rfl rfl (fun _ => rfl) ac_int rfl rfl (by rw [hz_t_2001]; decide) (by rw [hz_t_2001]; rfl) (by decide) (by decide) (by decide) d_G_init_52 ?_
  refine zat 54 rfl ?_
  refine hz_go B (ft_Gi B rfl rfl) (cn_G B rfl) 100 [] ?_
  show q_G_init _ 100 54 _ _ _
  rw [hz_set_comm (i := 2) (k := 3 + 1 + 1 + 1 + 1 + 1) (by omega)]
  rw [e_G_init_54, hwr_at hz_set_at (by simp), hz_set_set, e_G_init_57, e_G_init_58, e_G_init_61]
  refine hz_newa (aty := .int) (ty := .int) (t := 1) (N := 2001) (v0 := .int 0) B rfl rfl (fun _ => rfl) ac_int rfl rfl (by rw [hz_t_2001]; decide) (by rw [hz_t_2001]; rfl) (by decide) (by decide) (by decide) d_G_init_61 ?_
  refine zat 63 rfl ?_
  refine hz_go B (ft_Gi B rfl rfl) (cn_G B rfl) 100 [] ?_
  show q_G_init _ 100 63 _ _ _
  rw [hz_set_comm (i := 2) (k := 3 + 1 + 1 + 1 + 1 + 1 + 1) (by omega)]
  rw [e_G_init_63, hwr_at hz_set_at (by simp), hz_set_set, e_G_init_66, e_G_init_67, e_G_init_70]
  refine hz_newa (aty := .int) (ty := .int) (t := 1) (N := 2001) (v0 := .int 0) B rfl rfl (fun _ => rfl) ac_int rfl rfl (by rw [hz_t_2001]; decide) (by rw [hz_t_2001]; rfl) (by decide) (by decide) (by decide) d_G_init_70 ?_
  refine zat 72 rfl ?_
  refine hz_go B (ft_Gi B rfl rfl) (cn_G B rfl) 100 [] ?_
  show q_G_init _ 100 72 _ _ _
  rw [hz_set_comm (i := 2) (k := 3 + 1 + 1 + 1 + 1 + 1 + 1 + 1) (by omega)]
  rw [e_G_init_72, hwr_at hz_set_at (by simp), hz_set_set, e_G_init_75, e_G_init_76, e_G_init_79]
  refine hz_newa (aty := .int) (ty := .int) (t := 1) (N := 2001) (v0 := .int 0) B rfl rfl (fun _ => rfl) ac_int rfl rfl (by rw [hz_t_2001]; decide) (by rw [hz_t_2001]; rfl) (by decide) (by decide) (by decide) d_G_init_79 ?_
  refine zat 81 rfl ?_
  refine hz_go B (ft_Gi B rfl rfl) (cn_G B rfl) 100 [] ?_
  show q_G_init _ 100 81 _ _ _
  rw [hz_set_comm (i := 2) (k := 3 + 1 + 1 + 1 + 1 + 1 + 1 + 1 + 1) (by omega)]
  rw [e_G_init_81, hwr_at hz_set_at (by simp), hz_set_set, e_G_init_84, e_G_init_85, e_G_init_86, hwr_at hz_set_at (by simp), hz_set_set, e_G_init_89, e_G_init_90, e_G_init_91, hwr_at hz_set_at (by simp), hz_set_set, e_G_init_94, e_G_init_95, e_G_init_96, hwr_at hz_set_at (by simp), hz_set_set, e_G_init_99, e_G_init_100, e_G_init_101, hwr_at hz_set_at (by simp), hz_set_set, e_G_init_104, e_G_init_105, e_G_init_106, hwr_at hz_set_at (by simp), hz_set_set, e_G_init_109]
  exact hz_vret B ⟨rfl, rfl, rfl⟩ (by decide) (by decide) d_G_init_109
