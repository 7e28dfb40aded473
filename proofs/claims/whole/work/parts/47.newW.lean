/-! The constructor of the writer. Printed by wip/g47.py. -/
theorem hwr_at {h : hz_H} {d ci k : Nat} {fs : List Value} {v : Value} (h2 : h d = some (.inr (ci, fs))) (h3 : k < fs.length) {K : hz_H → Prop} : hz_wr h d ci k v K = K (hz_set h d (.inr (ci, fs.set k v))) := by
  unfold hz_wr
  rw [h2]
  show hz_t (Nat.beq ci ci && Nat.blt k fs.length) _ = _
  rw [Nat.beq_refl, show Nat.blt k fs.length = true from Nat.ble_eq.mpr h3]
  rfl
set_option maxHeartbeats 2000000 in
set_option maxRecDepth 20000 in
theorem k_W_init {l : Launch} {G : hz_G} {h : hz_H} {v0 v1 v2 v3 v4 v5 : Value} (hD : h 12 = some (.inr (3, [v0, v1, v2, v3, v4, v5]))) : hz_M lw_tbl zAO zCl zKT l y_W_init c_W_init 1 none { frames := 2, cells := 2, slots := 120, locals := 80 } G [.ref 12] h 13 (fun r h' n' => r = none ∧ h' = hz_set (hz_set (hz_set h 13 (.inl (0, 60, fun _ => .int 0))) 14 (.inl (1, 60, fun _ => .int 0))) 12 (.inr (3, [.ref 13, .int (hz_n 0), .ref 14, .int (hz_n 0), .int (hz_n (-1)), .int (hz_n 0)])) ∧ n' = 15) := by
  refine hz_body (by decide) (by simp [Value.category]) (by simp) ?_
  intro p e s m args below meth c B
  refine hz_go B (ft_Wi B rfl rfl) (cn_W B rfl) 5 [] ?_
  show q_W_init _ 5 0 [some (.ref 12)] [] _
  rw [e_W_init_0, e_W_init_1]
  refine hz_objInit B ol_W ol_i ol_c d_W_init_1 (by decide) (by decide) ?_
  refine zat 4 rfl ?_
  refine hz_go B (ft_Wi B rfl rfl) (cn_W B rfl) 5 [] ?_
  show q_W_init _ 5 4 _ _ _
  rw [e_W_init_4, e_W_init_5, e_W_init_7]
  refine hz_newa (aty := .char) (ty := .char) (t := 0) (N := 60) (v0 := .int 0) B rfl rfl (fun _ => rfl) ac_char rfl rfl (by rw [hz_t_60]; decide) (by rw [hz_t_60]; rfl) (by decide) (by decide) (by decide) d_W_init_7 ?_
  refine zat 9 rfl ?_
  refine hz_go B (ft_Wi B rfl rfl) (cn_W B rfl) 40 [] ?_
  show q_W_init _ 40 9 _ _ _
  rw [e_W_init_9, hwr_at ((hz_set_ne (by omega)).trans hD) (by simp), e_W_init_12, e_W_init_13, e_W_init_14, hwr_at hz_set_at (by simp), hz_set_set, e_W_init_17, e_W_init_18, e_W_init_20]
  refine hz_newa (aty := .int) (ty := .int) (t := 1) (N := 60) (v0 := .int 0) B rfl rfl (fun _ => rfl) ac_int rfl rfl (by rw [hz_t_60]; decide) (by rw [hz_t_60]; rfl) (by decide) (by decide) (by decide) d_W_init_20 ?_
  refine zat 22 rfl ?_
  refine hz_go B (ft_Wi B rfl rfl) (cn_W B rfl) 40 [] ?_
  show q_W_init _ 40 22 _ _ _
  rw [hz_set_comm (i := 12) (k := 13 + 1) (by omega)]
  rw [e_W_init_22, hwr_at hz_set_at (by simp), hz_set_set, e_W_init_25, e_W_init_26, e_W_init_27, hwr_at hz_set_at (by simp), hz_set_set, e_W_init_30, e_W_init_31, e_W_init_32, hwr_at hz_set_at (by simp), hz_set_set, e_W_init_35, e_W_init_36, e_W_init_37]
  refine ⟨⟨rfl, rfl⟩, ?_⟩
  rw [hwr_at hz_set_at (by simp), hz_set_set, e_W_init_40]
  exact hz_vret B ⟨rfl, rfl, rfl⟩ (by decide) (by decide) d_W_init_40
