def zR (d : Nat) : Room := { frames := d, cells := 0, slots := 0, locals := 40 * d }
def g_keep (κ : zK) (c k v : Int32) : zK := kS (kA (kA κ 6 c.toInt.toNat k) 7 c.toInt.toNat v) 1 (κ.1 1 - hz_n 1)
set_option maxHeartbeats 1000000 in
set_option maxRecDepth 10000 in
theorem k_G_keep {l : Launch} {G : hz_G} {κ : zK} {μ : zM} {ω : Nat → Int64} {D : hz_H} {n : Nat} {x k v : Int32} (hx : 0 ≤ x.toInt ∧ x.toInt ≤ 2000) : hz_M lw_tbl zAO zCl zKT l y_G_keep c_G_keep 4 none (zR 1) G [.ref 2, .int x, .int k, .int v] (zH κ μ ω D) n (fun r h' n' => r = none ∧ h' = zH (g_keep κ x k v) μ ω D ∧ n' = n) := by
  refine hz_body (by decide) (by simp [Value.category]) (by simp) ?_
  intro p e s m args below meth c B
  refine hz_go B (ft_G B rfl) (cn_G B rfl) 40 [] ?_
  show q_G_keep _ 40 0 [some (.ref 2), some (.int x), some (.int k), some (.int v)] [] _
  simp only [↓e_G_keep_0, ↓e_G_keep_0n, ↓e_G_keep_1, ↓e_G_keep_4, ↓e_G_keep_5, ↓e_G_keep_6, ↓e_G_keep_7, ↓e_G_keep_7n, ↓e_G_keep_8, ↓e_G_keep_11, ↓e_G_keep_12, ↓e_G_keep_13, ↓e_G_keep_14, ↓e_G_keep_14n, ↓e_G_keep_15, ↓e_G_keep_15i, ↓e_G_keep_16, ↓e_G_keep_19, ↓e_G_keep_20, ↓e_G_keep_21, ↓e_G_keep_24, ↓rd_0_0, ↓rd_0_1, ↓wr_0_1, ↓rd_0_2, ↓rd_0_3, ↓rd_2_0, ↓rd_2_1, ↓rd_2_2, ↓rd_2_3, ↓rd_2_4, ↓rd_2_5, ↓rd_2_6, ↓rd_2_7, ↓rd_2_8, ↓rd_2_9, ↓wr_2_9, ↓rd_2_10, ↓wr_2_10, ↓rd_2_11, ↓wr_2_11, ↓rd_2_12, ↓wr_2_12, ↓rd_2_13, ↓wr_2_13, ↓rd_12_0, ↓rd_12_1, ↓wr_12_1, ↓rd_12_2, ↓rd_12_3, ↓wr_12_3, ↓rd_12_4, ↓wr_12_4, ↓rd_12_5, ↓wr_12_5, ↓ea_1, ↓es_1, ↓ea_3, ↓ea_4, ↓ea_5, ↓es_5, ↓ea_6, ↓es_6, ↓ea_7, ↓es_7, ↓ea_8, ↓es_8, ↓ea_9, ↓es_9, ↓ea_10, ↓es_10, ↓ea_11, ↓es_11, ↓ea_13, ↓es_13, ↓ea_14, ↓es_14]
  trace_state
  sorry
set_option maxHeartbeats 1000000 in
set_option maxRecDepth 10000 in
theorem k_G_request {l : Launch} {G : hz_G} {κ : zK} {μ : zM} {ω : Nat → Int64} {D : hz_H} {n : Nat} {x : Int32} (hx : 0 ≤ x.toInt ∧ x.toInt ≤ 2000) : hz_M lw_tbl zAO zCl zKT l y_G_request c_G_request 2 (some .boolean) (zR 1) G [.ref 2, .int x] (zH κ μ ω D) n (fun r h' n' => n' = n) := by
  refine hz_body (by decide) (by simp [Value.category]) (by simp) ?_
  intro p e s m args below meth c B
  refine hz_go B (ft_G B rfl) (cn_G B rfl) 60 [] ?_
  show q_G_request _ 60 0 [some (.ref 2), some (.int x)] [] _
  simp only [↓e_G_request_0, ↓e_G_request_0n, ↓e_G_request_1, ↓e_G_request_4, ↓e_G_request_5, ↓e_G_request_6, ↓e_G_request_7, ↓e_G_request_10, ↓e_G_request_10n, ↓e_G_request_11, ↓e_G_request_13, ↓e_G_request_16, ↓e_G_request_17, ↓e_G_request_18, ↓e_G_request_18n, ↓e_G_request_19, ↓e_G_request_22, ↓e_G_request_23, ↓e_G_request_24, ↓e_G_request_27, ↓e_G_request_27n, ↓e_G_request_28, ↓e_G_request_31, ↓e_G_request_32, ↓e_G_request_33, ↓e_G_request_34, ↓e_G_request_34n, ↓e_G_request_35, ↓e_G_request_38, ↓e_G_request_39, ↓e_G_request_40, ↓e_G_request_41, ↓e_G_request_42, ↓e_G_request_43, ↓e_G_request_43n, ↓e_G_request_44, ↓e_G_request_47, ↓e_G_request_48, ↓e_G_request_49, ↓e_G_request_50, ↓e_G_request_51, ↓e_G_request_52, ↓e_G_request_52n, ↓e_G_request_53, ↓e_G_request_56, ↓e_G_request_56n, ↓e_G_request_57, ↓e_G_request_60, ↓e_G_request_61, ↓e_G_request_62, ↓e_G_request_62n, ↓e_G_request_63, ↓e_G_request_63i, ↓e_G_request_64, ↓e_G_request_67, ↓e_G_request_68, ↓e_G_request_69, ↓e_G_request_72, ↓e_G_request_73, ↓e_G_request_74, ↓e_G_request_75, ↓rd_0_0, ↓rd_0_1, ↓wr_0_1, ↓rd_0_2, ↓rd_0_3, ↓rd_2_0, ↓rd_2_1, ↓rd_2_2, ↓rd_2_3, ↓rd_2_4, ↓rd_2_5, ↓rd_2_6, ↓rd_2_7, ↓rd_2_8, ↓rd_2_9, ↓wr_2_9, ↓rd_2_10, ↓wr_2_10, ↓rd_2_11, ↓wr_2_11, ↓rd_2_12, ↓wr_2_12, ↓rd_2_13, ↓wr_2_13, ↓rd_12_0, ↓rd_12_1, ↓wr_12_1, ↓rd_12_2, ↓rd_12_3, ↓wr_12_3, ↓rd_12_4, ↓wr_12_4, ↓rd_12_5, ↓wr_12_5, ↓ea_1, ↓es_1, ↓ea_3, ↓ea_4, ↓ea_5, ↓es_5, ↓ea_6, ↓es_6, ↓ea_7, ↓es_7, ↓ea_8, ↓es_8, ↓ea_9, ↓es_9, ↓ea_10, ↓es_10, ↓ea_11, ↓es_11, ↓ea_13, ↓es_13, ↓ea_14, ↓es_14]
  trace_state
  sorry
