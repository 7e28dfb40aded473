/-! The reference, methods that call. Printed by wip/g21.py. -/
theorem hz_add {a b : Int32} (h : -2147483648 ≤ a.toInt + b.toInt ∧ a.toInt + b.toInt ≤ 2147483647) : (a + b).toInt = a.toInt + b.toInt := by
  rw [Int32.toInt_add]
  show Int.bmod _ 4294967296 = _
  unfold Int.bmod
  simp only []
  split <;> omega
theorem hz_sub {a b : Int32} (h : -2147483648 ≤ a.toInt - b.toInt ∧ a.toInt - b.toInt ≤ 2147483647) : (a - b).toInt = a.toInt - b.toInt := by
  rw [Int32.toInt_sub]
  show Int.bmod _ 4294967296 = _
  unfold Int.bmod
  simp only []
  split <;> omega
theorem hz_add1 {a : Int32} (h1 : -1000000 ≤ a.toInt) (h2 : a.toInt ≤ 1000000) : (a + hz_n 1).toInt = a.toInt + 1 := by
  rw [hz_add (by rw [hz_t_1]; omega), hz_t_1]
def m_enter (μ : zM) (x a : Int32) : zM := if (μ.1 20).toInt = (μ.1 19).toInt then mS μ 21 (hz_n (-2)) else m_evaluate (mS μ 20 (μ.1 20 + hz_n 1)) (hz_n 40 * x) a
set_option maxHeartbeats 2000000 in
set_option maxRecDepth 20000 in
theorem k_M_enter {l : Launch} {G : hz_G} {κ : zK} {μ : zM} {ω : Nat → Int64} {D : hz_H} {n : Nat} {x y : Int32}  : hz_M lw_tbl zAO zCl zKT l y_M_enter c_M_enter 3 none (zR 2) G [.ref 15, .int x, .int y] (zH κ μ ω D) n (fun r h' n' => r = none ∧ h' = zH κ (m_enter μ x y) ω D ∧ n' = n) := by
  refine hz_body (by decide) (by simp [Value.category]) (by simp) ?_
  intro p e s m args below meth c B
  refine hz_go B (ft_M B rfl) (cn_M B rfl) 300 [] ?_
  show q_M_enter _ 300 0 [some (.ref 15), some (.int x), some (.int y)] [] _
  simp only [↓e_M_enter_0, ↓e_M_enter_0n, ↓e_M_enter_1, ↓e_M_enter_4, ↓e_M_enter_4n, ↓e_M_enter_5, ↓e_M_enter_8, ↓e_M_enter_11, ↓e_M_enter_11n, ↓e_M_enter_12, ↓e_M_enter_14, ↓e_M_enter_17, ↓e_M_enter_18, ↓e_M_enter_18n, ↓e_M_enter_19, ↓e_M_enter_19i, ↓e_M_enter_20, ↓e_M_enter_23, ↓e_M_enter_24, ↓e_M_enter_25, ↓e_M_enter_28, ↓e_M_enter_28n, ↓e_M_enter_29, ↓e_M_enter_31, ↓e_M_enter_32, ↓e_M_enter_33, ↓e_M_enter_34, ↓e_M_enter_37, ↓rd_15_0, ↓wr_15_0, ↓rd_15_1, ↓wr_15_1, ↓rd_15_2, ↓rd_15_3, ↓wr_15_3, ↓rd_15_4, ↓rd_15_5, ↓rd_15_6, ↓rd_15_7, ↓rd_15_8, ↓rd_15_9, ↓rd_15_10, ↓rd_15_11, ↓rd_15_12, ↓wr_15_12, ↓rd_15_13, ↓wr_15_13, ↓rd_15_14, ↓rd_15_15, ↓rd_15_16, ↓rd_15_17, ↓wr_15_17, ↓rd_15_18, ↓rd_15_19, ↓rd_15_20, ↓rd_15_21, ↓rd_15_22, ↓rd_15_23, ↓wr_15_23, ↓rd_15_24, ↓rd_15_25, ↓wr_15_25, ↓rd_15_26, ↓rd_15_27, ↓rd_15_28, ↓rd_15_29, ↓wr_15_29, ↓rd_15_30, ↓rd_15_31, ↓rd_15_32, ↓wr_15_32, ↓rd_15_33, ↓wr_15_33, ↓rd_15_34, ↓wr_15_34, ↓rd_15_35, ↓wr_15_35, ↓rd_15_36, ↓wr_15_36, ↓rd_15_37, ↓wr_15_37, ↓rd_15_38, ↓wr_15_38, ↓ea_16, ↓es_16, ↓ea_17, ↓es_17, ↓ea_18, ↓es_18, ↓ea_19, ↓es_19, ↓ea_20, ↓es_20, ↓ea_21, ↓es_21, ↓ea_22, ↓es_22, ↓ea_23, ↓es_23, ↓ea_24, ↓es_24, ↓ea_25, ↓es_25, ↓ea_26, ↓es_26, ↓ea_27, ↓es_27, ↓ea_28, ↓es_28, ↓ea_29, ↓es_29, ↓ea_30, ↓es_30, ↓ea_31, ↓es_31, ↓ea_32, ↓es_32, ↓ea_33, ↓es_33, ↓ea_34, ↓es_34, ↓ea_35, ↓es_35, ↓ea_36, ↓es_36, ↓ea_37, ↓es_37, ↓ea_38, ↓es_38]
  try simp only [hz_t_m100, hz_t_m30, hz_t_m20, hz_t_m5, hz_t_m4, hz_t_m3, hz_t_m2, hz_t_m1, hz_t_0, hz_t_1, hz_t_2, hz_t_3, hz_t_4, hz_t_5, hz_t_6, hz_t_7, hz_t_8, hz_t_9, hz_t_10, hz_t_15, hz_t_26, hz_t_27, hz_t_32, hz_t_36, hz_t_40, hz_t_41, hz_t_42, hz_t_43, hz_t_44, hz_t_45, hz_t_46, hz_t_47, hz_t_48, hz_t_50, hz_t_57, hz_t_58, hz_t_60, hz_t_61, hz_t_63, hz_t_65, hz_t_90, hz_t_91, hz_t_92, hz_t_93, hz_t_97, hz_t_104, hz_t_108, hz_t_120, hz_t_122, hz_t_126, hz_t_950, hz_t_1000, hz_t_1040, hz_t_1080, hz_t_2000, hz_t_2001, hz_t_2150, hz_t_2600, hz_t_4096, kS_1, kA_1, kQ_1, mS_1, mA_1, kS_2, kQ_21, mS_2, upd_ap, mA_2, kA_21, kA_22, kQ_22, Nat.reduceEqDiff, ↓reduceIte, Classical.not_not, and_self, and_true, true_and]
  repeat' (first
    | with_reducible refine And.intro ?_ ?_
    | with_reducible intro _
    | (refine zat 17 rfl ?_; exact hz_vret B (⟨rfl, by unfold m_enter; first | (rw [if_pos (by assumption)] <;> rfl) | (rw [if_neg (by assumption)] <;> rfl), rfl⟩) (Nat.le_refl _) (Nat.le_refl _) d_M_enter_17)
    | (refine zat 37 rfl ?_; exact hz_vret B (⟨rfl, by unfold m_enter; first | (rw [if_pos (by assumption)] <;> rfl) | (rw [if_neg (by assumption)] <;> rfl), rfl⟩) (Nat.le_refl _) (Nat.le_refl _) d_M_enter_37)
    | (refine zat 34 rfl ?_; refine zcV B rfl cb_M_180 im_M_evaluate se_M_evaluate (k_M_evaluate) (by decide) (by decide) rfl rfl rfl (by simp [Value.category]) rfl d_M_enter_34 (zkv ?_)))
  all_goals first
    | omega
/-- where the name lies -/
def m_look (μ : zM) (v : Int32) : Nat → Int32 → Option Int32
  | 0, _ => none
  | f + 1, k => if 0 ≤ k.toInt ∧ k.toInt < 950 then (if (μ.2 34 k.toInt.toNat).toInt = v.toInt then some k else m_look μ v f (μ.2 36 k.toInt.toNat)) else none
set_option maxHeartbeats 2000000 in
set_option maxRecDepth 20000 in
theorem lp_M_looked {l : Launch} {G : hz_G} {κ : zK} {μ : zM} {ω : Nat → Int64} {D : hz_H} {n : Nat} {p : Program} {e : Env} {s : State} {m : MethodId} {args : Array Value} {below : List Frame} {meth : Method} {c : Code} (B : hz_B lw_tbl zAO zCl zKT G y_M_looked c_M_looked 4 (some .int) p s m args meth c) {x y kf : Int32} : ∀ (f : Nat) (k : Int32), m_look μ x f k = some kf → hz_g zCl G p l e (zR 1) s m args below meth c 4 (MQ below (hz_Q zCl G (fun r h' n' => r = some (.int (μ.2 35 kf.toInt.toNat)) ∧ h' = zH κ μ ω D ∧ n' = n)) args s 0 0 (fun q => G.2.2.size ≤ q)) n 0 0 2 [some (.ref 15), some (.int x), some (.int y), some (.int k)] [] (zH κ μ ω D)
  | 0, k, h => by simp [m_look] at h
  | f + 1, k, h => by
    unfold m_look at h
    split at h
    · rename_i hb
      refine hz_go B (ft_M B rfl) (cn_M B rfl) 60 [2] ?_
      show q_M_looked _ 60 2 _ _ _
      simp only [↓e_M_looked_0, ↓e_M_looked_1, ↓e_M_looked_2, ↓e_M_looked_2n, ↓e_M_looked_3, ↓e_M_looked_6, ↓e_M_looked_7, ↓e_M_looked_8, ↓e_M_looked_9, ↓e_M_looked_12, ↓e_M_looked_12n, ↓e_M_looked_13, ↓e_M_looked_16, ↓e_M_looked_17, ↓e_M_looked_18, ↓e_M_looked_19, ↓e_M_looked_22, ↓e_M_looked_22n, ↓e_M_looked_23, ↓e_M_looked_26, ↓e_M_looked_27, ↓e_M_looked_28, ↓rd_15_0, ↓wr_15_0, ↓rd_15_1, ↓wr_15_1, ↓rd_15_2, ↓rd_15_3, ↓wr_15_3, ↓rd_15_4, ↓rd_15_5, ↓rd_15_6, ↓rd_15_7, ↓rd_15_8, ↓rd_15_9, ↓rd_15_10, ↓rd_15_11, ↓rd_15_12, ↓wr_15_12, ↓rd_15_13, ↓wr_15_13, ↓rd_15_14, ↓rd_15_15, ↓rd_15_16, ↓rd_15_17, ↓wr_15_17, ↓rd_15_18, ↓rd_15_19, ↓rd_15_20, ↓rd_15_21, ↓rd_15_22, ↓rd_15_23, ↓wr_15_23, ↓rd_15_24, ↓rd_15_25, ↓wr_15_25, ↓rd_15_26, ↓rd_15_27, ↓rd_15_28, ↓rd_15_29, ↓wr_15_29, ↓rd_15_30, ↓rd_15_31, ↓rd_15_32, ↓wr_15_32, ↓rd_15_33, ↓wr_15_33, ↓rd_15_34, ↓wr_15_34, ↓rd_15_35, ↓wr_15_35, ↓rd_15_36, ↓wr_15_36, ↓rd_15_37, ↓wr_15_37, ↓rd_15_38, ↓wr_15_38, ↓ea_16, ↓es_16, ↓ea_17, ↓es_17, ↓ea_18, ↓es_18, ↓ea_19, ↓es_19, ↓ea_20, ↓es_20, ↓ea_21, ↓es_21, ↓ea_22, ↓es_22, ↓ea_23, ↓es_23, ↓ea_24, ↓es_24, ↓ea_25, ↓es_25, ↓ea_26, ↓es_26, ↓ea_27, ↓es_27, ↓ea_28, ↓es_28, ↓ea_29, ↓es_29, ↓ea_30, ↓es_30, ↓ea_31, ↓es_31, ↓ea_32, ↓es_32, ↓ea_33, ↓es_33, ↓ea_34, ↓es_34, ↓ea_35, ↓es_35, ↓ea_36, ↓es_36, ↓ea_37, ↓es_37, ↓ea_38, ↓es_38]
      try simp only [hz_t_m100, hz_t_m30, hz_t_m20, hz_t_m5, hz_t_m4, hz_t_m3, hz_t_m2, hz_t_m1, hz_t_0, hz_t_1, hz_t_2, hz_t_3, hz_t_4, hz_t_5, hz_t_6, hz_t_7, hz_t_8, hz_t_9, hz_t_10, hz_t_15, hz_t_26, hz_t_27, hz_t_32, hz_t_36, hz_t_40, hz_t_41, hz_t_42, hz_t_43, hz_t_44, hz_t_45, hz_t_46, hz_t_47, hz_t_48, hz_t_50, hz_t_57, hz_t_58, hz_t_60, hz_t_61, hz_t_63, hz_t_65, hz_t_90, hz_t_91, hz_t_92, hz_t_93, hz_t_97, hz_t_104, hz_t_108, hz_t_120, hz_t_122, hz_t_126, hz_t_950, hz_t_1000, hz_t_1040, hz_t_1080, hz_t_2000, hz_t_2001, hz_t_2150, hz_t_2600, hz_t_4096, kS_1, kA_1, kQ_1, mS_1, mA_1, kS_2, kQ_21, mS_2, upd_ap, mA_2, kA_21, kA_22, kQ_22, Nat.reduceEqDiff, ↓reduceIte, Classical.not_not, and_self, and_true, true_and]
      split at h
      · cases h
        rename_i he
        refine ⟨by omega, fun _ => ⟨by omega, ?_⟩, fun q => absurd he q⟩
        exact hz_iret B rfl ⟨rfl, rfl, rfl⟩ (Nat.le_refl _) (Nat.le_refl _) d_M_looked_28
      · rename_i he
        refine ⟨by omega, fun q => absurd q he, fun _ => ⟨by omega, ?_⟩⟩
        exact lp_M_looked B f _ h
    · cases h
set_option maxHeartbeats 2000000 in
set_option maxRecDepth 20000 in
theorem k_M_looked {l : Launch} {G : hz_G} {κ : zK} {μ : zM} {ω : Nat → Int64} {D : hz_H} {n : Nat} {x y kf : Int32} {f : Nat} (h : m_look μ x f y = some kf) : hz_M lw_tbl zAO zCl zKT l y_M_looked c_M_looked 4 (some .int) (zR 1) G [.ref 15, .int x, .int y] (zH κ μ ω D) n (fun r h' n' => r = some (.int (μ.2 35 kf.toInt.toNat)) ∧ h' = zH κ μ ω D ∧ n' = n) := by
  refine hz_body (by decide) (by simp [Value.category]) (by simp) ?_
  intro p e s m args below meth c B
  refine hz_go B (ft_M B rfl) (cn_M B rfl) 60 [2] ?_
  show q_M_looked _ 60 0 [some (.ref 15), some (.int x), some (.int y), none] [] _
  simp only [↓e_M_looked_0, ↓e_M_looked_1, ↓e_M_looked_2, ↓e_M_looked_2n, ↓e_M_looked_3, ↓e_M_looked_6, ↓e_M_looked_7, ↓e_M_looked_8, ↓e_M_looked_9, ↓e_M_looked_12, ↓e_M_looked_12n, ↓e_M_looked_13, ↓e_M_looked_16, ↓e_M_looked_17, ↓e_M_looked_18, ↓e_M_looked_19, ↓e_M_looked_22, ↓e_M_looked_22n, ↓e_M_looked_23, ↓e_M_looked_26, ↓e_M_looked_27, ↓e_M_looked_28, ↓rd_15_0, ↓wr_15_0, ↓rd_15_1, ↓wr_15_1, ↓rd_15_2, ↓rd_15_3, ↓wr_15_3, ↓rd_15_4, ↓rd_15_5, ↓rd_15_6, ↓rd_15_7, ↓rd_15_8, ↓rd_15_9, ↓rd_15_10, ↓rd_15_11, ↓rd_15_12, ↓wr_15_12, ↓rd_15_13, ↓wr_15_13, ↓rd_15_14, ↓rd_15_15, ↓rd_15_16, ↓rd_15_17, ↓wr_15_17, ↓rd_15_18, ↓rd_15_19, ↓rd_15_20, ↓rd_15_21, ↓rd_15_22, ↓rd_15_23, ↓wr_15_23, ↓rd_15_24, ↓rd_15_25, ↓wr_15_25, ↓rd_15_26, ↓rd_15_27, ↓rd_15_28, ↓rd_15_29, ↓wr_15_29, ↓rd_15_30, ↓rd_15_31, ↓rd_15_32, ↓wr_15_32, ↓rd_15_33, ↓wr_15_33, ↓rd_15_34, ↓wr_15_34, ↓rd_15_35, ↓wr_15_35, ↓rd_15_36, ↓wr_15_36, ↓rd_15_37, ↓wr_15_37, ↓rd_15_38, ↓wr_15_38, ↓ea_16, ↓es_16, ↓ea_17, ↓es_17, ↓ea_18, ↓es_18, ↓ea_19, ↓es_19, ↓ea_20, ↓es_20, ↓ea_21, ↓es_21, ↓ea_22, ↓es_22, ↓ea_23, ↓es_23, ↓ea_24, ↓es_24, ↓ea_25, ↓es_25, ↓ea_26, ↓es_26, ↓ea_27, ↓es_27, ↓ea_28, ↓es_28, ↓ea_29, ↓es_29, ↓ea_30, ↓es_30, ↓ea_31, ↓es_31, ↓ea_32, ↓es_32, ↓ea_33, ↓es_33, ↓ea_34, ↓es_34, ↓ea_35, ↓es_35, ↓ea_36, ↓es_36, ↓ea_37, ↓es_37, ↓ea_38, ↓es_38]
  exact lp_M_looked B f y h
/-- the node behind so many expressions -/
def m_beh (μ : zM) : Nat → Int32 → Int32 → Option Int32
  | 0, _, _ => none
  | f + 1, a, k => if 0 < a.toInt then (if 0 ≤ k.toInt ∧ k.toInt < 1080 then m_beh μ f (a - hz_n 1 + m_below μ k.toInt.toNat) (k + hz_n 1) else none) else some k
set_option maxHeartbeats 2000000 in
set_option maxRecDepth 20000 in
theorem lp_M_behind {l : Launch} {G : hz_G} {κ : zK} {μ : zM} {ω : Nat → Int64} {D : hz_H} {n : Nat} {p : Program} {e : Env} {s : State} {m : MethodId} {args : Array Value} {below : List Frame} {meth : Method} {c : Code} (B : hz_B lw_tbl zAO zCl zKT G y_M_behind c_M_behind 4 (some .int) p s m args meth c) {x kf : Int32} : ∀ (f : Nat) (a k : Int32), m_beh μ f a k = some kf → hz_g zCl G p l e (zR 2) s m args below meth c 4 (MQ below (hz_Q zCl G (fun r h' n' => r = some (.int kf) ∧ h' = zH κ μ ω D ∧ n' = n)) args s 0 0 (fun q => G.2.2.size ≤ q)) n 0 0 4 [some (.ref 15), some (.int x), some (.int a), some (.int k)] [] (zH κ μ ω D)
  | 0, a, k, h => by simp [m_beh] at h
  | f + 1, a, k, h => by
    unfold m_beh at h
    split at h
    · rename_i ha
      split at h
      · rename_i hb
        refine hz_go B (ft_M B rfl) (cn_M B rfl) 60 [4] ?_
        show q_M_behind _ 60 4 _ _ _
        simp only [↓e_M_behind_0, ↓e_M_behind_1, ↓e_M_behind_2, ↓e_M_behind_3, ↓e_M_behind_4, ↓e_M_behind_5, ↓e_M_behind_8, ↓e_M_behind_9, ↓e_M_behind_10, ↓e_M_behind_11, ↓e_M_behind_11n, ↓e_M_behind_12, ↓e_M_behind_13, ↓e_M_behind_16, ↓e_M_behind_17, ↓e_M_behind_18, ↓e_M_behind_21, ↓e_M_behind_24, ↓e_M_behind_25, ↓rd_15_0, ↓wr_15_0, ↓rd_15_1, ↓wr_15_1, ↓rd_15_2, ↓rd_15_3, ↓wr_15_3, ↓rd_15_4, ↓rd_15_5, ↓rd_15_6, ↓rd_15_7, ↓rd_15_8, ↓rd_15_9, ↓rd_15_10, ↓rd_15_11, ↓rd_15_12, ↓wr_15_12, ↓rd_15_13, ↓wr_15_13, ↓rd_15_14, ↓rd_15_15, ↓rd_15_16, ↓rd_15_17, ↓wr_15_17, ↓rd_15_18, ↓rd_15_19, ↓rd_15_20, ↓rd_15_21, ↓rd_15_22, ↓rd_15_23, ↓wr_15_23, ↓rd_15_24, ↓rd_15_25, ↓wr_15_25, ↓rd_15_26, ↓rd_15_27, ↓rd_15_28, ↓rd_15_29, ↓wr_15_29, ↓rd_15_30, ↓rd_15_31, ↓rd_15_32, ↓wr_15_32, ↓rd_15_33, ↓wr_15_33, ↓rd_15_34, ↓wr_15_34, ↓rd_15_35, ↓wr_15_35, ↓rd_15_36, ↓wr_15_36, ↓rd_15_37, ↓wr_15_37, ↓rd_15_38, ↓wr_15_38, ↓ea_16, ↓es_16, ↓ea_17, ↓es_17, ↓ea_18, ↓es_18, ↓ea_19, ↓es_19, ↓ea_20, ↓es_20, ↓ea_21, ↓es_21, ↓ea_22, ↓es_22, ↓ea_23, ↓es_23, ↓ea_24, ↓es_24, ↓ea_25, ↓es_25, ↓ea_26, ↓es_26, ↓ea_27, ↓es_27, ↓ea_28, ↓es_28, ↓ea_29, ↓es_29, ↓ea_30, ↓es_30, ↓ea_31, ↓es_31, ↓ea_32, ↓es_32, ↓ea_33, ↓es_33, ↓ea_34, ↓es_34, ↓ea_35, ↓es_35, ↓ea_36, ↓es_36, ↓ea_37, ↓es_37, ↓ea_38, ↓es_38]
        try simp only [hz_t_m100, hz_t_m30, hz_t_m20, hz_t_m5, hz_t_m4, hz_t_m3, hz_t_m2, hz_t_m1, hz_t_0, hz_t_1, hz_t_2, hz_t_3, hz_t_4, hz_t_5, hz_t_6, hz_t_7, hz_t_8, hz_t_9, hz_t_10, hz_t_15, hz_t_26, hz_t_27, hz_t_32, hz_t_36, hz_t_40, hz_t_41, hz_t_42, hz_t_43, hz_t_44, hz_t_45, hz_t_46, hz_t_47, hz_t_48, hz_t_50, hz_t_57, hz_t_58, hz_t_60, hz_t_61, hz_t_63, hz_t_65, hz_t_90, hz_t_91, hz_t_92, hz_t_93, hz_t_97, hz_t_104, hz_t_108, hz_t_120, hz_t_122, hz_t_126, hz_t_950, hz_t_1000, hz_t_1040, hz_t_1080, hz_t_2000, hz_t_2001, hz_t_2150, hz_t_2600, hz_t_4096, kS_1, kA_1, kQ_1, mS_1, mA_1, kS_2, kQ_21, mS_2, upd_ap, mA_2, kA_21, kA_22, kQ_22, Nat.reduceEqDiff, ↓reduceIte, Classical.not_not, and_self, and_true, true_and]
        refine ⟨fun q => absurd ha (by omega), fun _ => ?_⟩
        refine zcV B rfl cb_M_119 im_M_below se_M_below (k_M_below hb) (by decide) (by decide) rfl rfl rfl (by simp [Value.category]) rfl d_M_behind_13 (zki ?_)
        refine hz_go B (ft_M B rfl) (cn_M B rfl) 60 [4] ?_
        show q_M_behind _ 60 16 _ _ _
        simp only [↓e_M_behind_0, ↓e_M_behind_1, ↓e_M_behind_2, ↓e_M_behind_3, ↓e_M_behind_4, ↓e_M_behind_5, ↓e_M_behind_8, ↓e_M_behind_9, ↓e_M_behind_10, ↓e_M_behind_11, ↓e_M_behind_11n, ↓e_M_behind_12, ↓e_M_behind_13, ↓e_M_behind_16, ↓e_M_behind_17, ↓e_M_behind_18, ↓e_M_behind_21, ↓e_M_behind_24, ↓e_M_behind_25, ↓rd_15_0, ↓wr_15_0, ↓rd_15_1, ↓wr_15_1, ↓rd_15_2, ↓rd_15_3, ↓wr_15_3, ↓rd_15_4, ↓rd_15_5, ↓rd_15_6, ↓rd_15_7, ↓rd_15_8, ↓rd_15_9, ↓rd_15_10, ↓rd_15_11, ↓rd_15_12, ↓wr_15_12, ↓rd_15_13, ↓wr_15_13, ↓rd_15_14, ↓rd_15_15, ↓rd_15_16, ↓rd_15_17, ↓wr_15_17, ↓rd_15_18, ↓rd_15_19, ↓rd_15_20, ↓rd_15_21, ↓rd_15_22, ↓rd_15_23, ↓wr_15_23, ↓rd_15_24, ↓rd_15_25, ↓wr_15_25, ↓rd_15_26, ↓rd_15_27, ↓rd_15_28, ↓rd_15_29, ↓wr_15_29, ↓rd_15_30, ↓rd_15_31, ↓rd_15_32, ↓wr_15_32, ↓rd_15_33, ↓wr_15_33, ↓rd_15_34, ↓wr_15_34, ↓rd_15_35, ↓wr_15_35, ↓rd_15_36, ↓wr_15_36, ↓rd_15_37, ↓wr_15_37, ↓rd_15_38, ↓wr_15_38, ↓ea_16, ↓es_16, ↓ea_17, ↓es_17, ↓ea_18, ↓es_18, ↓ea_19, ↓es_19, ↓ea_20, ↓es_20, ↓ea_21, ↓es_21, ↓ea_22, ↓es_22, ↓ea_23, ↓es_23, ↓ea_24, ↓es_24, ↓ea_25, ↓es_25, ↓ea_26, ↓es_26, ↓ea_27, ↓es_27, ↓ea_28, ↓es_28, ↓ea_29, ↓es_29, ↓ea_30, ↓es_30, ↓ea_31, ↓es_31, ↓ea_32, ↓es_32, ↓ea_33, ↓es_33, ↓ea_34, ↓es_34, ↓ea_35, ↓es_35, ↓ea_36, ↓es_36, ↓ea_37, ↓es_37, ↓ea_38, ↓es_38]
        try simp only [hz_t_m100, hz_t_m30, hz_t_m20, hz_t_m5, hz_t_m4, hz_t_m3, hz_t_m2, hz_t_m1, hz_t_0, hz_t_1, hz_t_2, hz_t_3, hz_t_4, hz_t_5, hz_t_6, hz_t_7, hz_t_8, hz_t_9, hz_t_10, hz_t_15, hz_t_26, hz_t_27, hz_t_32, hz_t_36, hz_t_40, hz_t_41, hz_t_42, hz_t_43, hz_t_44, hz_t_45, hz_t_46, hz_t_47, hz_t_48, hz_t_50, hz_t_57, hz_t_58, hz_t_60, hz_t_61, hz_t_63, hz_t_65, hz_t_90, hz_t_91, hz_t_92, hz_t_93, hz_t_97, hz_t_104, hz_t_108, hz_t_120, hz_t_122, hz_t_126, hz_t_950, hz_t_1000, hz_t_1040, hz_t_1080, hz_t_2000, hz_t_2001, hz_t_2150, hz_t_2600, hz_t_4096, kS_1, kA_1, kQ_1, mS_1, mA_1, kS_2, kQ_21, mS_2, upd_ap, mA_2, kA_21, kA_22, kQ_22, Nat.reduceEqDiff, ↓reduceIte, Classical.not_not, and_self, and_true, true_and]
        exact lp_M_behind B f _ _ h
      · cases h
    · cases h
      rename_i ha
      refine hz_go B (ft_M B rfl) (cn_M B rfl) 60 [4] ?_
      show q_M_behind _ 60 4 _ _ _
      simp only [↓e_M_behind_0, ↓e_M_behind_1, ↓e_M_behind_2, ↓e_M_behind_3, ↓e_M_behind_4, ↓e_M_behind_5, ↓e_M_behind_8, ↓e_M_behind_9, ↓e_M_behind_10, ↓e_M_behind_11, ↓e_M_behind_11n, ↓e_M_behind_12, ↓e_M_behind_13, ↓e_M_behind_16, ↓e_M_behind_17, ↓e_M_behind_18, ↓e_M_behind_21, ↓e_M_behind_24, ↓e_M_behind_25, ↓rd_15_0, ↓wr_15_0, ↓rd_15_1, ↓wr_15_1, ↓rd_15_2, ↓rd_15_3, ↓wr_15_3, ↓rd_15_4, ↓rd_15_5, ↓rd_15_6, ↓rd_15_7, ↓rd_15_8, ↓rd_15_9, ↓rd_15_10, ↓rd_15_11, ↓rd_15_12, ↓wr_15_12, ↓rd_15_13, ↓wr_15_13, ↓rd_15_14, ↓rd_15_15, ↓rd_15_16, ↓rd_15_17, ↓wr_15_17, ↓rd_15_18, ↓rd_15_19, ↓rd_15_20, ↓rd_15_21, ↓rd_15_22, ↓rd_15_23, ↓wr_15_23, ↓rd_15_24, ↓rd_15_25, ↓wr_15_25, ↓rd_15_26, ↓rd_15_27, ↓rd_15_28, ↓rd_15_29, ↓wr_15_29, ↓rd_15_30, ↓rd_15_31, ↓rd_15_32, ↓wr_15_32, ↓rd_15_33, ↓wr_15_33, ↓rd_15_34, ↓wr_15_34, ↓rd_15_35, ↓wr_15_35, ↓rd_15_36, ↓wr_15_36, ↓rd_15_37, ↓wr_15_37, ↓rd_15_38, ↓wr_15_38, ↓ea_16, ↓es_16, ↓ea_17, ↓es_17, ↓ea_18, ↓es_18, ↓ea_19, ↓es_19, ↓ea_20, ↓es_20, ↓ea_21, ↓es_21, ↓ea_22, ↓es_22, ↓ea_23, ↓es_23, ↓ea_24, ↓es_24, ↓ea_25, ↓es_25, ↓ea_26, ↓es_26, ↓ea_27, ↓es_27, ↓ea_28, ↓es_28, ↓ea_29, ↓es_29, ↓ea_30, ↓es_30, ↓ea_31, ↓es_31, ↓ea_32, ↓es_32, ↓ea_33, ↓es_33, ↓ea_34, ↓es_34, ↓ea_35, ↓es_35, ↓ea_36, ↓es_36, ↓ea_37, ↓es_37, ↓ea_38, ↓es_38]
      try simp only [hz_t_m100, hz_t_m30, hz_t_m20, hz_t_m5, hz_t_m4, hz_t_m3, hz_t_m2, hz_t_m1, hz_t_0, hz_t_1, hz_t_2, hz_t_3, hz_t_4, hz_t_5, hz_t_6, hz_t_7, hz_t_8, hz_t_9, hz_t_10, hz_t_15, hz_t_26, hz_t_27, hz_t_32, hz_t_36, hz_t_40, hz_t_41, hz_t_42, hz_t_43, hz_t_44, hz_t_45, hz_t_46, hz_t_47, hz_t_48, hz_t_50, hz_t_57, hz_t_58, hz_t_60, hz_t_61, hz_t_63, hz_t_65, hz_t_90, hz_t_91, hz_t_92, hz_t_93, hz_t_97, hz_t_104, hz_t_108, hz_t_120, hz_t_122, hz_t_126, hz_t_950, hz_t_1000, hz_t_1040, hz_t_1080, hz_t_2000, hz_t_2001, hz_t_2150, hz_t_2600, hz_t_4096, kS_1, kA_1, kQ_1, mS_1, mA_1, kS_2, kQ_21, mS_2, upd_ap, mA_2, kA_21, kA_22, kQ_22, Nat.reduceEqDiff, ↓reduceIte, Classical.not_not, and_self, and_true, true_and]
      refine ⟨fun _ => ?_, fun q => absurd (by omega) q⟩
      exact hz_iret B rfl ⟨rfl, rfl, rfl⟩ (Nat.le_refl _) (Nat.le_refl _) d_M_behind_25
set_option maxHeartbeats 2000000 in
set_option maxRecDepth 20000 in
theorem k_M_behind {l : Launch} {G : hz_G} {κ : zK} {μ : zM} {ω : Nat → Int64} {D : hz_H} {n : Nat} {x kf : Int32} {f : Nat} (h : m_beh μ f (hz_n 1) x = some kf) : hz_M lw_tbl zAO zCl zKT l y_M_behind c_M_behind 4 (some .int) (zR 2) G [.ref 15, .int x] (zH κ μ ω D) n (fun r h' n' => r = some (.int kf) ∧ h' = zH κ μ ω D ∧ n' = n) := by
  refine hz_body (by decide) (by simp [Value.category]) (by simp) ?_
  intro p e s m args below meth c B
  refine hz_go B (ft_M B rfl) (cn_M B rfl) 60 [4] ?_
  show q_M_behind _ 60 0 [some (.ref 15), some (.int x), none, none] [] _
  simp only [↓e_M_behind_0, ↓e_M_behind_1, ↓e_M_behind_2, ↓e_M_behind_3, ↓e_M_behind_4, ↓e_M_behind_5, ↓e_M_behind_8, ↓e_M_behind_9, ↓e_M_behind_10, ↓e_M_behind_11, ↓e_M_behind_11n, ↓e_M_behind_12, ↓e_M_behind_13, ↓e_M_behind_16, ↓e_M_behind_17, ↓e_M_behind_18, ↓e_M_behind_21, ↓e_M_behind_24, ↓e_M_behind_25, ↓rd_15_0, ↓wr_15_0, ↓rd_15_1, ↓wr_15_1, ↓rd_15_2, ↓rd_15_3, ↓wr_15_3, ↓rd_15_4, ↓rd_15_5, ↓rd_15_6, ↓rd_15_7, ↓rd_15_8, ↓rd_15_9, ↓rd_15_10, ↓rd_15_11, ↓rd_15_12, ↓wr_15_12, ↓rd_15_13, ↓wr_15_13, ↓rd_15_14, ↓rd_15_15, ↓rd_15_16, ↓rd_15_17, ↓wr_15_17, ↓rd_15_18, ↓rd_15_19, ↓rd_15_20, ↓rd_15_21, ↓rd_15_22, ↓rd_15_23, ↓wr_15_23, ↓rd_15_24, ↓rd_15_25, ↓wr_15_25, ↓rd_15_26, ↓rd_15_27, ↓rd_15_28, ↓rd_15_29, ↓wr_15_29, ↓rd_15_30, ↓rd_15_31, ↓rd_15_32, ↓wr_15_32, ↓rd_15_33, ↓wr_15_33, ↓rd_15_34, ↓wr_15_34, ↓rd_15_35, ↓wr_15_35, ↓rd_15_36, ↓wr_15_36, ↓rd_15_37, ↓wr_15_37, ↓rd_15_38, ↓wr_15_38, ↓ea_16, ↓es_16, ↓ea_17, ↓es_17, ↓ea_18, ↓es_18, ↓ea_19, ↓es_19, ↓ea_20, ↓es_20, ↓ea_21, ↓es_21, ↓ea_22, ↓es_22, ↓ea_23, ↓es_23, ↓ea_24, ↓es_24, ↓ea_25, ↓es_25, ↓ea_26, ↓es_26, ↓ea_27, ↓es_27, ↓ea_28, ↓es_28, ↓ea_29, ↓es_29, ↓ea_30, ↓es_30, ↓ea_31, ↓es_31, ↓ea_32, ↓es_32, ↓ea_33, ↓es_33, ↓ea_34, ↓es_34, ↓ea_35, ↓es_35, ↓ea_36, ↓es_36, ↓ea_37, ↓es_37, ↓ea_38, ↓es_38]
  exact lp_M_behind B f _ _ h
/-- the first node behind k expressions from c on -/
def m_skip (μ : zM) (F : Nat) : Nat → Int32 → Option Int32
  | 0, c => some c
  | k + 1, c => (m_beh μ F (hz_n 1) c).bind (m_skip μ F k)
set_option maxHeartbeats 2000000 in
set_option maxRecDepth 20000 in
theorem lp_M_child {l : Launch} {G : hz_G} {κ : zK} {μ : zM} {ω : Nat → Int64} {D : hz_H} {n : Nat} {p : Program} {e : Env} {s : State} {m : MethodId} {args : Array Value} {below : List Frame} {meth : Method} {c : Code} (B : hz_B lw_tbl zAO zCl zKT G y_M_child c_M_child 5 (some .int) p s m args meth c) {x y kf : Int32} {F : Nat} : ∀ (k : Nat) (a j : Int32), 0 ≤ j.toInt → y.toInt = j.toInt + k → y.toInt < 100 → m_skip μ F k a = some kf → hz_g zCl G p l e (zR 3) s m args below meth c 5 (MQ below (hz_Q zCl G (fun r h' n' => r = some (.int kf) ∧ h' = zH κ μ ω D ∧ n' = n)) args s 0 0 (fun q => G.2.2.size ≤ q)) n 0 0 7 [some (.ref 15), some (.int x), some (.int y), some (.int a), some (.int j)] [] (zH κ μ ω D)
  | 0, a, j, h0, h1, h2, h => by
    cases h
    refine hz_go B (ft_M B rfl) (cn_M B rfl) 60 [7] ?_
    show q_M_child _ 60 7 _ _ _
    simp only [↓e_M_child_0, ↓e_M_child_1, ↓e_M_child_2, ↓e_M_child_3, ↓e_M_child_4, ↓e_M_child_5, ↓e_M_child_7, ↓e_M_child_9, ↓e_M_child_10, ↓e_M_child_13, ↓e_M_child_13n, ↓e_M_child_14, ↓e_M_child_15, ↓e_M_child_18, ↓e_M_child_19, ↓e_M_child_22, ↓e_M_child_25, ↓e_M_child_26, ↓rd_15_0, ↓wr_15_0, ↓rd_15_1, ↓wr_15_1, ↓rd_15_2, ↓rd_15_3, ↓wr_15_3, ↓rd_15_4, ↓rd_15_5, ↓rd_15_6, ↓rd_15_7, ↓rd_15_8, ↓rd_15_9, ↓rd_15_10, ↓rd_15_11, ↓rd_15_12, ↓wr_15_12, ↓rd_15_13, ↓wr_15_13, ↓rd_15_14, ↓rd_15_15, ↓rd_15_16, ↓rd_15_17, ↓wr_15_17, ↓rd_15_18, ↓rd_15_19, ↓rd_15_20, ↓rd_15_21, ↓rd_15_22, ↓rd_15_23, ↓wr_15_23, ↓rd_15_24, ↓rd_15_25, ↓wr_15_25, ↓rd_15_26, ↓rd_15_27, ↓rd_15_28, ↓rd_15_29, ↓wr_15_29, ↓rd_15_30, ↓rd_15_31, ↓rd_15_32, ↓wr_15_32, ↓rd_15_33, ↓wr_15_33, ↓rd_15_34, ↓wr_15_34, ↓rd_15_35, ↓wr_15_35, ↓rd_15_36, ↓wr_15_36, ↓rd_15_37, ↓wr_15_37, ↓rd_15_38, ↓wr_15_38, ↓ea_16, ↓es_16, ↓ea_17, ↓es_17, ↓ea_18, ↓es_18, ↓ea_19, ↓es_19, ↓ea_20, ↓es_20, ↓ea_21, ↓es_21, ↓ea_22, ↓es_22, ↓ea_23, ↓es_23, ↓ea_24, ↓es_24, ↓ea_25, ↓es_25, ↓ea_26, ↓es_26, ↓ea_27, ↓es_27, ↓ea_28, ↓es_28, ↓ea_29, ↓es_29, ↓ea_30, ↓es_30, ↓ea_31, ↓es_31, ↓ea_32, ↓es_32, ↓ea_33, ↓es_33, ↓ea_34, ↓es_34, ↓ea_35, ↓es_35, ↓ea_36, ↓es_36, ↓ea_37, ↓es_37, ↓ea_38, ↓es_38]
    try simp only [hz_t_m100, hz_t_m30, hz_t_m20, hz_t_m5, hz_t_m4, hz_t_m3, hz_t_m2, hz_t_m1, hz_t_0, hz_t_1, hz_t_2, hz_t_3, hz_t_4, hz_t_5, hz_t_6, hz_t_7, hz_t_8, hz_t_9, hz_t_10, hz_t_15, hz_t_26, hz_t_27, hz_t_32, hz_t_36, hz_t_40, hz_t_41, hz_t_42, hz_t_43, hz_t_44, hz_t_45, hz_t_46, hz_t_47, hz_t_48, hz_t_50, hz_t_57, hz_t_58, hz_t_60, hz_t_61, hz_t_63, hz_t_65, hz_t_90, hz_t_91, hz_t_92, hz_t_93, hz_t_97, hz_t_104, hz_t_108, hz_t_120, hz_t_122, hz_t_126, hz_t_950, hz_t_1000, hz_t_1040, hz_t_1080, hz_t_2000, hz_t_2001, hz_t_2150, hz_t_2600, hz_t_4096, kS_1, kA_1, kQ_1, mS_1, mA_1, kS_2, kQ_21, mS_2, upd_ap, mA_2, kA_21, kA_22, kQ_22, Nat.reduceEqDiff, ↓reduceIte, Classical.not_not, and_self, and_true, true_and]
    refine ⟨fun _ => ?_, fun q => absurd (by omega) q⟩
    exact hz_iret B rfl ⟨rfl, rfl, rfl⟩ (Nat.le_refl _) (Nat.le_refl _) d_M_child_26
  | k + 1, a, j, h0, h1, h2, h => by
    unfold m_skip at h
    obtain ⟨b, hb, h⟩ := Option.bind_eq_some_iff.mp h
    refine hz_go B (ft_M B rfl) (cn_M B rfl) 60 [7] ?_
    show q_M_child _ 60 7 _ _ _
    simp only [↓e_M_child_0, ↓e_M_child_1, ↓e_M_child_2, ↓e_M_child_3, ↓e_M_child_4, ↓e_M_child_5, ↓e_M_child_7, ↓e_M_child_9, ↓e_M_child_10, ↓e_M_child_13, ↓e_M_child_13n, ↓e_M_child_14, ↓e_M_child_15, ↓e_M_child_18, ↓e_M_child_19, ↓e_M_child_22, ↓e_M_child_25, ↓e_M_child_26, ↓rd_15_0, ↓wr_15_0, ↓rd_15_1, ↓wr_15_1, ↓rd_15_2, ↓rd_15_3, ↓wr_15_3, ↓rd_15_4, ↓rd_15_5, ↓rd_15_6, ↓rd_15_7, ↓rd_15_8, ↓rd_15_9, ↓rd_15_10, ↓rd_15_11, ↓rd_15_12, ↓wr_15_12, ↓rd_15_13, ↓wr_15_13, ↓rd_15_14, ↓rd_15_15, ↓rd_15_16, ↓rd_15_17, ↓wr_15_17, ↓rd_15_18, ↓rd_15_19, ↓rd_15_20, ↓rd_15_21, ↓rd_15_22, ↓rd_15_23, ↓wr_15_23, ↓rd_15_24, ↓rd_15_25, ↓wr_15_25, ↓rd_15_26, ↓rd_15_27, ↓rd_15_28, ↓rd_15_29, ↓wr_15_29, ↓rd_15_30, ↓rd_15_31, ↓rd_15_32, ↓wr_15_32, ↓rd_15_33, ↓wr_15_33, ↓rd_15_34, ↓wr_15_34, ↓rd_15_35, ↓wr_15_35, ↓rd_15_36, ↓wr_15_36, ↓rd_15_37, ↓wr_15_37, ↓rd_15_38, ↓wr_15_38, ↓ea_16, ↓es_16, ↓ea_17, ↓es_17, ↓ea_18, ↓es_18, ↓ea_19, ↓es_19, ↓ea_20, ↓es_20, ↓ea_21, ↓es_21, ↓ea_22, ↓es_22, ↓ea_23, ↓es_23, ↓ea_24, ↓es_24, ↓ea_25, ↓es_25, ↓ea_26, ↓es_26, ↓ea_27, ↓es_27, ↓ea_28, ↓es_28, ↓ea_29, ↓es_29, ↓ea_30, ↓es_30, ↓ea_31, ↓es_31, ↓ea_32, ↓es_32, ↓ea_33, ↓es_33, ↓ea_34, ↓es_34, ↓ea_35, ↓es_35, ↓ea_36, ↓es_36, ↓ea_37, ↓es_37, ↓ea_38, ↓es_38]
    try simp only [hz_t_m100, hz_t_m30, hz_t_m20, hz_t_m5, hz_t_m4, hz_t_m3, hz_t_m2, hz_t_m1, hz_t_0, hz_t_1, hz_t_2, hz_t_3, hz_t_4, hz_t_5, hz_t_6, hz_t_7, hz_t_8, hz_t_9, hz_t_10, hz_t_15, hz_t_26, hz_t_27, hz_t_32, hz_t_36, hz_t_40, hz_t_41, hz_t_42, hz_t_43, hz_t_44, hz_t_45, hz_t_46, hz_t_47, hz_t_48, hz_t_50, hz_t_57, hz_t_58, hz_t_60, hz_t_61, hz_t_63, hz_t_65, hz_t_90, hz_t_91, hz_t_92, hz_t_93, hz_t_97, hz_t_104, hz_t_108, hz_t_120, hz_t_122, hz_t_126, hz_t_950, hz_t_1000, hz_t_1040, hz_t_1080, hz_t_2000, hz_t_2001, hz_t_2150, hz_t_2600, hz_t_4096, kS_1, kA_1, kQ_1, mS_1, mA_1, kS_2, kQ_21, mS_2, upd_ap, mA_2, kA_21, kA_22, kQ_22, Nat.reduceEqDiff, ↓reduceIte, Classical.not_not, and_self, and_true, true_and]
    refine ⟨fun q => absurd q (by omega), fun _ => ?_⟩
    refine zcV B rfl cb_M_123 im_M_behind se_M_behind (k_M_behind hb) (by decide) (by decide) rfl rfl rfl (by simp [Value.category]) rfl d_M_child_15 (zki ?_)
    refine hz_go B (ft_M B rfl) (cn_M B rfl) 60 [7] ?_
    show q_M_child _ 60 18 _ _ _
    simp only [↓e_M_child_0, ↓e_M_child_1, ↓e_M_child_2, ↓e_M_child_3, ↓e_M_child_4, ↓e_M_child_5, ↓e_M_child_7, ↓e_M_child_9, ↓e_M_child_10, ↓e_M_child_13, ↓e_M_child_13n, ↓e_M_child_14, ↓e_M_child_15, ↓e_M_child_18, ↓e_M_child_19, ↓e_M_child_22, ↓e_M_child_25, ↓e_M_child_26, ↓rd_15_0, ↓wr_15_0, ↓rd_15_1, ↓wr_15_1, ↓rd_15_2, ↓rd_15_3, ↓wr_15_3, ↓rd_15_4, ↓rd_15_5, ↓rd_15_6, ↓rd_15_7, ↓rd_15_8, ↓rd_15_9, ↓rd_15_10, ↓rd_15_11, ↓rd_15_12, ↓wr_15_12, ↓rd_15_13, ↓wr_15_13, ↓rd_15_14, ↓rd_15_15, ↓rd_15_16, ↓rd_15_17, ↓wr_15_17, ↓rd_15_18, ↓rd_15_19, ↓rd_15_20, ↓rd_15_21, ↓rd_15_22, ↓rd_15_23, ↓wr_15_23, ↓rd_15_24, ↓rd_15_25, ↓wr_15_25, ↓rd_15_26, ↓rd_15_27, ↓rd_15_28, ↓rd_15_29, ↓wr_15_29, ↓rd_15_30, ↓rd_15_31, ↓rd_15_32, ↓wr_15_32, ↓rd_15_33, ↓wr_15_33, ↓rd_15_34, ↓wr_15_34, ↓rd_15_35, ↓wr_15_35, ↓rd_15_36, ↓wr_15_36, ↓rd_15_37, ↓wr_15_37, ↓rd_15_38, ↓wr_15_38, ↓ea_16, ↓es_16, ↓ea_17, ↓es_17, ↓ea_18, ↓es_18, ↓ea_19, ↓es_19, ↓ea_20, ↓es_20, ↓ea_21, ↓es_21, ↓ea_22, ↓es_22, ↓ea_23, ↓es_23, ↓ea_24, ↓es_24, ↓ea_25, ↓es_25, ↓ea_26, ↓es_26, ↓ea_27, ↓es_27, ↓ea_28, ↓es_28, ↓ea_29, ↓es_29, ↓ea_30, ↓es_30, ↓ea_31, ↓es_31, ↓ea_32, ↓es_32, ↓ea_33, ↓es_33, ↓ea_34, ↓es_34, ↓ea_35, ↓es_35, ↓ea_36, ↓es_36, ↓ea_37, ↓es_37, ↓ea_38, ↓es_38]
    try simp only [hz_t_m100, hz_t_m30, hz_t_m20, hz_t_m5, hz_t_m4, hz_t_m3, hz_t_m2, hz_t_m1, hz_t_0, hz_t_1, hz_t_2, hz_t_3, hz_t_4, hz_t_5, hz_t_6, hz_t_7, hz_t_8, hz_t_9, hz_t_10, hz_t_15, hz_t_26, hz_t_27, hz_t_32, hz_t_36, hz_t_40, hz_t_41, hz_t_42, hz_t_43, hz_t_44, hz_t_45, hz_t_46, hz_t_47, hz_t_48, hz_t_50, hz_t_57, hz_t_58, hz_t_60, hz_t_61, hz_t_63, hz_t_65, hz_t_90, hz_t_91, hz_t_92, hz_t_93, hz_t_97, hz_t_104, hz_t_108, hz_t_120, hz_t_122, hz_t_126, hz_t_950, hz_t_1000, hz_t_1040, hz_t_1080, hz_t_2000, hz_t_2001, hz_t_2150, hz_t_2600, hz_t_4096, kS_1, kA_1, kQ_1, mS_1, mA_1, kS_2, kQ_21, mS_2, upd_ap, mA_2, kA_21, kA_22, kQ_22, Nat.reduceEqDiff, ↓reduceIte, Classical.not_not, and_self, and_true, true_and]
    have e1 : (j + hz_n 1).toInt = j.toInt + 1 := hz_add1 (by omega) (by omega)
    exact lp_M_child B k b _ (by omega) (by omega) h2 h
set_option maxHeartbeats 2000000 in
set_option maxRecDepth 20000 in
theorem k_M_child {l : Launch} {G : hz_G} {κ : zK} {μ : zM} {ω : Nat → Int64} {D : hz_H} {n : Nat} {x y kf : Int32} {F : Nat} (h0 : 0 ≤ y.toInt ∧ y.toInt < 100) (h : m_skip μ F y.toInt.toNat (x + hz_n 1) = some kf) : hz_M lw_tbl zAO zCl zKT l y_M_child c_M_child 5 (some .int) (zR 3) G [.ref 15, .int x, .int y] (zH κ μ ω D) n (fun r h' n' => r = some (.int kf) ∧ h' = zH κ μ ω D ∧ n' = n) := by
  refine hz_body (by decide) (by simp [Value.category]) (by simp) ?_
  intro p e s m args below meth c B
  refine hz_go B (ft_M B rfl) (cn_M B rfl) 60 [7] ?_
  show q_M_child _ 60 0 [some (.ref 15), some (.int x), some (.int y), none, none] [] _
  simp only [↓e_M_child_0, ↓e_M_child_1, ↓e_M_child_2, ↓e_M_child_3, ↓e_M_child_4, ↓e_M_child_5, ↓e_M_child_7, ↓e_M_child_9, ↓e_M_child_10, ↓e_M_child_13, ↓e_M_child_13n, ↓e_M_child_14, ↓e_M_child_15, ↓e_M_child_18, ↓e_M_child_19, ↓e_M_child_22, ↓e_M_child_25, ↓e_M_child_26, ↓rd_15_0, ↓wr_15_0, ↓rd_15_1, ↓wr_15_1, ↓rd_15_2, ↓rd_15_3, ↓wr_15_3, ↓rd_15_4, ↓rd_15_5, ↓rd_15_6, ↓rd_15_7, ↓rd_15_8, ↓rd_15_9, ↓rd_15_10, ↓rd_15_11, ↓rd_15_12, ↓wr_15_12, ↓rd_15_13, ↓wr_15_13, ↓rd_15_14, ↓rd_15_15, ↓rd_15_16, ↓rd_15_17, ↓wr_15_17, ↓rd_15_18, ↓rd_15_19, ↓rd_15_20, ↓rd_15_21, ↓rd_15_22, ↓rd_15_23, ↓wr_15_23, ↓rd_15_24, ↓rd_15_25, ↓wr_15_25, ↓rd_15_26, ↓rd_15_27, ↓rd_15_28, ↓rd_15_29, ↓wr_15_29, ↓rd_15_30, ↓rd_15_31, ↓rd_15_32, ↓wr_15_32, ↓rd_15_33, ↓wr_15_33, ↓rd_15_34, ↓wr_15_34, ↓rd_15_35, ↓wr_15_35, ↓rd_15_36, ↓wr_15_36, ↓rd_15_37, ↓wr_15_37, ↓rd_15_38, ↓wr_15_38, ↓ea_16, ↓es_16, ↓ea_17, ↓es_17, ↓ea_18, ↓es_18, ↓ea_19, ↓es_19, ↓ea_20, ↓es_20, ↓ea_21, ↓es_21, ↓ea_22, ↓es_22, ↓ea_23, ↓es_23, ↓ea_24, ↓es_24, ↓ea_25, ↓es_25, ↓ea_26, ↓es_26, ↓ea_27, ↓es_27, ↓ea_28, ↓es_28, ↓ea_29, ↓es_29, ↓ea_30, ↓es_30, ↓ea_31, ↓es_31, ↓ea_32, ↓es_32, ↓ea_33, ↓es_33, ↓ea_34, ↓es_34, ↓ea_35, ↓es_35, ↓ea_36, ↓es_36, ↓ea_37, ↓es_37, ↓ea_38, ↓es_38]
  exact lp_M_child B y.toInt.toNat _ _ (by rw [hz_t_0]; omega) (by rw [hz_t_0]; omega) h0.2 h
