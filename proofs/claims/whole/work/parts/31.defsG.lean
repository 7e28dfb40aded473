/-! The graph: what it reads of definitions. Printed by wip/g31.py. -/
/-- a definition: its length, signs, next parts, binders, number of parameters -/
abbrev zT : Type := Nat × (Nat → Int32) × (Nat → Int32) × (Nat → Int32) × Int32
def zDf (D : hz_H) (d : Nat) (T : zT) : Prop := 40 ≤ d ∧ ∃ s1 s2 s3 : Nat, 40 ≤ s1 ∧ 40 ≤ s2 ∧ 40 ≤ s3 ∧ D d = some (.inr (0, [.ref s1, .ref s2, .ref s3, .int T.2.2.2.2])) ∧ D s1 = some (.inl (0, T.1, hz_i T.2.1)) ∧ D s2 = some (.inl (1, T.1, hz_i T.2.2.1)) ∧ D s3 = some (.inl (1, T.1, hz_i T.2.2.2.1))
/-- the definitions that there are, by their numbers -/
def zE (D : hz_H) (E : Nat → Option zT) : Prop := ∀ (d : Nat) (T : zT), E d = some T → zDf D d T
theorem va_rf_s {d : Nat} : va_rf (some d) = .ref d := by rw [va_rf]
theorem va_rf_n : va_rf none = .null := by rw [va_rf]
section
variable {κ : zK} {μ : zM} {ω : Nat → Int64} {D : hz_H}
theorem zrd_at {d ci k : Nat} {fs : List Value} {v : Value} (h1 : 40 ≤ d) (h2 : D d = some (.inr (ci, fs))) (h3 : fs[k]? = some v) {K : Value → Prop} : hz_rd (zH κ μ ω D) d ci k K = K v := by
  unfold hz_rd
  rw [zH_D h1, h2]
  show hz_t (Nat.beq ci ci) (match fs[k]? with | some v => K v | none => False) = K v
  rw [h3, Nat.beq_refl]
  rfl
theorem zea_at {d t len : Nat} {f : Nat → Int32} {ty : FieldType} {ok : FieldType → Bool} (h1 : 40 ≤ d) (h2 : D d = some (.inl (t, len, hz_i f))) (h3 : zKT[t]? = some ty) (h4 : ok ty = true) {x : Int32} {K : Value → Prop} : hz_ea zKT ok (zH κ μ ω D) d x K = ((0 ≤ x.toInt ∧ x.toInt.toNat < len) ∧ K (.int (f x.toInt.toNat))) := by
  unfold hz_ea
  rw [zH_D h1, h2]
  show (match zKT[t]? with | some ty => hz_t (ok ty) _ | none => False) = _
  rw [h3]
  show hz_t (ok ty) _ = _
  rw [h4]
  rfl
theorem zal_at {d t len : Nat} {f : Nat → Value} {ty : FieldType} (h1 : 40 ≤ d) (h2 : D d = some (.inl (t, len, f))) (h3 : zKT[t]? = some ty) {K : Value → Prop} : hz_al zKT (zH κ μ ω D) d K = K (.int (hz_n len)) := by
  unfold hz_al
  rw [zH_D h1, h2]
  show (match zKT[t]? with | some _ => K (.int (hz_n len)) | none => False) = _
  rw [h3]
end
theorem zd_of {D : hz_H} {d : Nat} {T : zT} (h : zDf D d T) : ∃ s1 s2 s3 : Nat, (∀ (κ : zK) (μ : zM) (ω : Nat → Int64) (K : Value → Prop), hz_rd (zH κ μ ω D) d 0 0 K = K (.ref s1)) ∧ (∀ (κ : zK) (μ : zM) (ω : Nat → Int64) (K : Value → Prop), hz_rd (zH κ μ ω D) d 0 1 K = K (.ref s2)) ∧ (∀ (κ : zK) (μ : zM) (ω : Nat → Int64) (K : Value → Prop), hz_rd (zH κ μ ω D) d 0 2 K = K (.ref s3)) ∧ (∀ (κ : zK) (μ : zM) (ω : Nat → Int64) (K : Value → Prop), hz_rd (zH κ μ ω D) d 0 3 K = K (.int T.2.2.2.2)) ∧
    (∀ (κ : zK) (μ : zM) (ω : Nat → Int64) (x : Int32) (K : Value → Prop), hz_ea zKT hz_kC (zH κ μ ω D) s1 x K = ((0 ≤ x.toInt ∧ x.toInt.toNat < T.1) ∧ K (.int (T.2.1 x.toInt.toNat)))) ∧ (∀ (κ : zK) (μ : zM) (ω : Nat → Int64) (x : Int32) (K : Value → Prop), hz_ea zKT hz_kI (zH κ μ ω D) s2 x K = ((0 ≤ x.toInt ∧ x.toInt.toNat < T.1) ∧ K (.int (T.2.2.1 x.toInt.toNat)))) ∧ (∀ (κ : zK) (μ : zM) (ω : Nat → Int64) (x : Int32) (K : Value → Prop), hz_ea zKT hz_kI (zH κ μ ω D) s3 x K = ((0 ≤ x.toInt ∧ x.toInt.toNat < T.1) ∧ K (.int (T.2.2.2.1 x.toInt.toNat)))) ∧
    (∀ (κ : zK) (μ : zM) (ω : Nat → Int64) (K : Value → Prop), hz_al zKT (zH κ μ ω D) s1 K = K (.int (hz_n T.1))) := by
  obtain ⟨h0, s1, s2, s3, h1, h2, h3, e0, e1, e2, e3⟩ := h
  exact ⟨s1, s2, s3, fun _ _ _ _ => zrd_at h0 e0 rfl, fun _ _ _ _ => zrd_at h0 e0 rfl, fun _ _ _ _ => zrd_at h0 e0 rfl, fun _ _ _ _ => zrd_at h0 e0 rfl, fun _ _ _ _ _ => zea_at h1 e1 rfl rfl, fun _ _ _ _ _ => zea_at h2 e2 rfl rfl, fun _ _ _ _ _ => zea_at h3 e3 rfl rfl, fun _ _ _ _ => zal_at h1 e1 rfl⟩
noncomputable def g_parameterCount (κ : zK) (E : Nat → Option zT) (x : Int32) : Option Int32 := zgd (0 ≤ x.toInt ∧ x.toInt < 26) (match κ.2.2 3 x.toInt.toNat with
  | none => some (hz_n (-1))
  | some d => (E d).bind fun T => some T.2.2.2.2)
set_option maxHeartbeats 2000000 in
set_option maxRecDepth 20000 in
theorem k_G_parameterCount {l : Launch} {G : hz_G} {κ : zK} {μ : zM} {ω : Nat → Int64} {D : hz_H} {n : Nat} {x : Int32} {E : Nat → Option zT} {v : Int32} (hE : zE D E) (h : g_parameterCount κ E x = some v) : hz_M lw_tbl zAO zCl zKT l y_G_parameterCount c_G_parameterCount 3 (some .int) (zR 1) G [.ref 2, .int x] (zH κ μ ω D) n (fun r h' n' => r = some (.int v) ∧ h' = zH κ μ ω D ∧ n' = n) := by
  unfold g_parameterCount at h
  (repeat (first | ((with_reducible refine zgd_elim h ?_); clear h; intro _ h) | (rw [zgd_bind] at h) | (rw [Option.bind_some] at h) | (rw [if_pos] at h; rotate_left 1; (· omega)) | (rw [if_neg] at h; rotate_left 1; (· omega)) | (simp only [hz_t_m100, hz_t_m30, hz_t_m20, hz_t_m5, hz_t_m4, hz_t_m3, hz_t_m2, hz_t_m1, hz_t_0, hz_t_1, hz_t_2, hz_t_3, hz_t_4, hz_t_5, hz_t_6, hz_t_7, hz_t_8, hz_t_9, hz_t_10, hz_t_15, hz_t_26, hz_t_27, hz_t_32, hz_t_36, hz_t_40, hz_t_41, hz_t_42, hz_t_43, hz_t_44, hz_t_45, hz_t_46, hz_t_47, hz_t_48, hz_t_50, hz_t_57, hz_t_58, hz_t_60, hz_t_61, hz_t_63, hz_t_65, hz_t_90, hz_t_91, hz_t_92, hz_t_93, hz_t_97, hz_t_104, hz_t_108, hz_t_120, hz_t_122, hz_t_126, hz_t_950, hz_t_1000, hz_t_1040, hz_t_1080, hz_t_2000, hz_t_2001, hz_t_2150, hz_t_2600, hz_t_4096, kS_1, kA_1, kQ_1, mS_1, mA_1, kS_2, kQ_21, mS_2, upd_ap, mA_2, kA_21, kA_22, kQ_22, Nat.reduceEqDiff, Int.reduceToNat, ↓reduceIte, Classical.not_not, and_self, and_true, true_and, eq_self, not_true_eq_false, not_false_eq_true, false_implies, true_implies, implies_true, z_ite0] at h) | fail))
  cases hq : κ.2.2 3 x.toInt.toNat with
  | none =>
    rw [hq] at h
    dsimp only at h
    refine hz_body (by decide) (by simp [Value.category]) (by simp) ?_
    intro p e s m args below meth c B
    refine hz_go B (ft_G B rfl) (cn_G B rfl) 100 [] ?_
    show q_G_parameterCount _ 100 0 [some (.ref 2), some (.int x), none] [] _
    simp only [↓e_G_parameterCount_0, ↓e_G_parameterCount_0n, ↓e_G_parameterCount_1, ↓e_G_parameterCount_4, ↓e_G_parameterCount_5, ↓e_G_parameterCount_6, ↓e_G_parameterCount_6n, ↓e_G_parameterCount_7, ↓e_G_parameterCount_7n, ↓e_G_parameterCount_8, ↓e_G_parameterCount_8n, ↓e_G_parameterCount_11, ↓e_G_parameterCount_12, ↓e_G_parameterCount_15, ↓e_G_parameterCount_15n, ↓e_G_parameterCount_16, ↓e_G_parameterCount_19, ↓rd_0_0, ↓rd_0_1, ↓wr_0_1, ↓rd_0_2, ↓rd_0_3, ↓rd_2_0, ↓rd_2_1, ↓rd_2_2, ↓rd_2_3, ↓rd_2_4, ↓rd_2_5, ↓rd_2_6, ↓rd_2_7, ↓rd_2_8, ↓rd_2_9, ↓wr_2_9, ↓rd_2_10, ↓wr_2_10, ↓rd_2_11, ↓wr_2_11, ↓rd_2_12, ↓wr_2_12, ↓rd_2_13, ↓wr_2_13, ↓rd_12_0, ↓rd_12_1, ↓wr_12_1, ↓rd_12_2, ↓rd_12_3, ↓wr_12_3, ↓rd_12_4, ↓wr_12_4, ↓rd_12_5, ↓wr_12_5, ↓ea_1, ↓es_1, ↓ea_3, ↓ea_4, ↓ea_5, ↓es_5, ↓ea_6, ↓es_6, ↓ea_7, ↓es_7, ↓ea_8, ↓es_8, ↓ea_9, ↓es_9, ↓ea_10, ↓es_10, ↓ea_11, ↓es_11, ↓ea_13, ↓es_13, ↓ea_14, ↓es_14, hq, va_rf_n]
    try simp only [↓e_G_parameterCount_0, ↓e_G_parameterCount_0n, ↓e_G_parameterCount_1, ↓e_G_parameterCount_4, ↓e_G_parameterCount_5, ↓e_G_parameterCount_6, ↓e_G_parameterCount_6n, ↓e_G_parameterCount_7, ↓e_G_parameterCount_7n, ↓e_G_parameterCount_8, ↓e_G_parameterCount_8n, ↓e_G_parameterCount_11, ↓e_G_parameterCount_12, ↓e_G_parameterCount_15, ↓e_G_parameterCount_15n, ↓e_G_parameterCount_16, ↓e_G_parameterCount_19, ↓rd_0_0, ↓rd_0_1, ↓wr_0_1, ↓rd_0_2, ↓rd_0_3, ↓rd_2_0, ↓rd_2_1, ↓rd_2_2, ↓rd_2_3, ↓rd_2_4, ↓rd_2_5, ↓rd_2_6, ↓rd_2_7, ↓rd_2_8, ↓rd_2_9, ↓wr_2_9, ↓rd_2_10, ↓wr_2_10, ↓rd_2_11, ↓wr_2_11, ↓rd_2_12, ↓wr_2_12, ↓rd_2_13, ↓wr_2_13, ↓rd_12_0, ↓rd_12_1, ↓wr_12_1, ↓rd_12_2, ↓rd_12_3, ↓wr_12_3, ↓rd_12_4, ↓wr_12_4, ↓rd_12_5, ↓wr_12_5, ↓ea_1, ↓es_1, ↓ea_3, ↓ea_4, ↓ea_5, ↓es_5, ↓ea_6, ↓es_6, ↓ea_7, ↓es_7, ↓ea_8, ↓es_8, ↓ea_9, ↓es_9, ↓ea_10, ↓es_10, ↓ea_11, ↓es_11, ↓ea_13, ↓es_13, ↓ea_14, ↓es_14, hq, va_rf_n]
    try simp only [hz_t_m100, hz_t_m30, hz_t_m20, hz_t_m5, hz_t_m4, hz_t_m3, hz_t_m2, hz_t_m1, hz_t_0, hz_t_1, hz_t_2, hz_t_3, hz_t_4, hz_t_5, hz_t_6, hz_t_7, hz_t_8, hz_t_9, hz_t_10, hz_t_15, hz_t_26, hz_t_27, hz_t_32, hz_t_36, hz_t_40, hz_t_41, hz_t_42, hz_t_43, hz_t_44, hz_t_45, hz_t_46, hz_t_47, hz_t_48, hz_t_50, hz_t_57, hz_t_58, hz_t_60, hz_t_61, hz_t_63, hz_t_65, hz_t_90, hz_t_91, hz_t_92, hz_t_93, hz_t_97, hz_t_104, hz_t_108, hz_t_120, hz_t_122, hz_t_126, hz_t_950, hz_t_1000, hz_t_1040, hz_t_1080, hz_t_2000, hz_t_2001, hz_t_2150, hz_t_2600, hz_t_4096, kS_1, kA_1, kQ_1, mS_1, mA_1, kS_2, kQ_21, mS_2, upd_ap, mA_2, kA_21, kA_22, kQ_22, Nat.reduceEqDiff, Int.reduceToNat, ↓reduceIte, Classical.not_not, and_self, and_true, true_and, eq_self, not_true_eq_false, not_false_eq_true, false_implies, true_implies, implies_true, z_ite0]
    repeat' (first
      | with_reducible refine And.intro ?_ ?_
      | with_reducible intro _
      | omega
      | (show narrow _ _ = _; rfl)
      | (refine zat 19 rfl ?_; refine hz_iret B rfl ?_ (Nat.le_refl _) (Nat.le_refl _) d_G_parameterCount_19; first | ((repeat (first | ((with_reducible refine zgd_elim h ?_); clear h; intro _ h) | (rw [zgd_bind] at h) | (rw [Option.bind_some] at h) | (rw [if_pos] at h; rotate_left 1; (· omega)) | (rw [if_neg] at h; rotate_left 1; (· omega)) | (simp only [hz_t_m100, hz_t_m30, hz_t_m20, hz_t_m5, hz_t_m4, hz_t_m3, hz_t_m2, hz_t_m1, hz_t_0, hz_t_1, hz_t_2, hz_t_3, hz_t_4, hz_t_5, hz_t_6, hz_t_7, hz_t_8, hz_t_9, hz_t_10, hz_t_15, hz_t_26, hz_t_27, hz_t_32, hz_t_36, hz_t_40, hz_t_41, hz_t_42, hz_t_43, hz_t_44, hz_t_45, hz_t_46, hz_t_47, hz_t_48, hz_t_50, hz_t_57, hz_t_58, hz_t_60, hz_t_61, hz_t_63, hz_t_65, hz_t_90, hz_t_91, hz_t_92, hz_t_93, hz_t_97, hz_t_104, hz_t_108, hz_t_120, hz_t_122, hz_t_126, hz_t_950, hz_t_1000, hz_t_1040, hz_t_1080, hz_t_2000, hz_t_2001, hz_t_2150, hz_t_2600, hz_t_4096, kS_1, kA_1, kQ_1, mS_1, mA_1, kS_2, kQ_21, mS_2, upd_ap, mA_2, kA_21, kA_22, kQ_22, Nat.reduceEqDiff, Int.reduceToNat, ↓reduceIte, Classical.not_not, and_self, and_true, true_and, eq_self, not_true_eq_false, not_false_eq_true, false_implies, true_implies, implies_true, z_ite0] at h) | fail)); (with_reducible replace h := Option.some.inj h); subst h; exact ⟨rfl, rfl, rfl⟩) | exact ⟨rfl, rfl, rfl⟩))
    all_goals first
      | omega
      | ((repeat (first | ((with_reducible refine zgd_elim h ?_); clear h; intro _ h) | (rw [zgd_bind] at h) | (rw [Option.bind_some] at h) | (rw [if_pos] at h; rotate_left 1; (· omega)) | (rw [if_neg] at h; rotate_left 1; (· omega)) | (simp only [hz_t_m100, hz_t_m30, hz_t_m20, hz_t_m5, hz_t_m4, hz_t_m3, hz_t_m2, hz_t_m1, hz_t_0, hz_t_1, hz_t_2, hz_t_3, hz_t_4, hz_t_5, hz_t_6, hz_t_7, hz_t_8, hz_t_9, hz_t_10, hz_t_15, hz_t_26, hz_t_27, hz_t_32, hz_t_36, hz_t_40, hz_t_41, hz_t_42, hz_t_43, hz_t_44, hz_t_45, hz_t_46, hz_t_47, hz_t_48, hz_t_50, hz_t_57, hz_t_58, hz_t_60, hz_t_61, hz_t_63, hz_t_65, hz_t_90, hz_t_91, hz_t_92, hz_t_93, hz_t_97, hz_t_104, hz_t_108, hz_t_120, hz_t_122, hz_t_126, hz_t_950, hz_t_1000, hz_t_1040, hz_t_1080, hz_t_2000, hz_t_2001, hz_t_2150, hz_t_2600, hz_t_4096, kS_1, kA_1, kQ_1, mS_1, mA_1, kS_2, kQ_21, mS_2, upd_ap, mA_2, kA_21, kA_22, kQ_22, Nat.reduceEqDiff, Int.reduceToNat, ↓reduceIte, Classical.not_not, and_self, and_true, true_and, eq_self, not_true_eq_false, not_false_eq_true, false_implies, true_implies, implies_true, z_ite0] at h) | fail)); omega)
  | some d =>
    rw [hq] at h
    dsimp only at h
    obtain ⟨T, hT, h⟩ := Option.bind_eq_some_iff.mp h
    obtain ⟨s1, s2, s3, p0, p1, p2, p3, p4, p5, p6, p7⟩ := zd_of (hE d T hT)
    refine hz_body (by decide) (by simp [Value.category]) (by simp) ?_
    intro p e s m args below meth c B
    refine hz_go B (ft_G B rfl) (cn_G B rfl) 100 [] ?_
    show q_G_parameterCount _ 100 0 [some (.ref 2), some (.int x), none] [] _
    simp only [↓e_G_parameterCount_0, ↓e_G_parameterCount_0n, ↓e_G_parameterCount_1, ↓e_G_parameterCount_4, ↓e_G_parameterCount_5, ↓e_G_parameterCount_6, ↓e_G_parameterCount_6n, ↓e_G_parameterCount_7, ↓e_G_parameterCount_7n, ↓e_G_parameterCount_8, ↓e_G_parameterCount_8n, ↓e_G_parameterCount_11, ↓e_G_parameterCount_12, ↓e_G_parameterCount_15, ↓e_G_parameterCount_15n, ↓e_G_parameterCount_16, ↓e_G_parameterCount_19, ↓rd_0_0, ↓rd_0_1, ↓wr_0_1, ↓rd_0_2, ↓rd_0_3, ↓rd_2_0, ↓rd_2_1, ↓rd_2_2, ↓rd_2_3, ↓rd_2_4, ↓rd_2_5, ↓rd_2_6, ↓rd_2_7, ↓rd_2_8, ↓rd_2_9, ↓wr_2_9, ↓rd_2_10, ↓wr_2_10, ↓rd_2_11, ↓wr_2_11, ↓rd_2_12, ↓wr_2_12, ↓rd_2_13, ↓wr_2_13, ↓rd_12_0, ↓rd_12_1, ↓wr_12_1, ↓rd_12_2, ↓rd_12_3, ↓wr_12_3, ↓rd_12_4, ↓wr_12_4, ↓rd_12_5, ↓wr_12_5, ↓ea_1, ↓es_1, ↓ea_3, ↓ea_4, ↓ea_5, ↓es_5, ↓ea_6, ↓es_6, ↓ea_7, ↓es_7, ↓ea_8, ↓es_8, ↓ea_9, ↓es_9, ↓ea_10, ↓es_10, ↓ea_11, ↓es_11, ↓ea_13, ↓es_13, ↓ea_14, ↓es_14, hq, va_rf_s]
    try simp only [↓e_G_parameterCount_0, ↓e_G_parameterCount_0n, ↓e_G_parameterCount_1, ↓e_G_parameterCount_4, ↓e_G_parameterCount_5, ↓e_G_parameterCount_6, ↓e_G_parameterCount_6n, ↓e_G_parameterCount_7, ↓e_G_parameterCount_7n, ↓e_G_parameterCount_8, ↓e_G_parameterCount_8n, ↓e_G_parameterCount_11, ↓e_G_parameterCount_12, ↓e_G_parameterCount_15, ↓e_G_parameterCount_15n, ↓e_G_parameterCount_16, ↓e_G_parameterCount_19, ↓rd_0_0, ↓rd_0_1, ↓wr_0_1, ↓rd_0_2, ↓rd_0_3, ↓rd_2_0, ↓rd_2_1, ↓rd_2_2, ↓rd_2_3, ↓rd_2_4, ↓rd_2_5, ↓rd_2_6, ↓rd_2_7, ↓rd_2_8, ↓rd_2_9, ↓wr_2_9, ↓rd_2_10, ↓wr_2_10, ↓rd_2_11, ↓wr_2_11, ↓rd_2_12, ↓wr_2_12, ↓rd_2_13, ↓wr_2_13, ↓rd_12_0, ↓rd_12_1, ↓wr_12_1, ↓rd_12_2, ↓rd_12_3, ↓wr_12_3, ↓rd_12_4, ↓wr_12_4, ↓rd_12_5, ↓wr_12_5, ↓ea_1, ↓es_1, ↓ea_3, ↓ea_4, ↓ea_5, ↓es_5, ↓ea_6, ↓es_6, ↓ea_7, ↓es_7, ↓ea_8, ↓es_8, ↓ea_9, ↓es_9, ↓ea_10, ↓es_10, ↓ea_11, ↓es_11, ↓ea_13, ↓es_13, ↓ea_14, ↓es_14, hq, va_rf_s, ↓p3]
    try simp only [hz_t_m100, hz_t_m30, hz_t_m20, hz_t_m5, hz_t_m4, hz_t_m3, hz_t_m2, hz_t_m1, hz_t_0, hz_t_1, hz_t_2, hz_t_3, hz_t_4, hz_t_5, hz_t_6, hz_t_7, hz_t_8, hz_t_9, hz_t_10, hz_t_15, hz_t_26, hz_t_27, hz_t_32, hz_t_36, hz_t_40, hz_t_41, hz_t_42, hz_t_43, hz_t_44, hz_t_45, hz_t_46, hz_t_47, hz_t_48, hz_t_50, hz_t_57, hz_t_58, hz_t_60, hz_t_61, hz_t_63, hz_t_65, hz_t_90, hz_t_91, hz_t_92, hz_t_93, hz_t_97, hz_t_104, hz_t_108, hz_t_120, hz_t_122, hz_t_126, hz_t_950, hz_t_1000, hz_t_1040, hz_t_1080, hz_t_2000, hz_t_2001, hz_t_2150, hz_t_2600, hz_t_4096, kS_1, kA_1, kQ_1, mS_1, mA_1, kS_2, kQ_21, mS_2, upd_ap, mA_2, kA_21, kA_22, kQ_22, Nat.reduceEqDiff, Int.reduceToNat, ↓reduceIte, Classical.not_not, and_self, and_true, true_and, eq_self, not_true_eq_false, not_false_eq_true, false_implies, true_implies, implies_true, z_ite0]
    repeat' (first
      | with_reducible refine And.intro ?_ ?_
      | with_reducible intro _
      | omega
      | (show narrow _ _ = _; rfl)
      | (refine zat 19 rfl ?_; refine hz_iret B rfl ?_ (Nat.le_refl _) (Nat.le_refl _) d_G_parameterCount_19; first | ((repeat (first | ((with_reducible refine zgd_elim h ?_); clear h; intro _ h) | (rw [zgd_bind] at h) | (rw [Option.bind_some] at h) | (rw [if_pos] at h; rotate_left 1; (· omega)) | (rw [if_neg] at h; rotate_left 1; (· omega)) | (simp only [hz_t_m100, hz_t_m30, hz_t_m20, hz_t_m5, hz_t_m4, hz_t_m3, hz_t_m2, hz_t_m1, hz_t_0, hz_t_1, hz_t_2, hz_t_3, hz_t_4, hz_t_5, hz_t_6, hz_t_7, hz_t_8, hz_t_9, hz_t_10, hz_t_15, hz_t_26, hz_t_27, hz_t_32, hz_t_36, hz_t_40, hz_t_41, hz_t_42, hz_t_43, hz_t_44, hz_t_45, hz_t_46, hz_t_47, hz_t_48, hz_t_50, hz_t_57, hz_t_58, hz_t_60, hz_t_61, hz_t_63, hz_t_65, hz_t_90, hz_t_91, hz_t_92, hz_t_93, hz_t_97, hz_t_104, hz_t_108, hz_t_120, hz_t_122, hz_t_126, hz_t_950, hz_t_1000, hz_t_1040, hz_t_1080, hz_t_2000, hz_t_2001, hz_t_2150, hz_t_2600, hz_t_4096, kS_1, kA_1, kQ_1, mS_1, mA_1, kS_2, kQ_21, mS_2, upd_ap, mA_2, kA_21, kA_22, kQ_22, Nat.reduceEqDiff, Int.reduceToNat, ↓reduceIte, Classical.not_not, and_self, and_true, true_and, eq_self, not_true_eq_false, not_false_eq_true, false_implies, true_implies, implies_true, z_ite0] at h) | fail)); (with_reducible replace h := Option.some.inj h); subst h; exact ⟨rfl, rfl, rfl⟩) | exact ⟨rfl, rfl, rfl⟩))
    all_goals first
      | omega
      | ((repeat (first | ((with_reducible refine zgd_elim h ?_); clear h; intro _ h) | (rw [zgd_bind] at h) | (rw [Option.bind_some] at h) | (rw [if_pos] at h; rotate_left 1; (· omega)) | (rw [if_neg] at h; rotate_left 1; (· omega)) | (simp only [hz_t_m100, hz_t_m30, hz_t_m20, hz_t_m5, hz_t_m4, hz_t_m3, hz_t_m2, hz_t_m1, hz_t_0, hz_t_1, hz_t_2, hz_t_3, hz_t_4, hz_t_5, hz_t_6, hz_t_7, hz_t_8, hz_t_9, hz_t_10, hz_t_15, hz_t_26, hz_t_27, hz_t_32, hz_t_36, hz_t_40, hz_t_41, hz_t_42, hz_t_43, hz_t_44, hz_t_45, hz_t_46, hz_t_47, hz_t_48, hz_t_50, hz_t_57, hz_t_58, hz_t_60, hz_t_61, hz_t_63, hz_t_65, hz_t_90, hz_t_91, hz_t_92, hz_t_93, hz_t_97, hz_t_104, hz_t_108, hz_t_120, hz_t_122, hz_t_126, hz_t_950, hz_t_1000, hz_t_1040, hz_t_1080, hz_t_2000, hz_t_2001, hz_t_2150, hz_t_2600, hz_t_4096, kS_1, kA_1, kQ_1, mS_1, mA_1, kS_2, kQ_21, mS_2, upd_ap, mA_2, kA_21, kA_22, kQ_22, Nat.reduceEqDiff, Int.reduceToNat, ↓reduceIte, Classical.not_not, and_self, and_true, true_and, eq_self, not_true_eq_false, not_false_eq_true, false_implies, true_implies, implies_true, z_ite0] at h) | fail)); omega)
