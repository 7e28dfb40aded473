/-! The reference, the working out. Printed by wip/g22.py. -/
def zgd {α : Type} (p : Prop) [Decidable p] (x : Option α) : Option α := if p then x else none
theorem zgd_some {α : Type} {p : Prop} [Decidable p] {x : Option α} {y : α} (h : zgd p x = some y) : p ∧ x = some y := by
  unfold zgd at h
  split at h
  · rename_i q
    exact ⟨q, h⟩
  · cases h
theorem zgd_elim {α : Type} {p : Prop} [Decidable p] {x : Option α} {y : α} {C : Prop} (h : zgd p x = some y) (k : p → x = some y → C) : C := k (zgd_some h).1 (zgd_some h).2
def m_looked (μ : zM) (F : Nat) (x a : Int32) : Option Int32 := (m_look μ x F a).bind fun k => some (μ.2 35 k.toInt.toNat)
theorem k2_M_looked {l : Launch} {G : hz_G} {κ : zK} {μ : zM} {ω : Nat → Int64} {D : hz_H} {n : Nat} {x y : Int32} {F : Nat} {v : Int32} (h : m_looked μ F x y = some v) : hz_M lw_tbl zAO zCl zKT l y_M_looked c_M_looked 4 (some .int) (zR 1) G [.ref 15, .int x, .int y] (zH κ μ ω D) n (fun r h' n' => r = some (.int v) ∧ h' = zH κ μ ω D ∧ n' = n) := by
  unfold m_looked at h
  obtain ⟨k, h1, h⟩ := Option.bind_eq_some_iff.mp h
  cases h
  exact k_M_looked h1
def m_child (μ : zM) (F : Nat) (x y : Int32) : Option Int32 := zgd (0 ≤ y.toInt ∧ y.toInt < 100) (m_skip μ F y.toInt.toNat (x + hz_n 1))
theorem k2_M_child {l : Launch} {G : hz_G} {κ : zK} {μ : zM} {ω : Nat → Int64} {D : hz_H} {n : Nat} {x y : Int32} {F : Nat} {v : Int32} (h : m_child μ F x y = some v) : hz_M lw_tbl zAO zCl zKT l y_M_child c_M_child 5 (some .int) (zR 3) G [.ref 15, .int x, .int y] (zH κ μ ω D) n (fun r h' n' => r = some (.int v) ∧ h' = zH κ μ ω D ∧ n' = n) := by
  unfold m_child at h
  obtain ⟨h0, h⟩ := zgd_some h
  exact k_M_child h0 h
def m_promise (μ : zM) (F : Nat) (x a : Int32) : Option (Int32 × zM) := zgd (0 ≤ x.toInt ∧ x.toInt < 1080)
  (if (μ.2 21 x.toInt.toNat).toInt = 1 then (m_looked μ F (μ.2 22 x.toInt.toNat) a).bind fun v => some (v, μ)
   else if (μ.2 21 x.toInt.toNat).toInt = 2 then some (hz_n (-1) - μ.2 22 x.toInt.toNat, μ)
   else if (μ.2 21 x.toInt.toNat).toInt = 3 then some (hz_n (-30) - μ.2 22 x.toInt.toNat, μ)
   else if (μ.2 21 x.toInt.toNat).toInt = 4 then some (hz_n (-20), μ)
   else zgd (0 ≤ (μ.1 15).toInt ∧ (μ.1 15).toInt < 1000) (some (μ.1 15 + hz_n 1 - hz_n 1, m_newPromise μ x a)))
set_option maxHeartbeats 2000000 in
set_option maxRecDepth 20000 in
theorem k_M_promise {l : Launch} {G : hz_G} {κ : zK} {μ : zM} {ω : Nat → Int64} {D : hz_H} {n : Nat} {x y : Int32} {F : Nat} {v : Int32} {μ' : zM} (h : m_promise μ F x y = some (v, μ')) : hz_M lw_tbl zAO zCl zKT l y_M_promise c_M_promise 3 (some .int) (zR 2) G [.ref 15, .int x, .int y] (zH κ μ ω D) n (fun r h' n' => r = some (.int v) ∧ h' = zH κ μ' ω D ∧ n' = n) := by
  unfold m_promise at h
  (repeat (first | (refine zgd_elim h ?_; clear h; intro _ h) | (rw [if_pos] at h; rotate_left 1; (· omega)) | (rw [if_neg] at h; rotate_left 1; (· omega)) | fail))
  refine hz_body (by decide) (by simp [Value.category]) (by simp) ?_
  intro p e s m args below meth c B
  refine hz_go B (ft_M B rfl) (cn_M B rfl) 300 [] ?_
  show q_M_promise _ 300 0 [some (.ref 15), some (.int x), some (.int y)] [] _
  simp only [↓e_M_promise_0, ↓e_M_promise_0n, ↓e_M_promise_1, ↓e_M_promise_4, ↓e_M_promise_5, ↓e_M_promise_6, ↓e_M_promise_36, ↓e_M_promise_36n, ↓e_M_promise_37, ↓e_M_promise_37n, ↓e_M_promise_38, ↓e_M_promise_41, ↓e_M_promise_42, ↓e_M_promise_43, ↓e_M_promise_44, ↓e_M_promise_47, ↓e_M_promise_48, ↓e_M_promise_49, ↓e_M_promise_49n, ↓e_M_promise_50, ↓e_M_promise_53, ↓e_M_promise_54, ↓e_M_promise_55, ↓e_M_promise_56, ↓e_M_promise_57, ↓e_M_promise_59, ↓e_M_promise_60, ↓e_M_promise_62, ↓e_M_promise_62n, ↓e_M_promise_63, ↓e_M_promise_66, ↓e_M_promise_67, ↓e_M_promise_68, ↓e_M_promise_69, ↓e_M_promise_70, ↓e_M_promise_70n, ↓e_M_promise_71, ↓e_M_promise_72, ↓e_M_promise_73, ↓e_M_promise_76, ↓rd_15_0, ↓wr_15_0, ↓rd_15_1, ↓wr_15_1, ↓rd_15_2, ↓rd_15_3, ↓wr_15_3, ↓rd_15_4, ↓rd_15_5, ↓rd_15_6, ↓rd_15_7, ↓rd_15_8, ↓rd_15_9, ↓rd_15_10, ↓rd_15_11, ↓rd_15_12, ↓wr_15_12, ↓rd_15_13, ↓wr_15_13, ↓rd_15_14, ↓rd_15_15, ↓rd_15_16, ↓rd_15_17, ↓wr_15_17, ↓rd_15_18, ↓rd_15_19, ↓rd_15_20, ↓rd_15_21, ↓rd_15_22, ↓rd_15_23, ↓wr_15_23, ↓rd_15_24, ↓rd_15_25, ↓wr_15_25, ↓rd_15_26, ↓rd_15_27, ↓rd_15_28, ↓rd_15_29, ↓wr_15_29, ↓rd_15_30, ↓rd_15_31, ↓rd_15_32, ↓wr_15_32, ↓rd_15_33, ↓wr_15_33, ↓rd_15_34, ↓wr_15_34, ↓rd_15_35, ↓wr_15_35, ↓rd_15_36, ↓wr_15_36, ↓rd_15_37, ↓wr_15_37, ↓rd_15_38, ↓wr_15_38, ↓ea_16, ↓es_16, ↓ea_17, ↓es_17, ↓ea_18, ↓es_18, ↓ea_19, ↓es_19, ↓ea_20, ↓es_20, ↓ea_21, ↓es_21, ↓ea_22, ↓es_22, ↓ea_23, ↓es_23, ↓ea_24, ↓es_24, ↓ea_25, ↓es_25, ↓ea_26, ↓es_26, ↓ea_27, ↓es_27, ↓ea_28, ↓es_28, ↓ea_29, ↓es_29, ↓ea_30, ↓es_30, ↓ea_31, ↓es_31, ↓ea_32, ↓es_32, ↓ea_33, ↓es_33, ↓ea_34, ↓es_34, ↓ea_35, ↓es_35, ↓ea_36, ↓es_36, ↓ea_37, ↓es_37, ↓ea_38, ↓es_38]
  try simp only [hz_t_m100, hz_t_m30, hz_t_m20, hz_t_m5, hz_t_m4, hz_t_m3, hz_t_m2, hz_t_m1, hz_t_0, hz_t_1, hz_t_2, hz_t_3, hz_t_4, hz_t_5, hz_t_6, hz_t_7, hz_t_8, hz_t_9, hz_t_10, hz_t_15, hz_t_26, hz_t_27, hz_t_32, hz_t_36, hz_t_40, hz_t_41, hz_t_42, hz_t_43, hz_t_44, hz_t_45, hz_t_46, hz_t_47, hz_t_48, hz_t_50, hz_t_57, hz_t_58, hz_t_60, hz_t_61, hz_t_63, hz_t_65, hz_t_90, hz_t_91, hz_t_92, hz_t_93, hz_t_97, hz_t_104, hz_t_108, hz_t_120, hz_t_122, hz_t_126, hz_t_950, hz_t_1000, hz_t_1040, hz_t_1080, hz_t_2000, hz_t_2001, hz_t_2150, hz_t_2600, hz_t_4096, kS_1, kA_1, kQ_1, mS_1, mA_1, kS_2, kQ_21, mS_2, upd_ap, mA_2, kA_21, kA_22, kQ_22, Nat.reduceEqDiff, ↓reduceIte, Classical.not_not, and_self, and_true, true_and]
  repeat' (first
    | with_reducible refine And.intro ?_ ?_
    | with_reducible intro _
    | omega
    | (refine zat 47 rfl ?_; refine hz_iret B rfl ?_ (Nat.le_refl _) (Nat.le_refl _) d_M_promise_47; (repeat (first | (refine zgd_elim h ?_; clear h; intro _ h) | (rw [if_pos] at h; rotate_left 1; (· omega)) | (rw [if_neg] at h; rotate_left 1; (· omega)) | fail)); obtain ⟨rfl, rfl⟩ := Prod.mk.inj (Option.some.inj h); exact ⟨rfl, rfl, rfl⟩)
    | (refine zat 56 rfl ?_; refine hz_iret B rfl ?_ (Nat.le_refl _) (Nat.le_refl _) d_M_promise_56; (repeat (first | (refine zgd_elim h ?_; clear h; intro _ h) | (rw [if_pos] at h; rotate_left 1; (· omega)) | (rw [if_neg] at h; rotate_left 1; (· omega)) | fail)); obtain ⟨rfl, rfl⟩ := Prod.mk.inj (Option.some.inj h); exact ⟨rfl, rfl, rfl⟩)
    | (refine zat 59 rfl ?_; refine hz_iret B rfl ?_ (Nat.le_refl _) (Nat.le_refl _) d_M_promise_59; (repeat (first | (refine zgd_elim h ?_; clear h; intro _ h) | (rw [if_pos] at h; rotate_left 1; (· omega)) | (rw [if_neg] at h; rotate_left 1; (· omega)) | fail)); obtain ⟨rfl, rfl⟩ := Prod.mk.inj (Option.some.inj h); exact ⟨rfl, rfl, rfl⟩)
    | (refine zat 69 rfl ?_; refine hz_iret B rfl ?_ (Nat.le_refl _) (Nat.le_refl _) d_M_promise_69; (repeat (first | (refine zgd_elim h ?_; clear h; intro _ h) | (rw [if_pos] at h; rotate_left 1; (· omega)) | (rw [if_neg] at h; rotate_left 1; (· omega)) | fail)); obtain ⟨rfl, rfl⟩ := Prod.mk.inj (Option.some.inj h); exact ⟨rfl, rfl, rfl⟩)
    | (refine zat 76 rfl ?_; refine hz_iret B rfl ?_ (Nat.le_refl _) (Nat.le_refl _) d_M_promise_76; (repeat (first | (refine zgd_elim h ?_; clear h; intro _ h) | (rw [if_pos] at h; rotate_left 1; (· omega)) | (rw [if_neg] at h; rotate_left 1; (· omega)) | fail)); obtain ⟨rfl, rfl⟩ := Prod.mk.inj (Option.some.inj h); exact ⟨rfl, rfl, rfl⟩)
    | (refine zat 44 rfl ?_; (repeat (first | (refine zgd_elim h ?_; clear h; intro _ h) | (rw [if_pos] at h; rotate_left 1; (· omega)) | (rw [if_neg] at h; rotate_left 1; (· omega)) | fail)); (with_reducible replace h := Option.bind_eq_some_iff.mp h); obtain ⟨_, h1, h⟩ := h; refine zcV B rfl cb_M_144 im_M_looked se_M_looked (k2_M_looked h1) (by decide) (by decide) rfl rfl rfl (by simp [Value.category]) rfl d_M_promise_44 (zki ?_))
    | (refine zat 73 rfl ?_; (repeat (first | (refine zgd_elim h ?_; clear h; intro _ h) | (rw [if_pos] at h; rotate_left 1; (· omega)) | (rw [if_neg] at h; rotate_left 1; (· omega)) | fail)); refine zcV B rfl cb_M_147 im_M_newPromise se_M_newPromise (k_M_newPromise (by omega)) (by decide) (by decide) rfl rfl rfl (by simp [Value.category]) rfl d_M_promise_73 (zki ?_)))
  all_goals first
    | omega
    | ((repeat (first | (refine zgd_elim h ?_; clear h; intro _ h) | (rw [if_pos] at h; rotate_left 1; (· omega)) | (rw [if_neg] at h; rotate_left 1; (· omega)) | fail)); omega)
