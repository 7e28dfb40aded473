/-! The numbers are written. Printed by wip/g36.py. -/
theorem cl_W_75 : Cond.constantLong R_W 75 10 ∈ hz_T lw_tbl := hz_T_in 563 (by decide +kernel) (by decide +kernel)
theorem cl_W_77 : Cond.constantLong R_W 77 48 ∈ hz_T lw_tbl := hz_T_in 564 (by decide +kernel) (by decide +kernel)
theorem cl_M_230 : Cond.constantLong R_M 230 10 ∈ hz_T lw_tbl := hz_T_in 859 (by decide +kernel) (by decide +kernel)
theorem d_W_putNumber_0 : decode c_W_putNumber 0 = .ok (.iload_n 2, 1) := by decide +kernel
theorem d_W_putNumber_1 : decode c_W_putNumber 1 = .ok (.i2l, 1) := by decide +kernel
theorem d_W_putNumber_2 : decode c_W_putNumber 2 = .ok (.lstore_n 3, 1) := by decide +kernel
theorem d_W_putNumber_3 : decode c_W_putNumber 3 = .ok (.lload_n 3, 1) := by decide +kernel
theorem d_W_putNumber_4 : decode c_W_putNumber 4 = .ok (.lconst 0, 1) := by decide +kernel
theorem d_W_putNumber_5 : decode c_W_putNumber 5 = .ok (.lcmp, 1) := by decide +kernel
theorem d_W_putNumber_6 : decode c_W_putNumber 6 = .ok (.ifCond .ge 14, 3) := by decide +kernel
theorem d_W_putNumber_9 : decode c_W_putNumber 9 = .ok (.aload_n 0, 1) := by decide +kernel
theorem d_W_putNumber_10 : decode c_W_putNumber 10 = .ok (.aload_n 1, 1) := by decide +kernel
theorem d_W_putNumber_11 : decode c_W_putNumber 11 = .ok (.bipush 45, 2) := by decide +kernel
theorem d_W_putNumber_13 : decode c_W_putNumber 13 = .ok (.invokevirtual 53, 3) := by decide +kernel
theorem d_W_putNumber_16 : decode c_W_putNumber 16 = .ok (.pop, 1) := by decide +kernel
theorem d_W_putNumber_17 : decode c_W_putNumber 17 = .ok (.lload_n 3, 1) := by decide +kernel
theorem d_W_putNumber_18 : decode c_W_putNumber 18 = .ok (.lneg, 1) := by decide +kernel
theorem d_W_putNumber_19 : decode c_W_putNumber 19 = .ok (.lstore_n 3, 1) := by decide +kernel
theorem d_W_putNumber_20 : decode c_W_putNumber 20 = .ok (.lconst 1, 1) := by decide +kernel
theorem d_W_putNumber_21 : decode c_W_putNumber 21 = .ok (.lstore 5, 2) := by decide +kernel
theorem d_W_putNumber_23 : decode c_W_putNumber 23 = .ok (.lload 5, 2) := by decide +kernel
theorem d_W_putNumber_25 : decode c_W_putNumber 25 = .ok (.ldc2_w 75, 3) := by decide +kernel
theorem d_W_putNumber_28 : decode c_W_putNumber 28 = .ok (.lmul, 1) := by decide +kernel
theorem d_W_putNumber_29 : decode c_W_putNumber 29 = .ok (.lload_n 3, 1) := by decide +kernel
theorem d_W_putNumber_30 : decode c_W_putNumber 30 = .ok (.lcmp, 1) := by decide +kernel
theorem d_W_putNumber_31 : decode c_W_putNumber 31 = .ok (.ifCond .gt 14, 3) := by decide +kernel
theorem d_W_putNumber_34 : decode c_W_putNumber 34 = .ok (.lload 5, 2) := by decide +kernel
theorem d_W_putNumber_36 : decode c_W_putNumber 36 = .ok (.ldc2_w 75, 3) := by decide +kernel
theorem d_W_putNumber_39 : decode c_W_putNumber 39 = .ok (.lmul, 1) := by decide +kernel
theorem d_W_putNumber_40 : decode c_W_putNumber 40 = .ok (.lstore 5, 2) := by decide +kernel
theorem d_W_putNumber_42 : decode c_W_putNumber 42 = .ok (.goto (-19), 3) := by decide +kernel
theorem d_W_putNumber_45 : decode c_W_putNumber 45 = .ok (.lload 5, 2) := by decide +kernel
theorem d_W_putNumber_47 : decode c_W_putNumber 47 = .ok (.lconst 0, 1) := by decide +kernel
theorem d_W_putNumber_48 : decode c_W_putNumber 48 = .ok (.lcmp, 1) := by decide +kernel
theorem d_W_putNumber_49 : decode c_W_putNumber 49 = .ok (.ifCond .le 34, 3) := by decide +kernel
theorem d_W_putNumber_52 : decode c_W_putNumber 52 = .ok (.aload_n 0, 1) := by decide +kernel
theorem d_W_putNumber_53 : decode c_W_putNumber 53 = .ok (.aload_n 1, 1) := by decide +kernel
theorem d_W_putNumber_54 : decode c_W_putNumber 54 = .ok (.ldc2_w 77, 3) := by decide +kernel
theorem d_W_putNumber_57 : decode c_W_putNumber 57 = .ok (.lload_n 3, 1) := by decide +kernel
theorem d_W_putNumber_58 : decode c_W_putNumber 58 = .ok (.lload 5, 2) := by decide +kernel
theorem d_W_putNumber_60 : decode c_W_putNumber 60 = .ok (.ldiv, 1) := by decide +kernel
theorem d_W_putNumber_61 : decode c_W_putNumber 61 = .ok (.ldc2_w 75, 3) := by decide +kernel
theorem d_W_putNumber_64 : decode c_W_putNumber 64 = .ok (.lrem, 1) := by decide +kernel
theorem d_W_putNumber_65 : decode c_W_putNumber 65 = .ok (.ladd, 1) := by decide +kernel
theorem d_W_putNumber_66 : decode c_W_putNumber 66 = .ok (.l2i, 1) := by decide +kernel
theorem d_W_putNumber_67 : decode c_W_putNumber 67 = .ok (.i2c, 1) := by decide +kernel
theorem d_W_putNumber_68 : decode c_W_putNumber 68 = .ok (.invokevirtual 53, 3) := by decide +kernel
theorem d_W_putNumber_71 : decode c_W_putNumber 71 = .ok (.pop, 1) := by decide +kernel
theorem d_W_putNumber_72 : decode c_W_putNumber 72 = .ok (.lload 5, 2) := by decide +kernel
theorem d_W_putNumber_74 : decode c_W_putNumber 74 = .ok (.ldc2_w 75, 3) := by decide +kernel
theorem d_W_putNumber_77 : decode c_W_putNumber 77 = .ok (.ldiv, 1) := by decide +kernel
theorem d_W_putNumber_78 : decode c_W_putNumber 78 = .ok (.lstore 5, 2) := by decide +kernel
theorem d_W_putNumber_80 : decode c_W_putNumber 80 = .ok (.goto (-35), 3) := by decide +kernel
theorem d_W_putNumber_83 : decode c_W_putNumber 83 = .ok (.return_, 1) := by decide +kernel
theorem d_M_putNumber_0 : decode c_M_putNumber 0 = .ok (.iload_n 1, 1) := by decide +kernel
theorem d_M_putNumber_1 : decode c_M_putNumber 1 = .ok (.i2l, 1) := by decide +kernel
theorem d_M_putNumber_2 : decode c_M_putNumber 2 = .ok (.lstore_n 2, 1) := by decide +kernel
theorem d_M_putNumber_3 : decode c_M_putNumber 3 = .ok (.lload_n 2, 1) := by decide +kernel
theorem d_M_putNumber_4 : decode c_M_putNumber 4 = .ok (.lconst 0, 1) := by decide +kernel
theorem d_M_putNumber_5 : decode c_M_putNumber 5 = .ok (.lcmp, 1) := by decide +kernel
theorem d_M_putNumber_6 : decode c_M_putNumber 6 = .ok (.ifCond .ge 12, 3) := by decide +kernel
theorem d_M_putNumber_9 : decode c_M_putNumber 9 = .ok (.aload_n 0, 1) := by decide +kernel
theorem d_M_putNumber_10 : decode c_M_putNumber 10 = .ok (.bipush 45, 2) := by decide +kernel
theorem d_M_putNumber_12 : decode c_M_putNumber 12 = .ok (.invokevirtual 227, 3) := by decide +kernel
theorem d_M_putNumber_15 : decode c_M_putNumber 15 = .ok (.lload_n 2, 1) := by decide +kernel
theorem d_M_putNumber_16 : decode c_M_putNumber 16 = .ok (.lneg, 1) := by decide +kernel
theorem d_M_putNumber_17 : decode c_M_putNumber 17 = .ok (.lstore_n 2, 1) := by decide +kernel
theorem d_M_putNumber_18 : decode c_M_putNumber 18 = .ok (.lconst 1, 1) := by decide +kernel
theorem d_M_putNumber_19 : decode c_M_putNumber 19 = .ok (.lstore 4, 2) := by decide +kernel
theorem d_M_putNumber_21 : decode c_M_putNumber 21 = .ok (.lload 4, 2) := by decide +kernel
theorem d_M_putNumber_23 : decode c_M_putNumber 23 = .ok (.ldc2_w 230, 3) := by decide +kernel
theorem d_M_putNumber_26 : decode c_M_putNumber 26 = .ok (.lmul, 1) := by decide +kernel
theorem d_M_putNumber_27 : decode c_M_putNumber 27 = .ok (.lload_n 2, 1) := by decide +kernel
theorem d_M_putNumber_28 : decode c_M_putNumber 28 = .ok (.lcmp, 1) := by decide +kernel
theorem d_M_putNumber_29 : decode c_M_putNumber 29 = .ok (.ifCond .gt 14, 3) := by decide +kernel
theorem d_M_putNumber_32 : decode c_M_putNumber 32 = .ok (.lload 4, 2) := by decide +kernel
theorem d_M_putNumber_34 : decode c_M_putNumber 34 = .ok (.ldc2_w 230, 3) := by decide +kernel
theorem d_M_putNumber_37 : decode c_M_putNumber 37 = .ok (.lmul, 1) := by decide +kernel
theorem d_M_putNumber_38 : decode c_M_putNumber 38 = .ok (.lstore 4, 2) := by decide +kernel
theorem d_M_putNumber_40 : decode c_M_putNumber 40 = .ok (.goto (-19), 3) := by decide +kernel
theorem d_M_putNumber_43 : decode c_M_putNumber 43 = .ok (.lload 4, 2) := by decide +kernel
theorem d_M_putNumber_45 : decode c_M_putNumber 45 = .ok (.lconst 0, 1) := by decide +kernel
theorem d_M_putNumber_46 : decode c_M_putNumber 46 = .ok (.lcmp, 1) := by decide +kernel
theorem d_M_putNumber_47 : decode c_M_putNumber 47 = .ok (.ifCond .le 30, 3) := by decide +kernel
theorem d_M_putNumber_50 : decode c_M_putNumber 50 = .ok (.aload_n 0, 1) := by decide +kernel
theorem d_M_putNumber_51 : decode c_M_putNumber 51 = .ok (.bipush 48, 2) := by decide +kernel
theorem d_M_putNumber_53 : decode c_M_putNumber 53 = .ok (.lload_n 2, 1) := by decide +kernel
theorem d_M_putNumber_54 : decode c_M_putNumber 54 = .ok (.lload 4, 2) := by decide +kernel
theorem d_M_putNumber_56 : decode c_M_putNumber 56 = .ok (.ldiv, 1) := by decide +kernel
theorem d_M_putNumber_57 : decode c_M_putNumber 57 = .ok (.ldc2_w 230, 3) := by decide +kernel
theorem d_M_putNumber_60 : decode c_M_putNumber 60 = .ok (.lrem, 1) := by decide +kernel
theorem d_M_putNumber_61 : decode c_M_putNumber 61 = .ok (.l2i, 1) := by decide +kernel
theorem d_M_putNumber_62 : decode c_M_putNumber 62 = .ok (.iadd, 1) := by decide +kernel
theorem d_M_putNumber_63 : decode c_M_putNumber 63 = .ok (.invokevirtual 227, 3) := by decide +kernel
theorem d_M_putNumber_66 : decode c_M_putNumber 66 = .ok (.lload 4, 2) := by decide +kernel
theorem d_M_putNumber_68 : decode c_M_putNumber 68 = .ok (.ldc2_w 230, 3) := by decide +kernel
theorem d_M_putNumber_71 : decode c_M_putNumber 71 = .ok (.ldiv, 1) := by decide +kernel
theorem d_M_putNumber_72 : decode c_M_putNumber 72 = .ok (.lstore 4, 2) := by decide +kernel
theorem d_M_putNumber_74 : decode c_M_putNumber 74 = .ok (.goto (-31), 3) := by decide +kernel
theorem d_M_putNumber_77 : decode c_M_putNumber 77 = .ok (.return_, 1) := by decide +kernel
noncomputable def g_pn3 (r : Int64) : Nat → zK → Int64 → Option zK
  | 0, _, _ => none
  | f + 1, κ, u => if u ≤ Int64.ofNat 0 then some κ else (g_put κ (hz_ch (48 + (r / u - r / u / 10 * 10)).toInt32)).bind fun q => g_pn3 r f q.2 (u / 10)
noncomputable def g_pn2 (κ : zK) (r : Int64) : Nat → Int64 → Option zK
  | 0, _ => none
  | f + 1, u => if r < u * 10 then g_pn3 r 25 κ u else g_pn2 κ r f (u * 10)
noncomputable def g_putNumber (κ : zK) (x : Int32) : Option zK := if Int64.ofNat 0 ≤ x.toInt64 then g_pn2 κ x.toInt64 25 (Int64.ofNat 1) else (g_put κ (hz_n 45)).bind fun q => g_pn2 q.2 (-x.toInt64) 25 (Int64.ofNat 1)
noncomputable def m_pn3 (r : Int64) : Nat → zM → Int64 → Option zM
  | 0, _, _ => none
  | f + 1, μ, u => if u ≤ Int64.ofNat 0 then some μ else zgd (0 ≤ (μ.1 12).toInt ∧ (μ.1 12).toInt ≤ 60) (m_pn3 r f (m_put μ (hz_n 48 + (r / u - r / u / 10 * 10).toInt32)) (u / 10))
noncomputable def m_pn2 (μ : zM) (r : Int64) : Nat → Int64 → Option zM
  | 0, _ => none
  | f + 1, u => if r < u * 10 then m_pn3 r 25 μ u else m_pn2 μ r f (u * 10)
noncomputable def m_putNumber (μ : zM) (x : Int32) : Option zM := if Int64.ofNat 0 ≤ x.toInt64 then m_pn2 μ x.toInt64 25 (Int64.ofNat 1) else zgd (0 ≤ (μ.1 12).toInt ∧ (μ.1 12).toInt ≤ 60) (m_pn2 (m_put μ (hz_n 45)) (-x.toInt64) 25 (Int64.ofNat 1))
set_option maxHeartbeats 2000000 in
set_option maxRecDepth 20000 in
theorem lp3_W_putNumber {l : Launch} {G : hz_G} {μ : zM} {ω : Nat → Int64} {D : hz_H} {n : Nat} {p : Program} {e : Env} {s : State} {m : MethodId} {args : Array Value} {below : List Frame} {meth : Method} {c : Code} (B : hz_B lw_tbl zAO zCl zKT G y_W_putNumber c_W_putNumber 7 none p s m args meth c) {x : Int32} {r : Int64} {κ' : zK} : ∀ (f : Nat) (κ : zK) (u : Int64), g_pn3 r f κ u = some κ' → hz_u G p l e (zR 2) s m args below meth c 7 (MQ below (hz_Q zCl G (fun r h' n' => r = none ∧ h' = zH κ' μ ω D ∧ n' = n)) args s 0 0 (fun q => G.2.2.size ≤ q)) n 0 0 45 [(5, .long u), (3, .long r), (0, .ref 12), (1, .ref 2), (2, .int x)] [] (zH κ μ ω D)
  | 0, _, _, h => by cases h
  | f + 1, κ, u, h => by
    unfold g_pn3 at h
    refine hu_at 45 rfl ?_
    refine hu_lload (k := 0) B d_W_putNumber_45 rfl ?_
    refine hu_at 47 rfl ?_
    refine hu_lconst B d_W_putNumber_47 ?_
    refine hu_at 48 rfl ?_
    refine hu_lcmp B d_W_putNumber_48 ?_
    refine hu_at 49 rfl ?_
    refine hu_if_le (t := 83) B d_W_putNumber_49 (by decide) (fun (hc : u ≤ Int64.ofNat 0) => ?_) (fun (hc : ¬ u ≤ Int64.ofNat 0) => ?_)
    · rw [if_pos hc] at h
      cases h
      exact hu_vret B ⟨rfl, rfl, rfl⟩ (Nat.le_refl _) (Nat.le_refl _) d_W_putNumber_83
    · rw [if_neg hc] at h
      have hne : ¬ u = 0 := fun e => hc (by rw [e]; decide)
      obtain ⟨⟨a, κ1⟩, h1, h⟩ := Option.bind_eq_some_iff.mp h
      refine hu_at 52 rfl ?_
      refine hu_aload_n (k := 2) B d_W_putNumber_52 rfl ?_
      refine hu_at 53 rfl ?_
      refine hu_aload_n (k := 3) B d_W_putNumber_53 rfl ?_
      refine hu_at 54 rfl ?_
      refine hu_ldc2 B d_W_putNumber_54 cl_W_77 ?_
      refine hu_at 57 rfl ?_
      refine hu_lload_n (k := 1) B d_W_putNumber_57 rfl ?_
      refine hu_at 58 rfl ?_
      refine hu_lload (k := 0) B d_W_putNumber_58 rfl ?_
      refine hu_at 60 rfl ?_
      refine hu_ldiv B d_W_putNumber_60 (by first | exact hne | decide) ?_
      refine hu_at 61 rfl ?_
      refine hu_ldc2 B d_W_putNumber_61 cl_W_75 ?_
      refine hu_at 64 rfl ?_
      refine hu_lrem B d_W_putNumber_64 (by first | exact hne | decide) ?_
      refine hu_at 65 rfl ?_
      refine hu_ladd B d_W_putNumber_65 ?_
      refine hu_at 66 rfl ?_
      refine hu_l2i B d_W_putNumber_66 ?_
      refine hu_at 67 rfl ?_
      refine hu_i2c B d_W_putNumber_67 ?_
      refine hu_at 68 rfl ?_
      refine hu_put B rfl cb_W_53 im_W_put se_W_put (k_W_put (by first | exact hz_ch_nar _ | rfl) h1) (by decide) (by decide) rfl rfl rfl (by decide) rfl d_W_putNumber_68 ?_
      refine hu_at 71 rfl ?_
      refine hu_pop B d_W_putNumber_71 ?_
      refine hu_at 72 rfl ?_
      refine hu_lload (k := 0) B d_W_putNumber_72 rfl ?_
      refine hu_at 74 rfl ?_
      refine hu_ldc2 B d_W_putNumber_74 cl_W_75 ?_
      refine hu_at 77 rfl ?_
      refine hu_ldiv B d_W_putNumber_77 (by first | exact hne | decide) ?_
      refine hu_at 78 rfl ?_
      refine hu_lstore (lv' := [(5, .long _), (3, .long _), (0, .ref 12), (1, .ref 2), (2, .int x)]) B d_W_putNumber_78 (by decide) (fun _ => rfl) ?_
      refine hu_at 80 rfl ?_
      refine hu_goto B d_W_putNumber_80 (t := 45) (by decide) ?_
      exact lp3_W_putNumber B f _ _ h
set_option maxHeartbeats 2000000 in
set_option maxRecDepth 20000 in
theorem lp2_W_putNumber {l : Launch} {G : hz_G} {μ : zM} {ω : Nat → Int64} {D : hz_H} {n : Nat} {p : Program} {e : Env} {s : State} {m : MethodId} {args : Array Value} {below : List Frame} {meth : Method} {c : Code} (B : hz_B lw_tbl zAO zCl zKT G y_W_putNumber c_W_putNumber 7 none p s m args meth c) {κ κ' : zK} {x : Int32} {r : Int64} : ∀ (f : Nat) (u : Int64), g_pn2 κ r f u = some κ' → hz_u G p l e (zR 2) s m args below meth c 7 (MQ below (hz_Q zCl G (fun r h' n' => r = none ∧ h' = zH κ' μ ω D ∧ n' = n)) args s 0 0 (fun q => G.2.2.size ≤ q)) n 0 0 23 [(5, .long u), (3, .long r), (0, .ref 12), (1, .ref 2), (2, .int x)] [] (zH κ μ ω D)
  | 0, _, h => by cases h
  | f + 1, u, h => by
    unfold g_pn2 at h
    refine hu_at 23 rfl ?_
    refine hu_lload (k := 0) B d_W_putNumber_23 rfl ?_
    refine hu_at 25 rfl ?_
    refine hu_ldc2 B d_W_putNumber_25 cl_W_75 ?_
    refine hu_at 28 rfl ?_
    refine hu_lmul B d_W_putNumber_28 ?_
    refine hu_at 29 rfl ?_
    refine hu_lload_n (k := 1) B d_W_putNumber_29 rfl ?_
    refine hu_at 30 rfl ?_
    refine hu_lcmp B d_W_putNumber_30 ?_
    refine hu_at 31 rfl ?_
    refine hu_if_gt (t := 45) B d_W_putNumber_31 (by decide) (fun hc => ?_) (fun hc => ?_)
    · rw [if_pos hc] at h
      exact lp3_W_putNumber B 25 _ _ h
    · rw [if_neg hc] at h
      refine hu_at 34 rfl ?_
      refine hu_lload (k := 0) B d_W_putNumber_34 rfl ?_
      refine hu_at 36 rfl ?_
      refine hu_ldc2 B d_W_putNumber_36 cl_W_75 ?_
      refine hu_at 39 rfl ?_
      refine hu_lmul B d_W_putNumber_39 ?_
      refine hu_at 40 rfl ?_
      refine hu_lstore (lv' := [(5, .long _), (3, .long _), (0, .ref 12), (1, .ref 2), (2, .int x)]) B d_W_putNumber_40 (by decide) (fun _ => rfl) ?_
      refine hu_at 42 rfl ?_
      refine hu_goto B d_W_putNumber_42 (t := 23) (by decide) ?_
      exact lp2_W_putNumber B f _ h
set_option maxHeartbeats 2000000 in
set_option maxRecDepth 20000 in
theorem k_W_putNumber {l : Launch} {G : hz_G} {κ : zK} {μ : zM} {ω : Nat → Int64} {D : hz_H} {n : Nat} {x : Int32} {κ' : zK} (h : g_putNumber κ x = some κ') : hz_M lw_tbl zAO zCl zKT l y_W_putNumber c_W_putNumber 7 none (zR 2) G [.ref 12, .ref 2, .int x] (zH κ μ ω D) n (fun r h' n' => r = none ∧ h' = zH κ' μ ω D ∧ n' = n) := by
  unfold g_putNumber at h
  refine hz_body (by decide) (by simp [Value.category]) (by simp) ?_
  intro p e s m args below meth c B
  refine hu_in (lv := [(0, .ref 12), (1, .ref 2), (2, .int x)]) (by simp [hz_L0]) ?_
  refine hu_at 0 rfl ?_
  refine hu_iload_n (k := 2) B d_W_putNumber_0 rfl ?_
  refine hu_at 1 rfl ?_
  refine hu_i2l B d_W_putNumber_1 ?_
  refine hu_at 2 rfl ?_
  refine hu_lstore_n (i := 3) (lv' := [(3, .long _), (0, .ref 12), (1, .ref 2), (2, .int x)]) B d_W_putNumber_2 rfl (by decide) (fun _ => rfl) ?_
  refine hu_at 3 rfl ?_
  refine hu_lload_n (k := 0) B d_W_putNumber_3 rfl ?_
  refine hu_at 4 rfl ?_
  refine hu_lconst B d_W_putNumber_4 ?_
  refine hu_at 5 rfl ?_
  refine hu_lcmp B d_W_putNumber_5 ?_
  refine hu_at 6 rfl ?_
  refine hu_if_ge (t := 20) B d_W_putNumber_6 (by decide) (fun (hc : Int64.ofNat 0 ≤ x.toInt64) => ?_) (fun (hc : ¬ Int64.ofNat 0 ≤ x.toInt64) => ?_)
  · rw [if_pos hc] at h
    refine hu_at 20 rfl ?_
    refine hu_lconst B d_W_putNumber_20 ?_
    refine hu_at 21 rfl ?_
    refine hu_lstore (lv' := [(5, .long _), (3, .long _), (0, .ref 12), (1, .ref 2), (2, .int x)]) B d_W_putNumber_21 (by decide) (fun _ => rfl) ?_
    exact lp2_W_putNumber B 25 _ h
  · rw [if_neg hc] at h
    obtain ⟨⟨a, κ1⟩, h1, h⟩ := Option.bind_eq_some_iff.mp h
    refine hu_at 9 rfl ?_
    refine hu_aload_n (k := 1) B d_W_putNumber_9 rfl ?_
    refine hu_at 10 rfl ?_
    refine hu_aload_n (k := 2) B d_W_putNumber_10 rfl ?_
    refine hu_at 11 rfl ?_
    refine hu_bipush B d_W_putNumber_11 (by decide) ?_
    refine hu_at 13 rfl ?_
    refine hu_put B rfl cb_W_53 im_W_put se_W_put (k_W_put (by first | exact hz_ch_nar _ | rfl) h1) (by decide) (by decide) rfl rfl rfl (by decide) rfl d_W_putNumber_13 ?_
    refine hu_at 16 rfl ?_
    refine hu_pop B d_W_putNumber_16 ?_
    refine hu_at 17 rfl ?_
    refine hu_lload_n (k := 0) B d_W_putNumber_17 rfl ?_
    refine hu_at 18 rfl ?_
    refine hu_lneg B d_W_putNumber_18 ?_
    refine hu_at 19 rfl ?_
    refine hu_lstore_n (i := 3) (lv' := [(3, .long _), (0, .ref 12), (1, .ref 2), (2, .int x)]) B d_W_putNumber_19 rfl (by decide) (fun _ => rfl) ?_
    refine hu_at 20 rfl ?_
    refine hu_lconst B d_W_putNumber_20 ?_
    refine hu_at 21 rfl ?_
    refine hu_lstore (lv' := [(5, .long _), (3, .long _), (0, .ref 12), (1, .ref 2), (2, .int x)]) B d_W_putNumber_21 (by decide) (fun _ => rfl) ?_
    exact lp2_W_putNumber B 25 _ h
set_option maxHeartbeats 2000000 in
set_option maxRecDepth 20000 in
theorem lp3_M_putNumber {l : Launch} {G : hz_G} {κ : zK} {ω : Nat → Int64} {D : hz_H} {n : Nat} {p : Program} {e : Env} {s : State} {m : MethodId} {args : Array Value} {below : List Frame} {meth : Method} {c : Code} (B : hz_B lw_tbl zAO zCl zKT G y_M_putNumber c_M_putNumber 6 none p s m args meth c) {x : Int32} {r : Int64} {μ' : zM} : ∀ (f : Nat) (μ : zM) (u : Int64), m_pn3 r f μ u = some μ' → hz_u G p l e (zR 2) s m args below meth c 6 (MQ below (hz_Q zCl G (fun r h' n' => r = none ∧ h' = zH κ μ' ω D ∧ n' = n)) args s 0 0 (fun q => G.2.2.size ≤ q)) n 0 0 43 [(4, .long u), (2, .long r), (0, .ref 15), (1, .int x)] [] (zH κ μ ω D)
  | 0, _, _, h => by cases h
  | f + 1, μ, u, h => by
    unfold m_pn3 at h
    refine hu_at 43 rfl ?_
    refine hu_lload (k := 0) B d_M_putNumber_43 rfl ?_
    refine hu_at 45 rfl ?_
    refine hu_lconst B d_M_putNumber_45 ?_
    refine hu_at 46 rfl ?_
    refine hu_lcmp B d_M_putNumber_46 ?_
    refine hu_at 47 rfl ?_
    refine hu_if_le (t := 77) B d_M_putNumber_47 (by decide) (fun (hc : u ≤ Int64.ofNat 0) => ?_) (fun (hc : ¬ u ≤ Int64.ofNat 0) => ?_)
    · rw [if_pos hc] at h
      cases h
      exact hu_vret B ⟨rfl, rfl, rfl⟩ (Nat.le_refl _) (Nat.le_refl _) d_M_putNumber_77
    · rw [if_neg hc] at h
      have hne : ¬ u = 0 := fun e => hc (by rw [e]; decide)
      obtain ⟨hg, h⟩ := zgd_some h
      refine hu_at 50 rfl ?_
      refine hu_aload_n (k := 2) B d_M_putNumber_50 rfl ?_
      refine hu_at 51 rfl ?_
      refine hu_bipush B d_M_putNumber_51 (by decide) ?_
      refine hu_at 53 rfl ?_
      refine hu_lload_n (k := 1) B d_M_putNumber_53 rfl ?_
      refine hu_at 54 rfl ?_
      refine hu_lload (k := 0) B d_M_putNumber_54 rfl ?_
      refine hu_at 56 rfl ?_
      refine hu_ldiv B d_M_putNumber_56 (by first | exact hne | decide) ?_
      refine hu_at 57 rfl ?_
      refine hu_ldc2 B d_M_putNumber_57 cl_M_230 ?_
      refine hu_at 60 rfl ?_
      refine hu_lrem B d_M_putNumber_60 (by first | exact hne | decide) ?_
      refine hu_at 61 rfl ?_
      refine hu_l2i B d_M_putNumber_61 ?_
      refine hu_at 62 rfl ?_
      refine hu_iadd B d_M_putNumber_62 ?_
      refine hu_at 63 rfl ?_
      refine hu_put B rfl cb_M_227 im_M_put se_M_put (k_M_put hg) (by decide) (by decide) rfl rfl rfl (by decide) rfl d_M_putNumber_63 ?_
      refine hu_at 66 rfl ?_
      refine hu_lload (k := 0) B d_M_putNumber_66 rfl ?_
      refine hu_at 68 rfl ?_
      refine hu_ldc2 B d_M_putNumber_68 cl_M_230 ?_
      refine hu_at 71 rfl ?_
      refine hu_ldiv B d_M_putNumber_71 (by first | exact hne | decide) ?_
      refine hu_at 72 rfl ?_
      refine hu_lstore (lv' := [(4, .long _), (2, .long _), (0, .ref 15), (1, .int x)]) B d_M_putNumber_72 (by decide) (fun _ => rfl) ?_
      refine hu_at 74 rfl ?_
      refine hu_goto B d_M_putNumber_74 (t := 43) (by decide) ?_
      exact lp3_M_putNumber B f _ _ h
set_option maxHeartbeats 2000000 in
set_option maxRecDepth 20000 in
theorem lp2_M_putNumber {l : Launch} {G : hz_G} {κ : zK} {ω : Nat → Int64} {D : hz_H} {n : Nat} {p : Program} {e : Env} {s : State} {m : MethodId} {args : Array Value} {below : List Frame} {meth : Method} {c : Code} (B : hz_B lw_tbl zAO zCl zKT G y_M_putNumber c_M_putNumber 6 none p s m args meth c) {μ μ' : zM} {x : Int32} {r : Int64} : ∀ (f : Nat) (u : Int64), m_pn2 μ r f u = some μ' → hz_u G p l e (zR 2) s m args below meth c 6 (MQ below (hz_Q zCl G (fun r h' n' => r = none ∧ h' = zH κ μ' ω D ∧ n' = n)) args s 0 0 (fun q => G.2.2.size ≤ q)) n 0 0 21 [(4, .long u), (2, .long r), (0, .ref 15), (1, .int x)] [] (zH κ μ ω D)
  | 0, _, h => by cases h
  | f + 1, u, h => by
    unfold m_pn2 at h
    refine hu_at 21 rfl ?_
    refine hu_lload (k := 0) B d_M_putNumber_21 rfl ?_
    refine hu_at 23 rfl ?_
    refine hu_ldc2 B d_M_putNumber_23 cl_M_230 ?_
    refine hu_at 26 rfl ?_
    refine hu_lmul B d_M_putNumber_26 ?_
    refine hu_at 27 rfl ?_
    refine hu_lload_n (k := 1) B d_M_putNumber_27 rfl ?_
    refine hu_at 28 rfl ?_
    refine hu_lcmp B d_M_putNumber_28 ?_
    refine hu_at 29 rfl ?_
    refine hu_if_gt (t := 43) B d_M_putNumber_29 (by decide) (fun hc => ?_) (fun hc => ?_)
    · rw [if_pos hc] at h
      exact lp3_M_putNumber B 25 _ _ h
    · rw [if_neg hc] at h
      refine hu_at 32 rfl ?_
      refine hu_lload (k := 0) B d_M_putNumber_32 rfl ?_
      refine hu_at 34 rfl ?_
      refine hu_ldc2 B d_M_putNumber_34 cl_M_230 ?_
      refine hu_at 37 rfl ?_
      refine hu_lmul B d_M_putNumber_37 ?_
      refine hu_at 38 rfl ?_
      refine hu_lstore (lv' := [(4, .long _), (2, .long _), (0, .ref 15), (1, .int x)]) B d_M_putNumber_38 (by decide) (fun _ => rfl) ?_
      refine hu_at 40 rfl ?_
      refine hu_goto B d_M_putNumber_40 (t := 21) (by decide) ?_
      exact lp2_M_putNumber B f _ h
set_option maxHeartbeats 2000000 in
set_option maxRecDepth 20000 in
theorem k_M_putNumber {l : Launch} {G : hz_G} {κ : zK} {μ : zM} {ω : Nat → Int64} {D : hz_H} {n : Nat} {x : Int32} {μ' : zM} (h : m_putNumber μ x = some μ') : hz_M lw_tbl zAO zCl zKT l y_M_putNumber c_M_putNumber 6 none (zR 2) G [.ref 15, .int x] (zH κ μ ω D) n (fun r h' n' => r = none ∧ h' = zH κ μ' ω D ∧ n' = n) := by
  unfold m_putNumber at h
  refine hz_body (by decide) (by simp [Value.category]) (by simp) ?_
  intro p e s m args below meth c B
  refine hu_in (lv := [(0, .ref 15), (1, .int x)]) (by simp [hz_L0]) ?_
  refine hu_at 0 rfl ?_
  refine hu_iload_n (k := 1) B d_M_putNumber_0 rfl ?_
  refine hu_at 1 rfl ?_
  refine hu_i2l B d_M_putNumber_1 ?_
  refine hu_at 2 rfl ?_
  refine hu_lstore_n (i := 2) (lv' := [(2, .long _), (0, .ref 15), (1, .int x)]) B d_M_putNumber_2 rfl (by decide) (fun _ => rfl) ?_
  refine hu_at 3 rfl ?_
  refine hu_lload_n (k := 0) B d_M_putNumber_3 rfl ?_
  refine hu_at 4 rfl ?_
  refine hu_lconst B d_M_putNumber_4 ?_
  refine hu_at 5 rfl ?_
  refine hu_lcmp B d_M_putNumber_5 ?_
  refine hu_at 6 rfl ?_
  refine hu_if_ge (t := 18) B d_M_putNumber_6 (by decide) (fun (hc : Int64.ofNat 0 ≤ x.toInt64) => ?_) (fun (hc : ¬ Int64.ofNat 0 ≤ x.toInt64) => ?_)
  · rw [if_pos hc] at h
    refine hu_at 18 rfl ?_
    refine hu_lconst B d_M_putNumber_18 ?_
    refine hu_at 19 rfl ?_
    refine hu_lstore (lv' := [(4, .long _), (2, .long _), (0, .ref 15), (1, .int x)]) B d_M_putNumber_19 (by decide) (fun _ => rfl) ?_
    exact lp2_M_putNumber B 25 _ h
  · rw [if_neg hc] at h
    obtain ⟨hg, h⟩ := zgd_some h
    refine hu_at 9 rfl ?_
    refine hu_aload_n (k := 1) B d_M_putNumber_9 rfl ?_
    refine hu_at 10 rfl ?_
    refine hu_bipush B d_M_putNumber_10 (by decide) ?_
    refine hu_at 12 rfl ?_
    refine hu_put B rfl cb_M_227 im_M_put se_M_put (k_M_put hg) (by decide) (by decide) rfl rfl rfl (by decide) rfl d_M_putNumber_12 ?_
    refine hu_at 15 rfl ?_
    refine hu_lload_n (k := 0) B d_M_putNumber_15 rfl ?_
    refine hu_at 16 rfl ?_
    refine hu_lneg B d_M_putNumber_16 ?_
    refine hu_at 17 rfl ?_
    refine hu_lstore_n (i := 2) (lv' := [(2, .long _), (0, .ref 15), (1, .int x)]) B d_M_putNumber_17 rfl (by decide) (fun _ => rfl) ?_
    refine hu_at 18 rfl ?_
    refine hu_lconst B d_M_putNumber_18 ?_
    refine hu_at 19 rfl ?_
    refine hu_lstore (lv' := [(4, .long _), (2, .long _), (0, .ref 15), (1, .int x)]) B d_M_putNumber_19 (by decide) (fun _ => rfl) ?_
    exact lp2_M_putNumber B 25 _ h
