/-! The constructor of the reader. Printed by wip/g46.py. -/
set_option maxHeartbeats 2000000 in
set_option maxRecDepth 20000 in
theorem lp_R_init {l : Launch} {G : hz_G} {κ : zK} {μ : zM} {ω : Nat → Int64} {D : hz_H} {n : Nat} {p : Program} {e : Env} {s : State} {m : MethodId} {args : Array Value} {below : List Frame} {meth : Method} {c : Code} (B : hz_B lw_tbl zAO zCl zKT G y_R_init c_R_init 3 none p s m args meth c) {R : Room} {b : Nat} {fs : List Value} (hb : 40 ≤ b) (hD : D (b + 4) = some (.inr (2, fs))) (hf : fs[1]? = some (.ref (b + 5))) {a' : Nat → Int32} : ∀ (f : Nat) (a : Nat → Int32) (k : Int32), r_sc f a k = some a' → hz_g zCl G p l e R s m args below meth c 3 (MQ below (hz_Q zCl G (fun r h' n' => r = none ∧ h' = zH κ μ ω (hz_set D (b + 5) (.inl (1, 26, hz_i a'))) ∧ n' = n)) args s 1 26 (fun q => G.2.2.size ≤ q)) n 1 26 34 [some (.ref (b + 4)), some (.ref b), some (.int k)] [] (zH κ μ ω (hz_set D (b + 5) (.inl (1, 26, hz_i a))))
  | 0, _, _, h => by cases h
  | f + 1, a, k, h => by
    unfold r_sc at h
    have rd : ∀ (K : Value → Prop), hz_rd (zH κ μ ω (hz_set D (b + 5) (.inl (1, 26, hz_i a)))) (b + 4) 2 1 K = K (.ref (b + 5)) := fun K => zrd_at (by omega) ((hz_set_ne (by omega)).trans hD) hf
    have es : ∀ (x y : Int32) (K : hz_H → Prop), hz_es zKT hz_kI (zH κ μ ω (hz_set D (b + 5) (.inl (1, 26, hz_i a)))) (b + 5) x (.int y) K = ((0 ≤ x.toInt ∧ x.toInt.toNat < 26) ∧ K (zH κ μ ω (hz_set D (b + 5) (.inl (1, 26, hz_i (upd a x.toInt.toNat y)))))) := fun x y K => by rw [zes_at (by omega) hz_set_at rfl rfl, hz_set_set]
    refine hz_go B (ft_Ri B rfl rfl) (cn_R B rfl) 20 [34] ?_
    show q_R_init _ 20 34 _ _ _
    simp only [↓e_R_init_0, ↓e_R_init_0n, ↓e_R_init_1, ↓e_R_init_4, ↓e_R_init_4n, ↓e_R_init_5, ↓e_R_init_7, ↓e_R_init_9, ↓e_R_init_12, ↓e_R_init_12n, ↓e_R_init_13, ↓e_R_init_14, ↓e_R_init_17, ↓e_R_init_17n, ↓e_R_init_18, ↓e_R_init_19, ↓e_R_init_22, ↓e_R_init_22n, ↓e_R_init_23, ↓e_R_init_24, ↓e_R_init_27, ↓e_R_init_27n, ↓e_R_init_28, ↓e_R_init_28n, ↓e_R_init_29, ↓e_R_init_32, ↓e_R_init_33, ↓e_R_init_34, ↓e_R_init_35, ↓e_R_init_37, ↓e_R_init_40, ↓e_R_init_40n, ↓e_R_init_41, ↓e_R_init_44, ↓e_R_init_45, ↓e_R_init_46, ↓e_R_init_47, ↓e_R_init_50, ↓e_R_init_53, ↓rd, ↓es]
    simp only [hz_t_26]
    refine ⟨fun hc => ?_, fun hc => ?_⟩
    · rw [if_pos hc] at h
      cases h
      exact hz_vret B ⟨rfl, rfl, rfl⟩ (Nat.le_refl _) (Nat.le_refl _) d_R_init_53
    · rw [if_neg hc] at h
      split at h
      · exact ⟨by omega, lp_R_init B hb hD hf f _ _ h⟩
      · cases h
set_option maxHeartbeats 2000000 in
set_option maxRecDepth 20000 in
theorem k_R_init {l : Launch} {G : hz_G} {κ : zK} {μ : zM} {ω : Nat → Int64} {D : hz_H} {b : Nat} {v0 v1 v2 v3 v4 : Value} {a' : Nat → Int32} (hb : 40 ≤ b) (hD : D (b + 4) = some (.inr (2, [v0, v1, v2, v3, v4]))) (h : r_sc 30 (fun _ => 0) (hz_n 0) = some a') : hz_M lw_tbl zAO zCl zKT l y_R_init c_R_init 3 none { frames := 2, cells := 1, slots := 26, locals := 80 } G [.ref (b + 4), .ref b] (zH κ μ ω D) (b + 5) (fun r h' n' => r = none ∧ h' = zH κ μ ω (hz_set (hz_set D (b + 4) (.inr (2, [.ref b, .ref (b + 5), .int (hz_n 0), .int (hz_n 0), .int (hz_n (-1))]))) (b + 5) (.inl (1, 26, hz_i a'))) ∧ n' = b + 5 + 1) := by
  refine hz_body (by decide) (by simp [Value.category]) (by simp) ?_
  intro p e s m args below meth c B
  refine hz_go B (ft_Ri B rfl rfl) (cn_R B rfl) 5 [34] ?_
  show q_R_init _ 5 0 [some (.ref (b + 4)), some (.ref b), none] [] _
  rw [e_R_init_0, e_R_init_1]
  refine hz_objInit B ol_R ol_i ol_c d_R_init_1 (by decide) (by decide) ?_
  refine zat 4 rfl ?_
  refine hz_go B (ft_Ri B rfl rfl) (cn_R B rfl) 5 [34] ?_
  show q_R_init _ 5 4 _ _ _
  rw [e_R_init_4, e_R_init_5, e_R_init_7]
  refine hz_newa (aty := .int) (ty := .int) (t := 1) (N := 26) (v0 := .int 0) B rfl rfl (fun _ => rfl) ac_int rfl rfl (by rw [hz_t_26]; decide) (by rw [hz_t_26]; rfl) (by decide) (by decide) (by decide) d_R_init_7 ?_
  rw [zH_set (by omega)]
  refine zat 9 rfl ?_
  refine hz_go B (ft_Ri B rfl rfl) (cn_R B rfl) 40 [34] ?_
  show q_R_init _ 40 9 _ _ _
  rw [e_R_init_9, zwr_at (by omega) ((hz_set_ne (by omega)).trans hD) (by simp), e_R_init_12, e_R_init_13, e_R_init_14, zwr_at (by omega) hz_set_at (by simp), hz_set_set, e_R_init_17, e_R_init_18, e_R_init_19]
  refine ⟨⟨rfl, rfl⟩, ?_⟩
  rw [zwr_at (by omega) hz_set_at (by simp), hz_set_set, e_R_init_22, e_R_init_23, e_R_init_24, zwr_at (by omega) hz_set_at (by simp), hz_set_set, e_R_init_27, e_R_init_28, e_R_init_29, zwr_at (by omega) hz_set_at (by simp), hz_set_set, e_R_init_32, e_R_init_33, hz_set_comm (i := b + 5) (k := b + 4) (by omega)]
  exact lp_R_init (fs := [.ref b, .ref (b + 5), .int (hz_n 0), .int (hz_n 0), .int (hz_n (-1))]) B hb hz_set_at rfl 30 (fun _ => 0) _ h
