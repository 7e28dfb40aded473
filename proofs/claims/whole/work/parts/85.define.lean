/-! define: a definition and its reader are made, the text is read. -/
theorem zdf_D {b : Nat} : ∀ j, j < 4 → defaultValue (ty_D j) = hz_v b (([.null, .null, .null, .int 0] : List Value).getD j .null)
  | 0, _ => rfl
  | 1, _ => rfl
  | 2, _ => rfl
  | 3, _ => rfl
  | j + 4, h => by omega
theorem zdf_R {b : Nat} : ∀ j, j < 5 → defaultValue (ty_R j) = hz_v b (([.null, .null, .int 0, .int 0, .int 0] : List Value).getD j .null)
  | 0, _ => rfl
  | 1, _ => rfl
  | 2, _ => rfl
  | 3, _ => rfl
  | 4, _ => rfl
  | j + 5, h => by omega
theorem zsc_go : ∀ (r f k : Nat) (a : Nat → Int32), k + r = 26 → ∃ a', r_sc (f + 1 + r) a (hz_n k) = some a' ∧ ∀ v, a' v = if k ≤ v ∧ v < 26 then hz_n (-1) else a v
  | 0, f, k, a, hk => by
    refine ⟨a, ?_, fun v => by rw [if_neg (by omega)]⟩
    rw [Nat.add_zero, r_sc, zt k (by omega), if_pos (by omega)]
  | r + 1, f, k, a, hk => by
    have e : f + 1 + (r + 1) = (f + 1 + r) + 1 := by omega
    rw [e, r_sc, zt k (by omega), if_neg (by omega), if_pos (by omega), Int.toNat_natCast, zn1]
    obtain ⟨a', h1, h2⟩ := zsc_go r f (k + 1) (upd a k (hz_n (-1))) (by omega)
    refine ⟨a', h1, fun v => ?_⟩
    rw [h2 v]
    unfold upd
    by_cases h : k + 1 ≤ v ∧ v < 26
    · rw [if_pos h, if_pos (by omega)]
    · rw [if_neg h]
      by_cases h3 : v = k
      · rw [if_pos h3, if_pos (by omega)]
      · rw [if_neg h3, if_neg (by omega)]
theorem zsc : r_sc 30 (fun _ => 0) (hz_n 0) = some (fun v => if v < 26 then hz_n (-1) else hz_n 0) := by
  obtain ⟨a', h1, h2⟩ := zsc_go 26 3 0 (fun _ => 0) (by omega)
  have h1' : r_sc 30 (fun _ => 0) (hz_n 0) = some a' := h1
  rw [h1']
  congr 1
  funext v
  rw [h2 v]
  by_cases h : v < 26
  · rw [if_pos (by omega), if_pos h]
  · rw [if_neg (by omega), if_neg h]; rfl
theorem zDf_Q {D : hz_H} {b N : Nat} {ρ : zM} (hb : 40 ≤ b) : zDf (zQ D b N ρ) b (N, ρ.2 0, ρ.2 1, ρ.2 2, ρ.1 0) :=
  ⟨hb, b + 1, b + 2, b + 3, by omega, by omega, by omega, zQ_at 0, zQ_at 1, zQ_at 2, zQ_at 3⟩
set_option maxHeartbeats 4000000 in
set_option maxRecDepth 20000 in
theorem k_F_define {l : Launch} {G : hz_G} {κ : zK} {μ : zM} {ω : Nat → Int64} {D : hz_H} {n N : Nat} {x a : Int32} {ρ' : zM} (hl9 : l.stackTraces = false) (hn : 40 ≤ n) (hD : ∀ i, n ≤ i → D i = none) (hN : N ≤ 40) (h0 : κ.1 0 = hz_n N) (hf : ∀ k, k < N → fits .char (.int (κ.2.1 1 k)) = true) (hr : (65 ≤ x.toInt ∧ x.toInt ≤ 90) → r_read N (jR0 N (κ.2.1 1)) = some (a, ρ')) :
    hz_MX lw_tbl zAO zCl zKT l y_F_define c_F_define 5 (some .int) { frames := 70, cells := 7, slots := 161, locals := 3000 } G [.ref 0, .int x] (zH κ μ ω D) n (fun r h' n' => (65 ≤ x.toInt ∧ x.toInt ≤ 90) ∧ r = some (.int a) ∧ h' = zH (if a.toInt < 0 then kS κ 0 (hz_n 0) else kQ (kS κ 0 (hz_n 0)) 3 (x.toInt.toNat - 65) (some n)) μ ω (zQ D n N ρ') ∧ n' = n + 6)
    (fun E h' n' => ¬ (65 ≤ x.toInt ∧ x.toInt ≤ 90) ∧ E = zIA ∧ h' = zH κ μ ω D ∧ n ≤ n') := by
  refine hz_bodyX (by decide) (by simp [Value.category]) (by simp) ?_
  intro p e s m args below meth c B hYB hx0
  refine hz_go B (ft_F B rfl) (cn_F B rfl) 5 [] ?_
  show q_F_define _ 5 0 [some (.ref 0), some (.int x), none, none, none] [] _
  rw [e_F_define_0, e_F_define_1]
  refine hz_callSX (as2 := [.int x]) (rest := []) B hYB rfl cb_F_31 im_F_letterNumber (k_F_letterNumber hl9 rfl) (by decide) (by decide) rfl (by decide) rfl d_F_define_1 ?_ ?_
  · rintro r h' n' ⟨hx, rfl, rfl, rfl⟩
    obtain ⟨z1, z2, z3, z4, z5⟩ := zletter hx
    have hr := hr hx
    refine zat 4 rfl ?_
    refine hz_go B (ft_F B rfl) (cn_F B rfl) 10 [] ?_
    show q_F_define _ 10 4 _ [.int (x - hz_n 65)] _
    rw [e_F_define_4, e_F_define_5]
    refine hz_new (ci := 0) (r := (R_D, T_D, 4)) (ty := ty_D) (fs := [.null, .null, .null, .int 0]) B rfl in_D pf_D nl_F_35 ns_D ni_D rfl zdf_D (by decide) (by decide) d_F_define_5 ?_
    rw [zH_set hn]
    refine zat 8 rfl ?_
    refine hz_go B (ft_F B rfl) (cn_F B rfl) 20 [] ?_
    show q_F_define _ 20 8 _ _ _
    rw [e_F_define_8, e_F_define_9, e_F_define_10, rd_0_0, e_F_define_13, e_F_define_14, rd_0_1, e_F_define_17, h0]
    refine hz_callI (as2 := [.ref 1, .int (hz_n N)]) (i := n') (rest := [.ref n']) B rfl cb_F_37 im_D_init rfl (k_D_init hn hN hz_set_at hf) (by decide) (by decide) rfl (by simp [Value.category]) rfl d_F_define_17 ?_
    rintro r h' n'' ⟨rfl, rfl, rfl⟩
    refine zat 20 rfl ?_
    refine hz_go B (ft_F B rfl) (cn_F B rfl) 20 [] ?_
    show q_F_define _ 20 20 _ [.ref n'] _
    rw [e_F_define_20, e_F_define_21, e_F_define_22, e_F_define_23, wr_0_1, e_F_define_26]
    refine hz_new (ci := 2) (r := (R_R, T_R, 5)) (ty := ty_R) (fs := [.null, .null, .int 0, .int 0, .int 0]) B rfl in_R pf_R nl_F_40 ns_R ni_R rfl zdf_R (by decide) (by decide) d_F_define_26 ?_
    rw [zH_set (by omega)]
    refine zat 29 rfl ?_
    refine hz_go B (ft_F B rfl) (cn_F B rfl) 20 [] ?_
    show q_F_define _ 20 29 _ _ _
    rw [e_F_define_29, e_F_define_30, e_F_define_31]
    refine hz_callI (as2 := [.ref n']) (i := n' + 4) (rest := [.ref (n' + 4)]) B rfl cb_F_42 im_R_init rfl (k_R_init hn hz_set_at zsc) (by decide) (by decide) rfl (by simp [Value.category]) rfl d_F_define_31 ?_
    rintro r h' n'' ⟨rfl, h1, rfl⟩
    have hw : h' = zH (kS κ 0 (hz_n 0)) μ ω (zQ D n' N (jR0 N (κ.2.1 1))) := by
      rw [h1]
      congr 1
      funext i
      by_cases hi : i < n'
      · rw [hz_set_ne (by omega), hz_set_ne (by omega), hz_set_ne (by omega), hz_set_ne (by omega), hz_set_ne (by omega), hz_set_ne (by omega), hz_set_ne (by omega), hz_set_ne (by omega)]
        unfold zQ
        rw [if_pos hi]
      · obtain ⟨k, rfl⟩ : ∃ k, i = n' + k := ⟨i - n', by omega⟩
        rw [zQ_at]
        match k with
        | 0 =>
          rw [hz_set_ne (by omega), hz_set_ne (by omega), hz_set_ne (by omega), hz_set_ne (by omega), hz_set_ne (by omega), hz_set_ne (by omega)]
          exact hz_set_at
        | 1 =>
          rw [hz_set_ne (by omega), hz_set_ne (by omega), hz_set_ne (by omega), hz_set_ne (by omega), hz_set_ne (by omega)]
          exact hz_set_at
        | 2 =>
          rw [hz_set_ne (by omega), hz_set_ne (by omega), hz_set_ne (by omega), hz_set_ne (by omega)]
          exact hz_set_at
        | 3 =>
          rw [hz_set_ne (by omega), hz_set_ne (by omega), hz_set_ne (by omega)]
          exact hz_set_at
        | 4 =>
          rw [hz_set_ne (by omega)]
          exact hz_set_at
        | 5 => exact hz_set_at
        | k + 6 =>
          rw [hz_set_ne (by omega), hz_set_ne (by omega), hz_set_ne (by omega), hz_set_ne (by omega), hz_set_ne (by omega), hz_set_ne (by omega), hz_set_ne (by omega), hz_set_ne (by omega)]
          exact hD _ (by omega)
    subst hw
    refine zat 34 rfl ?_
    refine hz_go B (ft_F B rfl) (cn_F B rfl) 5 [] ?_
    show q_F_define _ 5 34 _ [.ref (n' + 4)] _
    rw [e_F_define_34]
    refine hz_callV (as2 := []) (rest := []) (i := n' + 4) (ci := 2) (r := (R_R, T_R, 5)) B rfl cb_F_45 im_R_read se_R_read (k_R_read hn hr) (by decide) (by decide) (zq_4 hn) rfl rfl (by decide) rfl d_F_define_34 ?_
    rintro r h' n'' ⟨rfl, rfl, rfl⟩
    refine zat 37 rfl ?_
    refine hz_go B (ft_F B rfl) (cn_F B rfl) 20 [] ?_
    show q_F_define _ 20 37 _ [.int a] _
    rw [e_F_define_37, e_F_define_39, e_F_define_41]
    refine ⟨fun hc => ?_, fun hc => ?_⟩
    · rw [e_F_define_54, e_F_define_56]
      exact hz_reX (hz_iret B rfl ⟨hx, rfl, by rw [if_pos hc], rfl⟩ (by decide) (by decide) d_F_define_56)
    · rw [e_F_define_44, e_F_define_45, rd_0_2, e_F_define_48, rd_2_0, e_F_define_51, e_F_define_52, e_F_define_53]
      refine zaast_3 B (zDf_Q hn) z4 d_F_define_53 ?_
      refine zat 54 rfl ?_
      refine hz_go B (ft_F B rfl) (cn_F B rfl) 5 [] ?_
      show q_F_define _ 5 54 _ _ _
      rw [e_F_define_54, e_F_define_56]
      exact hz_reX (hz_iret B rfl ⟨hx, rfl, by rw [if_neg hc, z5], rfl⟩ (by decide) (by decide) d_F_define_56)
  · rintro E h' n' ⟨hx, rfl, rfl, hn⟩
    exact hz_outX B hx0 ⟨hx, rfl, rfl, hn⟩ (by decide) (by decide)
