/-! The class's methods that may throw. -/
abbrev zRT : Room := { frames := 6, cells := 1, slots := 6, locals := 200 }
theorem zx_fA : Bundle.fit zIA = true := by decide +kernel
theorem zx_fS : Bundle.fit zIS = true := by decide +kernel
theorem zx_fn : ∀ n ∈ zXn, Bundle.fit n = true := by decide +kernel
theorem zx_A1 : ∀ w ∈ (vx_atS R_F 69 zIA zXn).filter goodWord, w ∈ hz_T lw_tbl := by decide +kernel
theorem zx_A2 : ∀ w ∈ (vx_atS R_F 69 zIA zXn).filter (fun w => !goodWord w), w ∈ [Cond.castable zIA zIA, Cond.declares ⟨"java/lang/RuntimeException", "<init>", "(Ljava/lang/String;)V"⟩, Cond.declares ⟨"java/lang/Exception", "<init>", "(Ljava/lang/String;)V"⟩, Cond.declares ⟨"java/lang/Throwable", "<init>", "(Ljava/lang/String;)V"⟩] := by decide +kernel
theorem zx_A3 : ∀ w ∈ Cond.classLink R_F 65 zIA :: Cond.initialized zIA :: vx_atS R_F 69 zIA zXn, vx_ot w = true := by decide +kernel
theorem zx_S1 : ∀ w ∈ (vx_atS R_F 98 zIS zXn).filter goodWord, w ∈ hz_T lw_tbl := by decide +kernel
theorem zx_S2 : ∀ w ∈ (vx_atS R_F 98 zIS zXn).filter (fun w => !goodWord w), w ∈ [Cond.castable zIS zIS, Cond.declares ⟨"java/lang/RuntimeException", "<init>", "(Ljava/lang/String;)V"⟩, Cond.declares ⟨"java/lang/Exception", "<init>", "(Ljava/lang/String;)V"⟩, Cond.declares ⟨"java/lang/Throwable", "<init>", "(Ljava/lang/String;)V"⟩] := by decide +kernel
theorem zx_S3 : ∀ w ∈ Cond.classLink R_F 94 zIS :: Cond.initialized zIS :: vx_atS R_F 98 zIS zXn, vx_ot w = true := by decide +kernel
set_option maxHeartbeats 2000000 in
set_option maxRecDepth 20000 in
theorem k_F_letterNumber {l : Launch} {G : hz_G} {h : hz_H} {κ : zK} {μ : zM} {ω : Nat → Int64} {D : hz_H} {n : Nat} {x : Int32} (hl9 : l.stackTraces = false) (hh : h = zH κ μ ω D) : hz_MX lw_tbl zAO zCl zKT l y_F_letterNumber c_F_letterNumber 1 (some .int) zRT G [.int x] h n (fun r h' n' => (65 ≤ x.toInt ∧ x.toInt ≤ 90) ∧ r = some (.int (x - hz_n 65)) ∧ h' = h ∧ n' = n) (fun E h' n' => ¬ (65 ≤ x.toInt ∧ x.toInt ≤ 90) ∧ E = zIA ∧ h' = h ∧ n ≤ n') := by
  subst hh
  refine hz_bodyX (by decide) (by simp [Value.category]) (by simp) ?_
  intro p e s m args below meth c B hYB hx0
  refine hz_go B (ft_F B rfl) (cn_F B rfl) 5 [] ?_
  show q_F_letterNumber _ 5 0 [some (.int x)] [] _
  rw [e_F_letterNumber_0, e_F_letterNumber_1]
  refine hz_callS (as2 := [.int x]) (rest := []) B rfl cb_F_57 im_F_isLetter k_F_isLetter (by decide) (by decide) rfl (by decide) rfl d_F_letterNumber_1 ?_
  rintro r h' n' ⟨rfl, rfl, rfl⟩
  refine zat 4 rfl ?_
  refine hz_go B (ft_F B rfl) (cn_F B rfl) 10 [] ?_
  show q_F_letterNumber _ 10 4 _ [.int (if 65 ≤ x.toInt ∧ x.toInt ≤ 90 then hz_n 1 else hz_n 0)] _
  rw [e_F_letterNumber_4, z_ite0]
  refine ⟨fun hc => ?_, fun hc => ?_⟩
  · have hx : 65 ≤ x.toInt ∧ x.toInt ≤ 90 := Classical.not_not.mp hc
    rw [e_F_letterNumber_17, e_F_letterNumber_18, e_F_letterNumber_20, e_F_letterNumber_21]
    exact hz_reX (hz_iret B rfl ⟨hx, rfl, rfl, rfl⟩ (by decide) (by decide) d_F_letterNumber_21)
  · have hx : ¬ (65 ≤ x.toInt ∧ x.toInt ≤ 90) := Classical.not_not.mp hc
    obtain ⟨sa, hsa⟩ := hYB.1.2.1.1
    rw [e_F_letterNumber_7]
    exact hz_throw (text := "the letter is not A .. Z") B hYB hx0 hl9 zx_fA zx_fn xw_A65 xw_Ai hsa hYB.1.2.2.1.1 zx_A1 zx_A2 zx_A3 d_F_letterNumber_7 d_F_letterNumber_10 d_F_letterNumber_11 d_F_letterNumber_13 d_F_letterNumber_16 (by decide) (by decide) (by decide) (by decide) (by decide) (by decide) (fun n' hn => ⟨hx, rfl, rfl, hn⟩)
set_option maxHeartbeats 2000000 in
set_option maxRecDepth 20000 in
theorem k_F_checkDefined {l : Launch} {G : hz_G} {h : hz_H} {κ : zK} {μ : zM} {ω : Nat → Int64} {D : hz_H} {n : Nat} {x : Int32} (hl9 : l.stackTraces = false) (hh : h = zH κ μ ω D) (hx : 0 ≤ x.toInt ∧ x.toInt.toNat < 26) : hz_MX lw_tbl zAO zCl zKT l y_F_checkDefined c_F_checkDefined 2 none zRT G [.ref 0, .int x] h n (fun r h' n' => κ.2.2 3 x.toInt.toNat ≠ none ∧ r = none ∧ h' = h ∧ n' = n) (fun E h' n' => κ.2.2 3 x.toInt.toNat = none ∧ E = zIS ∧ h' = h ∧ n ≤ n') := by
  subst hh
  refine hz_bodyX (by decide) (by simp [Value.category]) (by simp) ?_
  intro p e s m args below meth c B hYB hx0
  refine hz_go B (ft_F B rfl) (cn_F B rfl) 20 [] ?_
  show q_F_checkDefined _ 20 0 [some (.ref 0), some (.int x)] [] _
  rw [e_F_checkDefined_0, e_F_checkDefined_1, rd_0_2, e_F_checkDefined_4, rd_2_0, e_F_checkDefined_7, e_F_checkDefined_8, ea_3]
  refine ⟨hx, ?_⟩
  cases hq : κ.2.2 3 x.toInt.toNat with
  | none =>
    obtain ⟨sa, hsa⟩ := hYB.1.2.1.2.1
    rw [va_rf_n, e_F_checkDefined_9n, e_F_checkDefined_12]
    exact hz_throw (text := "the letter stands for nothing") B hYB hx0 hl9 zx_fS zx_fn xw_S94 xw_Si hsa hYB.1.2.2.1.2 zx_S1 zx_S2 zx_S3 d_F_checkDefined_12 d_F_checkDefined_15 d_F_checkDefined_16 d_F_checkDefined_18 d_F_checkDefined_21 (by decide) (by decide) (by decide) (by decide) (by decide) (by decide) (fun n' hn => ⟨rfl, rfl, rfl, hn⟩)
  | some d =>
    rw [va_rf_s, e_F_checkDefined_9, e_F_checkDefined_22]
    exact hz_reX (hz_vret B ⟨(by intro q; cases q), rfl, rfl, rfl⟩ (by decide) (by decide) d_F_checkDefined_22)
/-- a letter is forgotten -/
theorem zaastN_3 {l : Launch} {G : hz_G} {κ : zK} {μ : zM} {ω : Nat → Int64} {D : hz_H} {n : Nat} {p : Program} {e : Env} {R : Room} {s : State} {m : MethodId} {args : Array Value} {below : List Frame} {meth : Method} {c : Code} {y : MethodName} {cc : ByteArray} {nL : Nat} {ret : Option FieldType} {Q : State → Prop} {cells slots pc : Nat} {L : List (Option Value)} {st : List Value} {x : Int32} (B : hz_B lw_tbl zAO zCl zKT G y cc nL ret p s m args meth c) (hx : 0 ≤ x.toInt ∧ x.toInt.toNat < 26) (hdg : decode cc pc = .ok (.aastore, 1))
    (kk : hz_g zCl G p l e R s m args below meth c nL Q n cells slots (pc + 1) L st (zH (kQ κ 3 x.toInt.toNat none) μ ω D)) : hz_g zCl G p l e R s m args below meth c nL Q n cells slots pc L (.null :: .int x :: .ref 3 :: st) (zH κ μ ω D) := by
  intro H locs ls hR hl hL
  refine hz_aastN (C := "LazyGraphs$Definition") (t := 2) (len := 26) B.1 B.2.1 hR (B.2.2.2.2.2.2.2.1.2.1 2 _ rfl).1 rfl hx hl hdg fun H1 locs1 hR1 hl1 => ?_
  refine kk H1 locs1 ls ?_ hl1 hL
  rw [← sq_3, va_rf_n]
  exact hR1
theorem zletter {x : Int32} (hx : 65 ≤ x.toInt ∧ x.toInt ≤ 90) : (x - hz_n 65) = hz_n (x.toInt.toNat - 65 : Nat) ∧ x = hz_n (65 + (x.toInt.toNat - 65) : Nat) ∧ x.toInt.toNat - 65 < 26 ∧ (0 ≤ (x - hz_n 65).toInt ∧ (x - hz_n 65).toInt.toNat < 26) ∧ (x - hz_n 65).toInt.toNat = x.toInt.toNat - 65 := by
  have e1 : (x - hz_n 65) = hz_n (x.toInt.toNat - 65 : Nat) := by
    have : x = hz_n x.toInt := (zn_of x).symm
    rw [this, zn_sub, zn_ti (by omega)]; congr 1; omega
  have e2 : x = hz_n (65 + (x.toInt.toNat - 65) : Nat) := by
    have h1 : ((65 + (x.toInt.toNat - 65) : Nat) : Int) = x.toInt := by omega
    rw [h1]; exact (zn_of x).symm
  refine ⟨e1, e2, by omega, ?_, ?_⟩
  · rw [e1, zt _ (by omega), Int.toNat_natCast]; omega
  · rw [e1, zt _ (by omega), Int.toNat_natCast]
set_option maxHeartbeats 2000000 in
set_option maxRecDepth 20000 in
theorem k_F_forget {l : Launch} {G : hz_G} {κ : zK} {μ : zM} {ω : Nat → Int64} {D : hz_H} {n : Nat} {x : Int32} (hl9 : l.stackTraces = false) : hz_MX lw_tbl zAO zCl zKT l y_F_forget c_F_forget 3 none { frames := 8, cells := 2, slots := 12, locals := 300 } G [.ref 0, .int x] (zH κ μ ω D) n (fun r h' n' => (65 ≤ x.toInt ∧ x.toInt ≤ 90) ∧ κ.2.2 3 (x.toInt.toNat - 65) ≠ none ∧ r = none ∧ h' = zH (kQ κ 3 (x.toInt.toNat - 65) none) μ ω D ∧ n' = n)
    (fun E h' n' => ((¬ (65 ≤ x.toInt ∧ x.toInt ≤ 90) ∧ E = zIA) ∨ ((65 ≤ x.toInt ∧ x.toInt ≤ 90) ∧ κ.2.2 3 (x.toInt.toNat - 65) = none ∧ E = zIS)) ∧ h' = zH κ μ ω D ∧ n ≤ n') := by
  refine hz_bodyX (by decide) (by simp [Value.category]) (by simp) ?_
  intro p e s m args below meth c B hYB hx0
  refine hz_go B (ft_F B rfl) (cn_F B rfl) 5 [] ?_
  show q_F_forget _ 5 0 [some (.ref 0), some (.int x), none] [] _
  rw [e_F_forget_0, e_F_forget_1]
  refine hz_callSX (as2 := [.int x]) (rest := []) B hYB rfl cb_F_31 im_F_letterNumber (k_F_letterNumber hl9 rfl) (by decide) (by decide) rfl (by decide) rfl d_F_forget_1 ?_ ?_
  · rintro r h' n' ⟨hx, rfl, rfl, rfl⟩
    obtain ⟨z1, z2, z3, z4, z5⟩ := zletter hx
    refine zat 4 rfl ?_
    refine hz_go B (ft_F B rfl) (cn_F B rfl) 10 [] ?_
    show q_F_forget _ 10 4 _ [.int (x - hz_n 65)] _
    rw [e_F_forget_4, e_F_forget_5, e_F_forget_6, e_F_forget_7]
    refine hz_callVX (as2 := [.int (x - hz_n 65)]) (rest := []) (i := 0) (ci := 4) (r := (R_F, T_F, 4)) B hYB rfl cb_F_53 im_F_checkDefined se_F_checkDefined (k_F_checkDefined hl9 rfl z4) (by decide) (by decide) rfl rfl rfl (by decide) rfl d_F_forget_7 ?_ ?_
    · rintro r h' n' ⟨hq, rfl, rfl, rfl⟩
      refine zat 10 rfl ?_
      refine hz_go B (ft_F B rfl) (cn_F B rfl) 10 [] ?_
      show q_F_forget _ 10 10 _ [] _
      rw [e_F_forget_10, e_F_forget_11, rd_0_2, e_F_forget_14, rd_2_0, e_F_forget_17, e_F_forget_18, e_F_forget_19]
      refine zaastN_3 B z4 d_F_forget_19 ?_
      refine zat 20 rfl ?_
      refine hz_go B (ft_F B rfl) (cn_F B rfl) 3 [] ?_
      show q_F_forget _ 3 20 _ _ _
      rw [e_F_forget_20]
      rw [z5] at hq
      exact hz_reX (hz_vret B ⟨hx, hq, rfl, by rw [z5], rfl⟩ (by decide) (by decide) d_F_forget_20)
    · rintro E h' n' ⟨hq, rfl, rfl, hn⟩
      rw [z5] at hq
      exact hz_outX B hx0 ⟨.inr ⟨hx, hq, rfl⟩, rfl, hn⟩ (by decide) (by decide)
  · rintro E h' n' ⟨hx, rfl, rfl, hn⟩
    exact hz_outX B hx0 ⟨.inl ⟨hx, rfl⟩, rfl, hn⟩ (by decide) (by decide)
set_option maxHeartbeats 2000000 in
set_option maxRecDepth 20000 in
theorem k_F_run {l : Launch} {G : hz_G} {κ : zK} {μ : zM} {ω : Nat → Int64} {D : hz_H} {n : Nat} {x y : Int32} {E : Nat → Option zT} {κ2 : zK} (hl9 : l.stackTraces = false) (hE : zE D E) (hr : (65 ≤ x.toInt ∧ x.toInt ≤ 90) → (1 ≤ y.toInt ∧ y.toInt ≤ 50) → κ.2.2 3 (x.toInt.toNat - 65) ≠ none → ∃ κ1, g_begin κ (x - hz_n 65) y = some κ1 ∧ g_write κ1 E = some κ2) :
    hz_MX lw_tbl zAO zCl zKT l y_F_run c_F_run 4 (some .int) { frames := 10, cells := 3, slots := 18, locals := 400 } G [.ref 0, .int x, .int y] (zH κ μ ω D) n (fun r h' n' => (65 ≤ x.toInt ∧ x.toInt ≤ 90) ∧ (1 ≤ y.toInt ∧ y.toInt ≤ 50) ∧ κ.2.2 3 (x.toInt.toNat - 65) ≠ none ∧ r = some (.int (if (κ2.1 5).toInt = 0 then κ2.1 6 else κ2.1 5)) ∧ h' = zH κ2 μ ω D ∧ n' = n)
    (fun E h' n' => ((¬ ((65 ≤ x.toInt ∧ x.toInt ≤ 90) ∧ (1 ≤ y.toInt ∧ y.toInt ≤ 50)) ∧ E = zIA) ∨ ((65 ≤ x.toInt ∧ x.toInt ≤ 90) ∧ (1 ≤ y.toInt ∧ y.toInt ≤ 50) ∧ κ.2.2 3 (x.toInt.toNat - 65) = none ∧ E = zIS)) ∧ h' = zH κ μ ω D ∧ n ≤ n') := by
  refine hz_bodyX (by decide) (by simp [Value.category]) (by simp) ?_
  intro p e s m args below meth c B hYB hx0
  refine hz_go B (ft_F B rfl) (cn_F B rfl) 5 [] ?_
  show q_F_run _ 5 0 [some (.ref 0), some (.int x), some (.int y), none] [] _
  rw [e_F_run_0, e_F_run_1]
  refine hz_callSX (as2 := [.int x]) (rest := []) B hYB rfl cb_F_31 im_F_letterNumber (k_F_letterNumber hl9 rfl) (by decide) (by decide) rfl (by decide) rfl d_F_run_1 ?_ ?_
  · rintro r h' n' ⟨hx, rfl, rfl, rfl⟩
    obtain ⟨z1, z2, z3, z4, z5⟩ := zletter hx
    have thr : ¬ (1 ≤ y.toInt ∧ y.toInt ≤ 50) → ∀ (L : List (Option Value)), hz_g zCl G p l e { frames := 10, cells := 3, slots := 18, locals := 400 } s m args below meth c 4 (hz_MQ zCl G below (fun r h' n9 => (65 ≤ x.toInt ∧ x.toInt ≤ 90) ∧ (1 ≤ y.toInt ∧ y.toInt ≤ 50) ∧ κ.2.2 3 (x.toInt.toNat - 65) ≠ none ∧ r = some (.int (if (κ2.1 5).toInt = 0 then κ2.1 6 else κ2.1 5)) ∧ h' = zH κ2 μ ω D ∧ n9 = n')
        (fun E h' n9 => ((¬ ((65 ≤ x.toInt ∧ x.toInt ≤ 90) ∧ (1 ≤ y.toInt ∧ y.toInt ≤ 50)) ∧ E = zIA) ∨ ((65 ≤ x.toInt ∧ x.toInt ≤ 90) ∧ (1 ≤ y.toInt ∧ y.toInt ≤ 50) ∧ κ.2.2 3 (x.toInt.toNat - 65) = none ∧ E = zIS)) ∧ h' = zH κ μ ω D ∧ n' ≤ n9) args s 3 18) n' 1 6 16 L [] (zH κ μ ω D) := fun hy L => by
      obtain ⟨sa, hsa⟩ := hYB.1.2.1.2.2
      exact hz_throw (text := "the entries are not 1 .. 50") B hYB hx0 hl9 zx_fA zx_fn xw_A65 xw_Ai hsa hYB.1.2.2.1.1 zx_A1 zx_A2 zx_A3 d_F_run_16 d_F_run_19 d_F_run_20 d_F_run_22 d_F_run_25 (by decide) (by decide) (by decide) (by decide) (by decide) (by decide) (fun n9 hn => ⟨.inl ⟨fun q => hy q.2, rfl⟩, rfl, hn⟩)
    refine zat 4 rfl ?_
    refine hz_go B (ft_F B rfl) (cn_F B rfl) 30 [] ?_
    show q_F_run _ 30 4 _ [.int (x - hz_n 65)] _
    rw [e_F_run_4, e_F_run_5, e_F_run_6, e_F_run_7, hz_t_1]
    refine ⟨fun hy => ?_, fun hy => ?_⟩
    · rw [e_F_run_16]
      exact thr (by omega) _
    · rw [e_F_run_10, e_F_run_11, e_F_run_13, hz_t_50]
      refine ⟨fun hy2 => ?_, fun hy2 => ?_⟩
      · have hyy : 1 ≤ y.toInt ∧ y.toInt ≤ 50 := by omega
        rw [e_F_run_26, e_F_run_27, e_F_run_28]
        refine hz_callVX (as2 := [.int (x - hz_n 65)]) (rest := []) (i := 0) (ci := 4) (r := (R_F, T_F, 4)) B hYB rfl cb_F_53 im_F_checkDefined se_F_checkDefined (k_F_checkDefined hl9 rfl z4) (by decide) (by decide) rfl rfl rfl (by decide) rfl d_F_run_28 ?_ ?_
        · rintro r h' n' ⟨hq, rfl, rfl, rfl⟩
          rw [z5] at hq
          obtain ⟨κ1, g1, g2⟩ := hr hx hyy hq
          refine zat 31 rfl ?_
          refine hz_go B (ft_F B rfl) (cn_F B rfl) 20 [] ?_
          show q_F_run _ 20 31 _ [] _
          rw [e_F_run_31, e_F_run_32, rd_0_2, e_F_run_35, e_F_run_36, e_F_run_37]
          refine hz_callV (as2 := [.int (x - hz_n 65), .int y]) (rest := []) (i := 2) (ci := 1) (r := (R_G, T_G, 14)) B rfl cb_F_72 im_G_begin se_G_begin (k_G_begin g1) (by decide) (by decide) rfl rfl rfl (by decide) rfl d_F_run_37 ?_
          rintro r h' n' ⟨rfl, rfl, rfl⟩
          refine zat 40 rfl ?_
          refine hz_go B (ft_F B rfl) (cn_F B rfl) 20 [] ?_
          show q_F_run _ 20 40 _ [] _
          rw [e_F_run_40, e_F_run_41, rd_0_3, e_F_run_44, e_F_run_45, rd_0_2, e_F_run_48]
          refine hz_callV (as2 := [.ref 2]) (rest := []) (i := 12) (ci := 3) (r := (R_W, T_W, 6)) B rfl cb_F_76 im_W_write se_W_write (k_W_write hE g2) (by decide) (by decide) rfl rfl rfl (by decide) rfl d_F_run_48 ?_
          rintro r h' n' ⟨rfl, rfl, rfl⟩
          refine zat 51 rfl ?_
          refine hz_go B (ft_F B rfl) (cn_F B rfl) 30 [] ?_
          show q_F_run _ 30 51 _ [] _
          rw [e_F_run_51, e_F_run_52, rd_0_2, e_F_run_55, rd_2_13, e_F_run_58]
          refine ⟨fun hc => ?_, fun hc => ?_⟩
          · rw [e_F_run_71, e_F_run_72, rd_0_2, e_F_run_75, rd_2_13, e_F_run_78]
            exact hz_reX (hz_iret B rfl ⟨hx, hyy, hq, by rw [if_neg hc], rfl, rfl⟩ (by decide) (by decide) d_F_run_78)
          · rw [e_F_run_61, e_F_run_62, rd_0_3, e_F_run_65, rd_12_1, e_F_run_68, e_F_run_78]
            exact hz_reX (hz_iret B rfl ⟨hx, hyy, hq, by rw [if_pos (Classical.not_not.mp hc)], rfl, rfl⟩ (by decide) (by decide) d_F_run_78)
        · rintro E h' n' ⟨hq, rfl, rfl, hn⟩
          rw [z5] at hq
          exact hz_outX B hx0 ⟨.inr ⟨hx, hyy, hq, rfl⟩, rfl, hn⟩ (by decide) (by decide)
      · rw [e_F_run_16]
        exact thr (by omega) _
  · rintro E h' n' ⟨hx, rfl, rfl, hn⟩
    exact hz_outX B hx0 ⟨.inl ⟨fun q => hx q.1, rfl⟩, rfl, hn⟩ (by decide) (by decide)
