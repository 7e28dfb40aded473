/-! The constructor of the class itself. -/
section
variable {tbl : List Cond} {AO : List String} {cl : List vw_C} {KT : List FieldType} {G : hz_G} {y y2 : MethodName} {cc cc2 : ByteArray} {nL nL2 : Nat} {ret : Option FieldType} {p : Program} {l : Launch} {e : Env} {R rm2 : Room} {s : State} {m : MethodId} {args : Array Value} {below : List Frame} {meth : Method} {c : Code} {Q : State → Prop} {n cells slots pc : Nat} {L : List (Option Value)} {st : List Value} {h : hz_H} {post : Option Value → hz_H → Nat → Prop}
theorem hz_callIN {own : String} {idx k i : Nat} {as2 rest : List Value} (B : hz_B tbl AO cl KT G y cc nL ret p s m args meth c) (hown : y.cls = own) (cb : hz_cN tbl own idx y2 cc2 nL2 none k) (hin : Cond.instanceMethod y2 ∈ hz_T tbl) (hy2 : y2.name = "<init>")
    (hM : hz_M tbl AO cl KT l y2 cc2 nL2 none rm2 G (.ref i :: as2) h n post) (hR : rm2.frames + 1 ≤ R.frames ∧ 8 + (nL2 + 11) + rm2.locals ≤ R.locals) (hf : cells + rm2.cells ≤ R.cells ∧ slots + rm2.slots ≤ R.slots) (hk : as2.length = k) (hW : (rest.map fun v => v.category).sum ≤ 8) (hst : st = as2.reverse ++ .ref i :: rest) (hdg : decode cc pc = .ok (.invokespecial idx, 3))
    (kk : ∀ (r : Option Value) (h' : hz_H) (n' : Nat), post r h' n' → hz_g cl G p l e R s m args below meth c nL Q n' (cells + rm2.cells) (slots + rm2.slots) (pc + 3) L (r.toList ++ rest) h') : hz_g cl G p l e R s m args below meth c nL Q n cells slots pc L st h := by
  intro H locs ls hRR hl hL
  obtain ⟨b1, b2, b3, b4, b5, b6, b7, b8, b9, b10⟩ := id B
  subst hown
  subst hst
  obtain ⟨host, cw⟩ := hz_cnw (R := R) B cb hR
  have S : CallFix p m c cc nL s args (hz_T tbl) y.cls := ⟨b1, b2, b3, b7, b6⟩
  refine hz_ran (va_runIN (As := as2.map (hz_v G.2.2.size)) (b := G.2.2.size + i) S hM ⟨cw, hy2, b6 _ hin⟩ ⟨hz_P.blind, ?_⟩ rfl (by rw [List.length_map]; exact hk) hL.2.1 ?_ ?_ hdg hf) hl hL kk
  · exact hz_pre (as := .ref i :: as2) B hRR
  · simp [List.map_append, List.map_reverse, hz_v]
  · simp only [List.map_map]
    rw [show ((fun v : Value => v.category) ∘ hz_v G.2.2.size) = fun v => v.category from funext fun v => hz_v_cat _ v]
    show 2 * 0 + (rest.map fun v => v.category).sum ≤ 8
    omega
end
theorem zdf_G {b : Nat} : ∀ j, j < 14 → defaultValue (ty_G j) = hz_v b (([.null, .null, .null, .null, .null, .null, .null, .null, .null, .int 0, .int 0, .int 0, .int 0, .int 0] : List Value).getD j .null)
  | 0, _ => rfl
  | 1, _ => rfl
  | 2, _ => rfl
  | 3, _ => rfl
  | 4, _ => rfl
  | 5, _ => rfl
  | 6, _ => rfl
  | 7, _ => rfl
  | 8, _ => rfl
  | 9, _ => rfl
  | 10, _ => rfl
  | 11, _ => rfl
  | 12, _ => rfl
  | 13, _ => rfl
  | j + 14, h => by omega
theorem zdf_W {b : Nat} : ∀ j, j < 6 → defaultValue (ty_W j) = hz_v b (([.null, .int 0, .null, .int 0, .int 0, .int 0] : List Value).getD j .null)
  | 0, _ => rfl
  | 1, _ => rfl
  | 2, _ => rfl
  | 3, _ => rfl
  | 4, _ => rfl
  | 5, _ => rfl
  | j + 6, h => by omega
set_option maxHeartbeats 4000000 in
set_option maxRecDepth 20000 in
theorem k_F_init {l : Launch} {G : hz_G} {h : hz_H} {v0 v1 v2 v3 : Value} (hD : h 0 = some (.inr (4, [v0, v1, v2, v3]))) : hz_M lw_tbl zAO zCl zKT l y_F_init c_F_init 1 none { frames := 4, cells := 14, slots := 12300, locals := 200 } G [.ref 0] h 1 (fun r h' n' => r = none ∧ n' = 15 ∧ h' 0 = some (.inr (4, [.ref 1, .int (hz_n 0), .ref 2, .ref 12])) ∧ h' 1 = some (.inl (0, 40, fun _ => .int 0)) ∧ h' 2 = some (.inr (1, [.ref 3, .ref 4, .ref 5, .ref 6, .ref 7, .ref 8, .ref 9, .ref 10, .ref 11, .int (hz_n 0), .int (hz_n 0), .int (hz_n 0), .int (hz_n 0), .int (hz_n 0)])) ∧ h' 3 = some (.inl (2, 26, fun _ => .null)) ∧ h' 4 = some (.inl (2, 50, fun _ => .null)) ∧ h' 5 = some (.inl (1, 26, fun _ => .int 0)) ∧ h' 6 = some (.inl (1, 2001, fun _ => .int 0)) ∧ h' 7 = some (.inl (1, 2001, fun _ => .int 0)) ∧ h' 8 = some (.inl (1, 2001, fun _ => .int 0)) ∧ h' 9 = some (.inl (1, 2001, fun _ => .int 0)) ∧ h' 10 = some (.inl (1, 2001, fun _ => .int 0)) ∧ h' 11 = some (.inl (1, 2001, fun _ => .int 0)) ∧ h' 12 = some (.inr (3, [.ref 13, .int (hz_n 0), .ref 14, .int (hz_n 0), .int (hz_n (-1)), .int (hz_n 0)])) ∧ h' 13 = some (.inl (0, 60, fun _ => .int 0)) ∧ h' 14 = some (.inl (1, 60, fun _ => .int 0)) ∧ ∀ i, 15 ≤ i → h' i = h i) := by
  refine hz_body (by decide) (by simp [Value.category]) (by simp) ?_
  intro p e s m args below meth c B
  refine hz_go B (ft_Fi B rfl rfl) (cn_F B rfl) 5 [] ?_
  show q_F_init _ 5 0 [some (.ref 0)] [] _
  rw [e_F_init_0, e_F_init_1]
  refine hz_objInit B ol_F ol_i ol_c d_F_init_1 (by decide) (by decide) ?_
  refine zat 4 rfl ?_
  refine hz_go B (ft_Fi B rfl rfl) (cn_F B rfl) 40 [] ?_
  show q_F_init _ 40 4 _ _ _
  rw [e_F_init_4, e_F_init_5, e_F_init_7]
  refine hz_newa (aty := .char) (ty := .char) (t := 0) (N := 40) (v0 := .int 0) B rfl rfl (fun _ => rfl) ac_char rfl rfl (by rw [hz_t_40]; decide) (by rw [hz_t_40]; rfl) (by decide) (by decide) (by decide) d_F_init_7 ?_
  refine zat 9 rfl ?_
  refine hz_go B (ft_Fi B rfl rfl) (cn_F B rfl) 40 [] ?_
  show q_F_init _ 40 9 _ _ _
  rw [e_F_init_9, hwr_at ((hz_set_ne (by omega)).trans hD) (by simp), e_F_init_12, e_F_init_13, e_F_init_14, hwr_at hz_set_at (by simp), hz_set_set, e_F_init_17, e_F_init_18]
  simp only [List.set_cons_succ, List.set_cons_zero]
  refine hz_new (ci := 1) (r := (R_G, T_G, 14)) (ty := ty_G) (fs := [.null, .null, .null, .null, .null, .null, .null, .null, .null, .int 0, .int 0, .int 0, .int 0, .int 0]) B rfl in_G pf_G nl_F_17 ns_G ni_G rfl zdf_G (by decide) (by decide) d_F_init_18 ?_
  refine zat 21 rfl ?_
  refine hz_go B (ft_Fi B rfl rfl) (cn_F B rfl) 40 [] ?_
  show q_F_init _ 40 21 _ _ _
  rw [e_F_init_21, e_F_init_22]
  refine hz_callIN (as2 := []) (i := 2) (rest := [.ref 2, .ref 0]) B rfl cb_F_19 im_G_init rfl (k_G_init hz_set_at) (by decide) (by decide) rfl (by decide) rfl d_F_init_22 ?_
  rintro r h1 n1 ⟨rfl, h1e, rfl⟩
  have g0 : h1 0 = some (.inr (4, [.ref 1, .int (hz_n 0), v2, v3])) := by rw [h1e]; rfl
  refine zat 25 rfl ?_
  refine hz_go B (ft_Fi B rfl rfl) (cn_F B rfl) 40 [] ?_
  show q_F_init _ 40 25 _ [.ref 2, .ref 0] _
  rw [e_F_init_25, hwr_at g0 (by simp), e_F_init_28, e_F_init_29]
  simp only [List.set_cons_succ, List.set_cons_zero]
  refine hz_new (ci := 3) (r := (R_W, T_W, 6)) (ty := ty_W) (fs := [.null, .int 0, .null, .int 0, .int 0, .int 0]) B rfl in_W pf_W nl_F_24 ns_W ni_W rfl zdf_W (by decide) (by decide) d_F_init_29 ?_
  refine zat 32 rfl ?_
  refine hz_go B (ft_Fi B rfl rfl) (cn_F B rfl) 40 [] ?_
  show q_F_init _ 40 32 _ _ _
  rw [e_F_init_32, e_F_init_33]
  refine hz_callIN (as2 := []) (i := 12) (rest := [.ref 12, .ref 0]) B rfl cb_F_26 im_W_init rfl (k_W_init hz_set_at) (by decide) (by decide) rfl (by decide) rfl d_F_init_33 ?_
  rintro r h2 n2 ⟨rfl, h2e, rfl⟩
  have g1 : h2 0 = some (.inr (4, [.ref 1, .int (hz_n 0), .ref 2, v3])) := by rw [h2e]; rfl
  refine zat 36 rfl ?_
  refine hz_go B (ft_Fi B rfl rfl) (cn_F B rfl) 40 [] ?_
  show q_F_init _ 40 36 _ [.ref 12, .ref 0] _
  rw [e_F_init_36, hwr_at g1 (by simp), e_F_init_39]
  simp only [List.set_cons_succ, List.set_cons_zero]
  refine hz_vret B ⟨rfl, rfl, hz_set_at, ?_⟩ (by decide) (by decide) d_F_init_39
  subst h2e
  subst h1e
  refine ⟨rfl, rfl, rfl, rfl, rfl, rfl, rfl, rfl, rfl, rfl, rfl, rfl, rfl, rfl, fun i hi => ?_⟩
  repeat rw [hz_set_ne (by omega)]
