/-! A definition is made: three rows, and the text copied. -/
section
variable {tbl : List Cond} {AO : List String} {cl : List vw_C} {KT : List FieldType} {G : hz_G} {y : MethodName} {cc : ByteArray} {nL : Nat} {ret : Option FieldType} {p : Program} {l : Launch} {e : Env} {R : Room} {s : State} {m : MethodId} {args : Array Value} {below : List Frame} {meth : Method} {c : Code} {Q : State → Prop} {n cells slots pc : Nat} {L : List (Option Value)} {h : hz_H}
theorem hz_nnz (z : Int32) (hz : 0 ≤ z.toInt) : z.toInt = (z.toNatClampNeg : Int) := by
  show z.toInt = ((z.toInt.toNat : Nat) : Int)
  omega
theorem hz_nlt {z : Int32} (hz : 0 ≤ z.toInt) : ¬ z < 0 := fun q => by
  rw [Int32.lt_iff_toInt_lt, Int32.toInt_zero] at q
  omega
theorem hz_copy {idx i j t n0 n1 N : Nat} {f g : Nat → Int32} {ty : FieldType} {sp x : Int32} {rest : List Value} (B : hz_B tbl AO cl KT G y cc nL ret p s m args meth c) (w1 : Cond.methodLink y.cls idx arraycopyName ∈ hz_T tbl) (w2 : Cond.native arraycopyName ∈ hz_T tbl) (w3 : Cond.static arraycopyName ∈ hz_T tbl) (w4 : Cond.initialized "java/lang/System" ∈ hz_T tbl)
    (ht : KT[t]? = some ty) (hprim : refKind ty = false) (hi : h i = some (.inl (t, n0, hz_i f))) (hj : h j = some (.inl (t, n1, hz_i g))) (hsp : sp.toInt = 0) (hx : 0 ≤ x.toInt) (hN : x.toInt.toNat = N) (h4 : N ≤ n0) (h5 : N ≤ n1) (hfit : ∀ k, k < N → fits ty (.int (f k)) = true)
    (hfr : 1 ≤ R.frames) (hlo : (rest.map fun v => v.category).sum + (nativeFrameWords "java/lang/System" "arraycopy" 5 + 11) ≤ R.locals) (hdg : decode cc pc = .ok (.invokestatic idx, 3))
    (kk : hz_g cl G p l e R s m args below meth c nL Q n cells slots (pc + 3) L rest (hz_set h j (.inl (t, n1, hz_i (fun k => if k < N then f k else g k))))) : hz_g cl G p l e R s m args below meth c nL Q n cells slots pc L (.int x :: .int sp :: .ref j :: .int sp :: .ref i :: rest) h := by
  intro H locs ls hR hl hL
  obtain ⟨b1, b2, b3, b4, b5, b6, b7, b8, b9, b10⟩ := id B
  have ex : x.toNatClampNeg = N := hN
  have e0 : sp.toNatClampNeg = 0 := by
    show sp.toInt.toNat = 0
    omega
  have hc0 : H[G.2.2.size + i]? = some (arrV (G.2.1 t) n0 (fun j => .int (f j))) := hR.2.2 i _ hi
  have hc1 : H[G.2.2.size + j]? = some (arrV (G.2.1 t) n1 (fun j => .int (g j))) := hR.2.2 j _ hj
  intro T hT X
  obtain ⟨-, k0, hk0, cm0, hkk0⟩ := (b8.2.1 t _ ht).1 n0 (fun j => .int (f j))
  obtain ⟨-, k1, hk1, cm1, hkk1⟩ := (b8.2.1 t _ ht).1 n1 (fun j => .int (g j))
  obtain ⟨vm', X', step⟩ := X.arraycopy b1 b7 (b6 _ w1) (b6 _ w2) (b6 _ w3) (b6 _ w4) (src := G.2.2.size + i) (dst := G.2.2.size + j) (cs := arrV (G.2.1 t) n0 (fun j => .int (f j))) (cd := arrV (G.2.1 t) n1 (fun j => .int (g j))) (srcPos := sp) (destPos := sp) (n := x) (by rw [hT]; exact hc0) (by rw [hT]; exact hc1)
    (fun _ h => by cases h) (fun _ h => by cases h) (fun h => by cases h) (fun h => by cases h) hk0 hk1 hkk0 hkk1 (by simp [hprim]) (hz_nlt (by omega)) (hz_nlt (by omega)) (hz_nlt hx)
    (by rw [hz_nnz sp (by omega), hz_nnz x hx]; show ¬ _ > ((arrV (G.2.1 t) n0 (fun j => .int (f j))).slots.size : Int); rw [arrV_size]; omega)
    (by rw [hz_nnz sp (by omega), hz_nnz x hx]; show ¬ _ > ((arrV (G.2.1 t) n1 (fun j => .int (g j))).slots.size : Int); rw [arrV_size]; omega)
    (fun vm₁ _ k hk => by
      have e : (arrV (G.2.1 t) n0 (fun j => .int (f j))).slots.getD (sp.toNatClampNeg + k) .null = .int (f (sp.toNatClampNeg + k)) := by
        rw [Array.getD_eq_getD_getElem?, arrV_read _ _ (by omega)]
        rfl
      refine ⟨?_, ?_⟩
      · rw [e, e0, Nat.zero_add]
        exact hfit k (by omega)
      · rw [e]
        exact trivial)
    (g := F0 m pc ls (.int x :: .int sp :: .ref (G.2.2.size + j) :: .int sp :: .ref (G.2.2.size + i) :: rest.map (hz_v G.2.2.size))) rfl (by rw [b3]; exact hL.2.1) (rest := rest.map (hz_v G.2.2.size)) rfl (by rw [b2]; exact hdg) hfr (by
      simp only [List.map_map]
      rw [show ((fun v : Value => v.category) ∘ hz_v G.2.2.size) = fun v => v.category from funext fun v => hz_v_cat _ v]
      show 2 * 0 + _ + _ ≤ _
      omega)
  have e1 : copied (arrV (G.2.1 t) n0 (fun j => .int (f j))) (arrV (G.2.1 t) n1 (fun j => .int (g j))) sp sp x = arrV (G.2.1 t) n1 (fun j => .int (if j < N then f j else g j)) := by
    refine (va_copied (fun z => Value.int z) (G.2.1 t) (G.2.1 t) (n0 := n0) (n1 := n1) (sp := sp.toNatClampNeg) (dp := sp.toNatClampNeg) (n := x.toNatClampNeg) f g (by omega)).trans ?_
    congr 1
    funext k
    unfold va_cpy
    rw [e0, ex]
    by_cases hk : k < N
    · rw [if_pos (by omega), if_pos hk]
      congr 2
      omega
    · rw [if_neg (by omega), if_neg hk]
  rw [e1] at X' step
  have hlt : G.2.2.size + j < H.size := (Array.getElem?_eq_some_iff.mp hc1).1
  have hheap : ((T.setVm vm').setCell (G.2.2.size + j) (arrV (G.2.1 t) n1 (fun j => .int (if j < N then f j else g j)))).heap = H.setIfInBounds (G.2.2.size + j) (arrV (G.2.1 t) n1 (fun j => .int (if j < N then f j else g j))) := by rw [← hT]; rfl
  obtain ⟨t9, a1, q1⟩ := kk _ _ ls (hR.set (i := j) (x := .inl (t, n1, hz_i (fun k => if k < N then f k else g k))) (by simp) (fun q hq => by simp [Array.getElem?_setIfInBounds, Ne.symm hq]) (show (H.setIfInBounds (G.2.2.size + j) _)[G.2.2.size + j]? = some _ by simp [Array.getElem?_setIfInBounds, hlt]; rfl)) (fun q hq => by
      rcases List.mem_append.mp hq with h | h
      · exact hl q h
      · obtain ⟨z, -, hz⟩ := List.mem_map.mp h
        rw [← hz]
        exact Nat.le_add_right _ _) hL _ hheap X'
  exact ⟨t9, step t9 a1, q1⟩
end
set_option maxHeartbeats 2000000 in
set_option maxRecDepth 20000 in
theorem k_D_init {l : Launch} {G : hz_G} {κ : zK} {μ : zM} {ω : Nat → Int64} {D : hz_H} {b N : Nat} {v0 v1 v2 v3 : Value} (hb : 40 ≤ b) (hN : N ≤ 40) (hD : D b = some (.inr (0, [v0, v1, v2, v3]))) (hf : ∀ k, k < N → fits .char (.int (κ.2.1 1 k)) = true) : hz_M lw_tbl zAO zCl zKT l y_D_init c_D_init 3 none { frames := 3, cells := 3, slots := 120, locals := 200 } G [.ref b, .ref 1, .int (hz_n N)] (zH κ μ ω D) (b + 1) (fun r h' n' => r = none ∧ h' = zH κ μ ω (hz_set (hz_set (hz_set (hz_set D b (.inr (0, [.ref (b + 1), .ref (b + 1 + 1), .ref (b + 1 + 1 + 1), .int (hz_n 0)]))) (b + 1) (.inl (0, N, hz_i (fun k => if k < N then κ.2.1 1 k else 0)))) (b + 1 + 1) (.inl (1, N, fun _ => .int 0))) (b + 1 + 1 + 1) (.inl (1, N, fun _ => .int 0))) ∧ n' = b + 1 + 1 + 1 + 1) := by
  have zN : (hz_n (N : Int)).toInt = N := zt N (by omega)
  refine hz_body (by decide) (by simp [Value.category]) (by simp) ?_
  intro p e s m args below meth c B
  refine hz_go B (ft_Di B rfl rfl) (cn_D B rfl) 5 [] ?_
  show q_D_init _ 5 0 [some (.ref b), some (.ref 1), some (.int (hz_n N))] [] _
  rw [e_D_init_0, e_D_init_1]
  refine hz_objInit B ol_D ol_i ol_c d_D_init_1 (by decide) (by decide) ?_
  refine zat 4 rfl ?_
  refine hz_go B (ft_Di B rfl rfl) (cn_D B rfl) 40 [] ?_
  show q_D_init _ 40 4 _ _ _
  rw [e_D_init_4, e_D_init_5, e_D_init_6, zwr_at hb hD (by simp), e_D_init_9, e_D_init_10, e_D_init_11]
  refine hz_newa (aty := .char) (ty := .char) (t := 0) (N := N) (v0 := .int 0) B rfl rfl (fun _ => rfl) ac_char rfl rfl (by rw [zN]; omega) (by rw [zN]; rfl) (by show N * 2 ≤ _; omega) (by decide) (by show 0 + N ≤ 120; omega) d_D_init_11 ?_
  rw [zH_set (by omega)]
  refine zat 13 rfl ?_
  refine hz_go B (ft_Di B rfl rfl) (cn_D B rfl) 40 [] ?_
  show q_D_init _ 40 13 _ _ _
  rw [e_D_init_13, zwr_at hb ((hz_set_ne (by omega)).trans hz_set_at) (by simp), hz_set_comm (i := b + 1) (k := b) (by omega), hz_set_set, e_D_init_16, e_D_init_17, e_D_init_18]
  simp only [List.set_cons_succ, List.set_cons_zero]
  refine hz_newa (aty := .int) (ty := .int) (t := 1) (N := N) (v0 := .int 0) B rfl rfl (fun _ => rfl) ac_int rfl rfl (by rw [zN]; omega) (by rw [zN]; rfl) (by show N * 4 ≤ _; omega) (by decide) (by show 0 + N + N ≤ 120; omega) d_D_init_18 ?_
  rw [zH_set (by omega)]
  refine zat 20 rfl ?_
  refine hz_go B (ft_Di B rfl rfl) (cn_D B rfl) 40 [] ?_
  show q_D_init _ 40 20 _ _ _
  rw [e_D_init_20, zwr_at hb ((hz_set_ne (by omega)).trans ((hz_set_ne (by omega)).trans hz_set_at)) (by simp), hz_set_comm (i := b + 1 + 1) (k := b) (by omega), hz_set_comm (i := b + 1) (k := b) (by omega), hz_set_set, e_D_init_23, e_D_init_24, e_D_init_25]
  simp only [List.set_cons_succ, List.set_cons_zero]
  refine hz_newa (aty := .int) (ty := .int) (t := 1) (N := N) (v0 := .int 0) B rfl rfl (fun _ => rfl) ac_int rfl rfl (by rw [zN]; omega) (by rw [zN]; rfl) (by show N * 4 ≤ _; omega) (by decide) (by show 0 + N + N + N ≤ 120; omega) d_D_init_25 ?_
  rw [zH_set (by omega)]
  refine zat 27 rfl ?_
  refine hz_go B (ft_Di B rfl rfl) (cn_D B rfl) 40 [] ?_
  show q_D_init _ 40 27 _ _ _
  rw [e_D_init_27, zwr_at hb ((hz_set_ne (by omega)).trans ((hz_set_ne (by omega)).trans ((hz_set_ne (by omega)).trans hz_set_at))) (by simp), hz_set_comm (i := b + 1 + 1 + 1) (k := b) (by omega), hz_set_comm (i := b + 1 + 1) (k := b) (by omega), hz_set_comm (i := b + 1) (k := b) (by omega), hz_set_set]
  simp only [List.set_cons_succ, List.set_cons_zero]
  rw [e_D_init_30, e_D_init_31, e_D_init_32, e_D_init_33, zrd_at hb ((hz_set_ne (by omega)).trans ((hz_set_ne (by omega)).trans ((hz_set_ne (by omega)).trans hz_set_at))) rfl, e_D_init_36, e_D_init_37, e_D_init_38]
  refine hz_copy (t := 0) (n0 := 40) (n1 := N) (N := N) (f := κ.2.1 1) (g := fun _ => 0) (ty := .char) B ac_copy ac_nat ac_sta ac_sys rfl rfl rfl ((zH_D (by omega)).trans ((hz_set_ne (by omega)).trans ((hz_set_ne (by omega)).trans hz_set_at))) (by rw [zti0]) (by rw [zN]; omega) (by rw [zN]; rfl) hN (Nat.le_refl _) hf (by decide) (by decide) d_D_init_38 ?_
  rw [zH_set (by omega), hz_set_comm (i := b + 1 + 1 + 1) (k := b + 1) (by omega), hz_set_comm (i := b + 1 + 1) (k := b + 1) (by omega), hz_set_set]
  refine zat 41 rfl ?_
  refine hz_go B (ft_Di B rfl rfl) (cn_D B rfl) 4 [] ?_
  show q_D_init _ 4 41 _ _ _
  rw [e_D_init_41]
  exact hz_vret B ⟨rfl, rfl, rfl⟩ (by decide) (by show 0 + N + N + N ≤ 120; omega) d_D_init_41
