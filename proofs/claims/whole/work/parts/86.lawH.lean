/-! The law's helpers: define, forget, run with their handlers. -/
def zoL (ω : Nat → Int64) (k : Nat) (y : Int64) : Nat → Int64 := fun j => if j = k then y else ω j
theorem sl_39 {κ : zK} {μ : zM} {ω : Nat → Int64} {D : hz_H} {k : Nat} {y : Int64} : hz_set (zH κ μ ω D) 39 (.inl (4, 1, updV (hz_l ω) k (.long y))) = zH κ μ (zoL ω k y) D := by
  have e : updV (hz_l ω) k (.long y) = hz_l (zoL ω k y) := by
    funext j
    unfold updV hz_l zoL
    by_cases h : j = k
    · rw [if_pos h, if_pos h]
    · rw [if_neg h, if_neg h]
  rw [e]
  funext i
  match i with
  | 0 => rfl
  | 1 => rfl
  | 2 => rfl
  | 3 => rfl
  | 4 => rfl
  | 5 => rfl
  | 6 => rfl
  | 7 => rfl
  | 8 => rfl
  | 9 => rfl
  | 10 => rfl
  | 11 => rfl
  | 12 => rfl
  | 13 => rfl
  | 14 => rfl
  | 15 => rfl
  | 16 => rfl
  | 17 => rfl
  | 18 => rfl
  | 19 => rfl
  | 20 => rfl
  | 21 => rfl
  | 22 => rfl
  | 23 => rfl
  | 24 => rfl
  | 25 => rfl
  | 26 => rfl
  | 27 => rfl
  | 28 => rfl
  | 29 => rfl
  | 30 => rfl
  | 31 => rfl
  | 32 => rfl
  | 33 => rfl
  | 34 => rfl
  | 35 => rfl
  | 36 => rfl
  | 37 => rfl
  | 38 => rfl
  | 39 => rfl
  | j + 40 => exact if_neg (by omega)
theorem es_39 {κ : zK} {μ : zM} {ω : Nat → Int64} {D : hz_H} {x : Int32} {y : Int64} {K : hz_H → Prop} : hz_es zKT hz_kJ (zH κ μ ω D) 39 x (.long y) K = ((0 ≤ x.toInt ∧ x.toInt.toNat < 1) ∧ K (zH κ μ (zoL ω x.toInt.toNat y) D)) := by
  rw [← sl_39]
  rfl
def hz_MW (tbl : List Cond) (AO : List String) (cl : List vw_C) (KT : List FieldType) (l : Launch) (y : MethodName) (cc : ByteArray) (nL : Nat) (ret : Option FieldType) (hh : List (Nat × Nat × Nat × Nat)) (rm : Room) (G : hz_G) (as : List Value) (h : hz_H) (n : Nat) (post : Option Value → hz_H → Nat → Prop) : Prop :=
  vx_Met l y (Cond.codeWith y cc nL ret hh :: hz_T tbl) rm (hz_PX tbl AO cl KT G as h n) (hz_Q cl G post) (hz_XC cl G (fun _ _ _ => False)) rm.cells rm.slots (fun q => G.2.2.size ≤ q)
section HW
variable {tbl : List Cond} {AO : List String} {cl : List vw_C} {KT : List FieldType} {l : Launch} {G : hz_G} {y y2 : MethodName} {cc cc2 : ByteArray} {nL nL2 : Nat} {ret ret2 : Option FieldType} {rm rm2 : Room} {as : List Value} {h : hz_H} {n : Nat} {post post2 : Option Value → hz_H → Nat → Prop} {hh : List (Nat × Nat × Nat × Nat)}
theorem hz_bodyW (hy : plainName y.cls = true) (hc : ∀ w ∈ as, w.category = 1) (hn : as.length ≤ nL)
    (body : ∀ (p : Program) (e : Env) (s : State) (m : MethodId) (args : Array Value) (below : List Frame) (meth : Method) (c : Code), hz_B tbl AO cl KT G y cc nL ret p s m args meth c → hz_YB G s → c.exceptionTable.toList = tableOf hh →
      hz_g cl G p l e rm s m args below meth c nL (hz_MQ cl G below post (fun _ _ _ => False) args s rm.cells rm.slots) n 0 0 0 (hz_L0 nL as) [] h) : hz_MW tbl AO cl KT l y cc nL ret hh rm G as h n post := by
  refine vx_ofWH (cc := cc) (maxL := nL) (ret := ret) (hh := hh) hy rfl ?_
  intro p e s m args below meth c s₁ B hml hv
  obtain ⟨⟨rfl, hR, hK, hN⟩, hY⟩ := hv
  have hts := atoms_spec (ws := Cond.codeWith y cc nL ret hh :: hz_T tbl) B.pre
  have hown : s.vm.findClass y.cls = some m.cls := findClass_of_methodNamed B.named
  have hin : meth.name = y.name := (name_of_methodNamed B.named B.method).1
  have htab := vx_table (x := y) B (hts _ List.mem_cons_self)
  rw [lg_entry_eq]
  exact body p e s m _ below meth c ⟨B.exec, B.bytes, hml, B.returns, B.notSynchronized, fun w hw => hts w (List.mem_cons_of_mem _ hw), hown, hK, hN, hin⟩ ⟨hY, by rw [hR.1]; exact Nat.le_add_right _ _, hR.2.1⟩ htab s.heap [] _ hR (fun q hq => nomatch hq) (hz_L0_lo hc hn)
variable {p : Program} {e : Env} {R : Room} {s : State} {m : MethodId} {args : Array Value} {below : List Frame} {meth : Method} {c : Code} {cells slots mc ms : Nat} {Q : State → Prop} {pc : Nat} {L : List (Option Value)} {st : List Value}
theorem hz_catch2 {E name : String} {k : Nat} (pre : List ExceptionTableEntry) (x : ExceptionTableEntry) (suf : List ExceptionTableEntry) (B : hz_B tbl AO cl KT G y cc nL ret p s m args meth c) (hsplit : c.exceptionTable.toList = pre ++ x :: suf)
    (hpass : ∀ z ∈ pre, covers z pc = false ∨ (z.catchType ≠ 0 ∧ ∃ nm : String, (Cond.classLink y.cls z.catchType nm).before args s = true ∧ va_Nc E nm s)) (hx : covers x pc = true) (h0 : x.catchType ≠ 0) (hlink : Cond.classLink y.cls x.catchType name ∈ hz_T tbl) (hcast : va_Nw (.castable E name) s) (hk : k < nL) (hdg : decode cc x.handlerPc = .ok (.astore k, 2))
    (kk : hz_g cl G p l e R s m args below meth c nL Q n cells slots (x.handlerPc + 2) (List.replicate nL none) [] h) : hz_gx cl G p l e R s m args below meth c nL Q n cells slots pc E h := by
  intro H locs ls rest q ce hR hl hs1 hs2 hce hcv hcl
  obtain ⟨b1, b2, b3, b4, b5, b6, b7, b8, b9, b10⟩ := id B
  refine vx_catch (own := y.cls) (name := name) (E := E) b7 pre x suf hsplit hpass hx h0 (b6 _ hlink) (va_Nw.use rfl hcast) hce hcv hcl ?_
  refine lv_astore (lv := []) b1 b2 hdg ⟨hs1, hs2, fun q hq => nomatch hq⟩ hk rfl fun ls' h' => ?_
  exact kk H locs ls' hR hl ⟨by simp, h'.1, h'.2.1, fun i v hi => by
    rw [List.getElem?_replicate] at hi
    split at hi <;> cases hi⟩
end HW
abbrev zhD : List (Nat × Nat × Nat × Nat) := [(0, 9, 12, 13)]
abbrev zhF : List (Nat × Nat × Nat × Nat) := [(0, 5, 8, 13), (0, 5, 11, 19)]
abbrev zhR : List (Nat × Nat × Nat × Nat) := [(0, 10, 13, 13), (0, 10, 17, 19)]
set_option maxHeartbeats 4000000 in
set_option maxRecDepth 20000 in
theorem k_L_define {l : Launch} {G : hz_G} {κ : zK} {μ : zM} {ω : Nat → Int64} {D : hz_H} {n N : Nat} {x a : Int32} {ρ' : zM} (hl9 : l.stackTraces = false) (hn : 40 ≤ n) (hD : ∀ i, n ≤ i → D i = none) (hN : N ≤ 40) (h0 : κ.1 0 = hz_n N) (hf : ∀ k, k < N → fits .char (.int (κ.2.1 1 k)) = true) (hr : (65 ≤ x.toInt ∧ x.toInt ≤ 90) → r_read N (jR0 N (κ.2.1 1)) = some (a, ρ')) :
    hz_MW lw_tbl zAO zCl zKT l y_L_define c_L_define 4 (some .int) zhD { frames := 72, cells := 7, slots := 161, locals := 3100 } G [.ref 0, .int x, .ref 39] (zH κ μ ω D) n (fun r h' n' => ((65 ≤ x.toInt ∧ x.toInt ≤ 90) ∧ r = some (.int (hz_n 0)) ∧ h' = zH (if a.toInt < 0 then kS κ 0 (hz_n 0) else kQ (kS κ 0 (hz_n 0)) 3 (x.toInt.toNat - 65) (some n)) μ (zoL ω 0 a.toInt64) (zQ D n N ρ') ∧ n' = n + 6)
      ∨ (¬ (65 ≤ x.toInt ∧ x.toInt ≤ 90) ∧ r = some (.int (hz_n 1)) ∧ h' = zH κ μ ω D ∧ n ≤ n')) := by
  refine hz_bodyW (by decide) (by simp [Value.category]) (by simp) ?_
  intro p e s m args below meth c B hYB htab
  refine hz_go B ft_L (cn_L B rfl) 10 [] ?_
  show q_L_define _ 10 0 [some (.ref 0), some (.int x), some (.ref 39), none] [] _
  rw [e_L_define_0, e_L_define_1, e_L_define_2, e_L_define_3, e_L_define_4]
  refine hz_callVX (as2 := [.int x]) (rest := [.int (hz_n 0), .ref 39]) (i := 0) (ci := 4) (r := (R_F, T_F, 4)) B hYB rfl cb_L_7 im_F_define se_F_define (k_F_define hl9 hn hD hN h0 hf hr) (by decide) (by decide) rfl rfl rfl (by decide) rfl d_L_define_4 ?_ ?_
  · rintro r h' n' ⟨hx, rfl, rfl, rfl⟩
    refine zat 7 rfl ?_
    refine hz_go B ft_L (cn_L B rfl) 10 [] ?_
    show q_L_define _ 10 7 _ [.int a, .int (hz_n 0), .ref 39] _
    rw [e_L_define_7, e_L_define_8, es_39]
    refine ⟨by rw [zti0]; decide, ?_⟩
    rw [e_L_define_9, e_L_define_15, e_L_define_16]
    exact hz_reX (hz_iret B rfl (.inl ⟨hx, rfl, by rw [zti0]; rfl, rfl⟩) (by decide) (by decide) d_L_define_16)
  · rintro E h' n' ⟨hx, rfl, rfl, hn'⟩
    refine hz_catch (name := zIA) [] { startPc := 0, endPc := 9, handlerPc := 12, catchType := 13 } [] B (by rw [htab]; rfl) (fun z hz => nomatch hz) rfl (by decide) xw_L13 hYB.1.2.2.1.1 (by decide) d_L_define_12 ?_
    refine zat 13 rfl ?_
    refine hz_go B ft_L (cn_L B rfl) 5 [] ?_
    show q_L_define _ 5 13 _ _ _
    rw [e_L_define_13, e_L_define_14]
    exact hz_reX (hz_iret B rfl (.inr ⟨hx, rfl, rfl, hn'⟩) (by decide) (by decide) d_L_define_14)
set_option maxHeartbeats 4000000 in
set_option maxRecDepth 20000 in
theorem k_L_forget {l : Launch} {G : hz_G} {κ : zK} {μ : zM} {ω : Nat → Int64} {D : hz_H} {n : Nat} {x : Int32} (hl9 : l.stackTraces = false) : hz_MW lw_tbl zAO zCl zKT l y_L_forget c_L_forget 3 (some .int) zhF { frames := 10, cells := 2, slots := 12, locals := 400 } G [.ref 0, .int x] (zH κ μ ω D) n (fun r h' n' => n ≤ n' ∧ (((65 ≤ x.toInt ∧ x.toInt ≤ 90) ∧ κ.2.2 3 (x.toInt.toNat - 65) ≠ none ∧ r = some (.int (hz_n 0)) ∧ h' = zH (kQ κ 3 (x.toInt.toNat - 65) none) μ ω D)
      ∨ (¬ (65 ≤ x.toInt ∧ x.toInt ≤ 90) ∧ r = some (.int (hz_n 1)) ∧ h' = zH κ μ ω D) ∨ ((65 ≤ x.toInt ∧ x.toInt ≤ 90) ∧ κ.2.2 3 (x.toInt.toNat - 65) = none ∧ r = some (.int (hz_n 2)) ∧ h' = zH κ μ ω D))) := by
  refine hz_bodyW (by decide) (by simp [Value.category]) (by simp) ?_
  intro p e s m args below meth c B hYB htab
  refine hz_go B ft_L (cn_L B rfl) 10 [] ?_
  show q_L_forget _ 10 0 [some (.ref 0), some (.int x), none] [] _
  rw [e_L_forget_0, e_L_forget_1, e_L_forget_2]
  refine hz_callVX (as2 := [.int x]) (rest := []) (i := 0) (ci := 4) (r := (R_F, T_F, 4)) B hYB rfl cb_L_15 im_F_forget se_F_forget (k_F_forget hl9) (by decide) (by decide) rfl rfl rfl (by decide) rfl d_L_forget_2 ?_ ?_
  · rintro r h' n' ⟨hx, hq, rfl, rfl, rfl⟩
    refine zat 5 rfl ?_
    refine hz_go B ft_L (cn_L B rfl) 10 [] ?_
    show q_L_forget _ 10 5 _ [] _
    rw [e_L_forget_5, e_L_forget_14, e_L_forget_15]
    exact hz_reX (hz_iret B rfl ⟨Nat.le_refl _, .inl ⟨hx, hq, rfl, rfl⟩⟩ (by decide) (by decide) d_L_forget_15)
  · rintro E h' n' ⟨⟨hx, rfl⟩ | ⟨hx, hq, rfl⟩, rfl, hn'⟩
    · refine hz_catch (name := zIA) [] { startPc := 0, endPc := 5, handlerPc := 8, catchType := 13 } [{ startPc := 0, endPc := 5, handlerPc := 11, catchType := 19 }] B (by rw [htab]; rfl) (fun z hz => nomatch hz) rfl (by decide) xw_L13 hYB.1.2.2.1.1 (by decide) d_L_forget_8 ?_
      refine zat 9 rfl ?_
      refine hz_go B ft_L (cn_L B rfl) 5 [] ?_
      show q_L_forget _ 5 9 _ _ _
      rw [e_L_forget_9, e_L_forget_10]
      exact hz_reX (hz_iret B rfl ⟨hn', .inr (.inl ⟨hx, rfl, rfl⟩)⟩ (by decide) (by decide) d_L_forget_10)
    · refine hz_catch (name := zIS) [{ startPc := 0, endPc := 5, handlerPc := 8, catchType := 13 }] { startPc := 0, endPc := 5, handlerPc := 11, catchType := 19 } [] B (by rw [htab]; rfl) (fun z hz => ?_) rfl (by decide) xw_L19 hYB.1.2.2.1.2 (by decide) d_L_forget_11 ?_
      · rw [List.mem_singleton.mp hz]
        exact Or.inr ⟨by decide, zIA, B.2.2.2.2.2.1 _ xw_L13, hYB.1.2.2.2.2⟩
      · refine zat 12 rfl ?_
        refine hz_go B ft_L (cn_L B rfl) 5 [] ?_
        show q_L_forget _ 5 12 _ _ _
        rw [e_L_forget_12, e_L_forget_13]
        exact hz_reX (hz_iret B rfl ⟨hn', .inr (.inr ⟨hx, hq, rfl, rfl⟩)⟩ (by decide) (by decide) d_L_forget_13)
set_option maxHeartbeats 4000000 in
set_option maxRecDepth 20000 in
theorem k_L_run {l : Launch} {G : hz_G} {κ : zK} {μ : zM} {ω : Nat → Int64} {D : hz_H} {n : Nat} {x y : Int32} {E : Nat → Option zT} {κ2 : zK} (hl9 : l.stackTraces = false) (hE : zE D E) (hr : (65 ≤ x.toInt ∧ x.toInt ≤ 90) → (1 ≤ y.toInt ∧ y.toInt ≤ 50) → κ.2.2 3 (x.toInt.toNat - 65) ≠ none → ∃ κ1, g_begin κ (x - hz_n 65) y = some κ1 ∧ g_write κ1 E = some κ2) :
    hz_MW lw_tbl zAO zCl zKT l y_L_run c_L_run 5 (some .int) zhR { frames := 12, cells := 3, slots := 18, locals := 500 } G [.ref 0, .int x, .int y, .ref 39] (zH κ μ ω D) n (fun r h' n' => n ≤ n' ∧ (((65 ≤ x.toInt ∧ x.toInt ≤ 90) ∧ (1 ≤ y.toInt ∧ y.toInt ≤ 50) ∧ κ.2.2 3 (x.toInt.toNat - 65) ≠ none ∧ r = some (.int (hz_n 0)) ∧ h' = zH κ2 μ (zoL ω 0 (if (κ2.1 5).toInt = 0 then κ2.1 6 else κ2.1 5).toInt64) D)
      ∨ (¬ ((65 ≤ x.toInt ∧ x.toInt ≤ 90) ∧ (1 ≤ y.toInt ∧ y.toInt ≤ 50)) ∧ r = some (.int (hz_n 1)) ∧ h' = zH κ μ ω D) ∨ ((65 ≤ x.toInt ∧ x.toInt ≤ 90) ∧ (1 ≤ y.toInt ∧ y.toInt ≤ 50) ∧ κ.2.2 3 (x.toInt.toNat - 65) = none ∧ r = some (.int (hz_n 2)) ∧ h' = zH κ μ ω D))) := by
  refine hz_bodyW (by decide) (by simp [Value.category]) (by simp) ?_
  intro p e s m args below meth c B hYB htab
  refine hz_go B ft_L (cn_L B rfl) 10 [] ?_
  show q_L_run _ 10 0 [some (.ref 0), some (.int x), some (.int y), some (.ref 39), none] [] _
  rw [e_L_run_0, e_L_run_1, e_L_run_2, e_L_run_3, e_L_run_4, e_L_run_5]
  refine hz_callVX (as2 := [.int x, .int y]) (rest := [.int (hz_n 0), .ref 39]) (i := 0) (ci := 4) (r := (R_F, T_F, 4)) B hYB rfl cb_L_21 im_F_run se_F_run (k_F_run hl9 hE hr) (by decide) (by decide) rfl rfl rfl (by decide) rfl d_L_run_5 ?_ ?_
  · rintro r h' n' ⟨hx, hy, hq, rfl, rfl, rfl⟩
    refine zat 8 rfl ?_
    refine hz_go B ft_L (cn_L B rfl) 10 [] ?_
    show q_L_run _ 10 8 _ [.int (if (κ2.1 5).toInt = 0 then κ2.1 6 else κ2.1 5), .int (hz_n 0), .ref 39] _
    rw [e_L_run_8, e_L_run_9, es_39]
    refine ⟨by rw [zti0]; decide, ?_⟩
    rw [e_L_run_10, e_L_run_21, e_L_run_22]
    exact hz_reX (hz_iret B rfl ⟨Nat.le_refl _, .inl ⟨hx, hy, hq, rfl, by rw [zti0]; rfl⟩⟩ (by decide) (by decide) d_L_run_22)
  · rintro E9 h' n' ⟨⟨hx, rfl⟩ | ⟨hx, hy, hq, rfl⟩, rfl, hn'⟩
    · refine hz_catch2 (name := zIA) [] { startPc := 0, endPc := 10, handlerPc := 13, catchType := 13 } [{ startPc := 0, endPc := 10, handlerPc := 17, catchType := 19 }] B (by rw [htab]; rfl) (fun z hz => nomatch hz) rfl (by decide) xw_L13 hYB.1.2.2.1.1 (by decide) d_L_run_13 ?_
      refine zat 15 rfl ?_
      refine hz_go B ft_L (cn_L B rfl) 5 [] ?_
      show q_L_run _ 5 15 _ _ _
      rw [e_L_run_15, e_L_run_16]
      exact hz_reX (hz_iret B rfl ⟨hn', .inr (.inl ⟨hx, rfl, rfl⟩)⟩ (by decide) (by decide) d_L_run_16)
    · refine hz_catch2 (name := zIS) [{ startPc := 0, endPc := 10, handlerPc := 13, catchType := 13 }] { startPc := 0, endPc := 10, handlerPc := 17, catchType := 19 } [] B (by rw [htab]; rfl) (fun z hz => ?_) rfl (by decide) xw_L19 hYB.1.2.2.1.2 (by decide) d_L_run_17 ?_
      · rw [List.mem_singleton.mp hz]
        exact Or.inr ⟨by decide, zIA, B.2.2.2.2.2.1 _ xw_L13, hYB.1.2.2.2.2⟩
      · refine zat 19 rfl ?_
        refine hz_go B ft_L (cn_L B rfl) 5 [] ?_
        show q_L_run _ 5 19 _ _ _
        rw [e_L_run_19, e_L_run_20]
        exact hz_reX (hz_iret B rfl ⟨hn', .inr (.inr ⟨hx, hy, hq, rfl, rfl⟩)⟩ (by decide) (by decide) d_L_run_20)
/-! Words of the law's calls of its own helpers. -/
theorem xl_define_1 : Cond.methodLink R_L 39 y_L_define ∈ hz_T lw_tbl := hz_T_in 223 (by decide +kernel) (by decide +kernel)
theorem xl_define_2 : Cond.static y_L_define ∈ hz_T lw_tbl := hz_T_in 224 (by decide +kernel) (by decide +kernel)
theorem xl_define_4 : Cond.codeWith y_L_define c_L_define 4 (some .int) zhD ∈ hz_T lw_tbl := hz_T_in 225 (by decide +kernel) (by decide +kernel)
theorem xl_forget_1 : Cond.methodLink R_L 48 y_L_forget ∈ hz_T lw_tbl := hz_T_in 416 (by decide +kernel) (by decide +kernel)
theorem xl_forget_2 : Cond.static y_L_forget ∈ hz_T lw_tbl := hz_T_in 417 (by decide +kernel) (by decide +kernel)
theorem xl_forget_4 : Cond.codeWith y_L_forget c_L_forget 3 (some .int) zhF ∈ hz_T lw_tbl := hz_T_in 418 (by decide +kernel) (by decide +kernel)
theorem xl_run_1 : Cond.methodLink R_L 56 y_L_run ∈ hz_T lw_tbl := hz_T_in 444 (by decide +kernel) (by decide +kernel)
theorem xl_run_2 : Cond.static y_L_run ∈ hz_T lw_tbl := hz_T_in 445 (by decide +kernel) (by decide +kernel)
theorem xl_run_4 : Cond.codeWith y_L_run c_L_run 5 (some .int) zhR ∈ hz_T lw_tbl := hz_T_in 446 (by decide +kernel) (by decide +kernel)
theorem xl_i : Cond.initialized R_L ∈ hz_T lw_tbl := ni_L
