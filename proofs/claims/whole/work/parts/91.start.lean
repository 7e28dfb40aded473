/-! The law from its entry, and the claim. -/
theorem zdf_F {b : Nat} : ∀ j, j < 4 → defaultValue (ty_F j) = hz_v b (([.null, .int 0, .null, .null] : List Value).getD j .null)
  | 0, _ => rfl
  | 1, _ => rfl
  | 2, _ => rfl
  | 3, _ => rfl
  | j + 4, h => by omega
theorem zdf_M {b : Nat} : ∀ j, j < 39 → defaultValue (ty_M j) = hz_v b (([.int 0, .int 0, .null, .int 0, .null, .null, .null, .null, .null, .null, .null, .null, .int 0, .int 0, .null, .null, .null, .int 0, .null, .null, .null, .null, .null, .int 0, .null, .int 0, .null, .null, .null, .int 0, .null, .null, .int 0, .int 0, .int 0, .int 0, .int 0, .int 0, .int 0] : List Value).getD j .null)
  | 0, _ => rfl
  | 1, _ => rfl
  | 2, _ => rfl
  | 3, _ => rfl
  | 4, _ => rfl
  | 5, _ => rfl
  | 6, _ => rfl
  | 7, _ => rfl
  | 8, _ => rfl
  | 9, _ => rfl
  | 10, _ => rfl
  | 11, _ => rfl
  | 12, _ => rfl
  | 13, _ => rfl
  | 14, _ => rfl
  | 15, _ => rfl
  | 16, _ => rfl
  | 17, _ => rfl
  | 18, _ => rfl
  | 19, _ => rfl
  | 20, _ => rfl
  | 21, _ => rfl
  | 22, _ => rfl
  | 23, _ => rfl
  | 24, _ => rfl
  | 25, _ => rfl
  | 26, _ => rfl
  | 27, _ => rfl
  | 28, _ => rfl
  | 29, _ => rfl
  | 30, _ => rfl
  | 31, _ => rfl
  | 32, _ => rfl
  | 33, _ => rfl
  | 34, _ => rfl
  | 35, _ => rfl
  | 36, _ => rfl
  | 37, _ => rfl
  | 38, _ => rfl
  | j + 39, h => by omega
theorem z00 : (0 : Int32) = hz_n 0 := by decide
def zK0 : zK := (fun n => if n = 8 then hz_n (-1) else hz_n 0, fun _ _ => 0, fun _ _ => none)
def zM0 : zM := (fun _ => 0, fun _ _ => 0)
theorem jI_0 : jI (fun _ => none) zK0 zM0 := by
  refine ⟨⟨0, fun _ => 0, by omega, rfl, z00, fun p _ => ⟨Nat.zero_le _, z00, z00⟩⟩, ⟨0, by omega, rfl, z00, fun j hj => by omega⟩, z00.symm, fun l _ => .inl ⟨rfl, z00⟩⟩
theorem zap {C : String} {T : u_T} {N : Nat} {cC : ClassId} {iS : Nat → Nat} {s : State} {args : Array Value} {Ts : List Cond} (hts : ∀ w ∈ Ts, w.before args s = true) (hin : ∀ w ∈ u_ws C T N, w ∈ Ts) (ty : Nat → FieldType) (hty : ∀ k, k < N → parseFieldDescriptor (T k).2.2.1 = some (ty k)) (hnm : ∀ a, a < N → ∀ b, b < N → a ≠ b → (T a).2.1 ≠ (T b).2.1) (hK : u_Kn s C T N cC iS) : ∀ x y, x < N → y < N → x ≠ y → iS x ≠ iS y := by
  intro x y hx hy hne
  obtain ⟨hS, -⟩ := hK
  obtain ⟨_, _, _, fa, hia, ea⟩ := hS x hx
  obtain ⟨_, _, _, fb, hib, eb⟩ := hS y hy
  rw [← ea, ← eb]
  refine u_apart (u_lays hts hin hx) (u_lays hts hin hy) hia hib ?_
  rw [(State.fieldFound?_type hia (hty x hx)).1, (State.fieldFound?_type hib (hty y hy)).1]
  exact hnm x hx y hy hne
theorem zarr {ty : FieldType} {s : State} {args : Array Value} (h : (Cond.arrayClass ty).before args s = true) : ∃ cA : ClassId, ArrOfT s cA ty ∧ s.vm.findClass ("[" ++ ty.toString) = some cA := by
  obtain ⟨cA, kA, comp, h1, h2, h3⟩ := Cond.arrayClass_spec (args := args) (first := s) (o := none) (s := s) (idx := []) h
  exact ⟨cA, fun n z => ⟨fun k h => (by cases h), kA, h2, comp, h3⟩, h1⟩
def zf6 {α : Type} (a0 a1 a2 a3 a4 a5 : α) : Nat → α := fun c => match c with
  | 0 => a0
  | 1 => a1
  | 2 => a2
  | 3 => a3
  | 4 => a4
  | _ => a5
/-- what is known at the law's entry -/
theorem zstart {s : State} {b : Nat} (hts : ∀ w ∈ lw_tbl, w.before #[Value.ref b] s = true) (hgv : (Jvm.Cond.and given_1 narrow_1).before #[Value.ref b] s = true) : ∃ G : hz_G, G.2.2 = s.heap ∧ hz_K zCl zKT G s ∧ hz_N lw_tbl zAO s ∧ hz_YB G s := by
  have hs := flat_of_before _ hgv
  have hT : ∀ w ∈ hz_T lw_tbl, w.before #[Value.ref b] s = true := fun w hw => hts w (List.mem_filter.mp hw).1
  obtain ⟨c0, i0, k0⟩ := u_known (n := 4) hT in_D (hT _ ns_D)
  obtain ⟨c1, i1, k1⟩ := u_known (n := 14) hT in_G (hT _ ns_G)
  obtain ⟨c2, i2, k2⟩ := u_known (n := 5) hT in_R (hT _ ns_R)
  obtain ⟨c3, i3, k3⟩ := u_known (n := 6) hT in_W (hT _ ns_W)
  obtain ⟨c4, i4, k4⟩ := u_known (n := 4) hT in_F (hT _ ns_F)
  obtain ⟨c5, i5, k5⟩ := u_known (n := 39) hT in_M (hT _ ns_M)
  obtain ⟨a0, p0, q0⟩ := zarr (hT _ ac_char)
  obtain ⟨a1, p1, q1⟩ := zarr (hT _ ac_int)
  obtain ⟨a3, p3, q3⟩ := zarr (hT _ ac_boolean)
  obtain ⟨a4, p4, q4⟩ := zarr (hT _ ac_long)
  have hao : (Cond.arrayOver (.object "LazyGraphs$Definition")).before #[Value.ref b] s = true := hts _ (by decide +kernel)
  obtain ⟨comp, a2, kA, u1, -, u3, u4, u5⟩ := Cond.arrayOver_spec (args := #[Value.ref b]) (first := s) (o := none) (s := s) (idx := []) hao
  refine ⟨((zf6 c0 c1 c2 c3 c4 c5, zf6 i0 i1 i2 i3 i4 i5), zf6 a0 a1 a2 a3 a4 a4, s.heap), rfl, ⟨?_, ?_, ?_⟩, ⟨?_, ?_, ?_⟩, ⟨⟨?_, ?_⟩, ⟨?_, ?_, ?_⟩, ⟨?_, ?_⟩, ⟨?_, ?_, ?_⟩, ?_⟩, Nat.le_refl _, fun _ _ => rfl⟩
  · intro c q hq
    match c with
    | 0 => cases hq; exact k0
    | 1 => cases hq; exact k1
    | 2 => cases hq; exact k2
    | 3 => cases hq; exact k3
    | 4 => cases hq; exact k4
    | 5 => cases hq; exact k5
    | c + 6 => cases hq
  · intro t ty ht
    match t with
    | 0 => cases ht; exact ⟨p0, q0⟩
    | 1 => cases ht; exact ⟨p1, q1⟩
    | 2 => cases ht; exact ⟨fun n z => ⟨fun k h => (by cases h), kA, u3, comp, u4⟩, kA, comp, u3, u4, u1, u5⟩
    | 3 => cases ht; exact ⟨p3, q3⟩
    | 4 => cases ht; exact ⟨p4, q4⟩
    | t + 5 => cases ht
  · intro c q hq
    match c with
    | 0 => cases hq; exact zap hT in_D ty_D pf_D nm_D k0
    | 1 => cases hq; exact zap hT in_G ty_G pf_G nm_G k1
    | 2 => cases hq; exact zap hT in_R ty_R pf_R nm_R k2
    | 3 => cases hq; exact zap hT in_W ty_W pf_W nm_W k3
    | 4 => cases hq; exact zap hT in_F ty_F pf_F nm_F k4
    | 5 => cases hq; exact zap hT in_M ty_M pf_M nm_M k5
    | c + 6 => cases hq
  · exact fun a i b n d h hin => va_Nw.of rfl (hts _ hin)
  · exact fun a i x h hin => va_Nw.of rfl (hts _ hin)
  · intro C hC
    rw [List.mem_singleton.mp hC]
    exact va_AO.of (A := #[Value.ref b]) hao
  · exact vx_Zqof (hts (.laysStatic "java/lang/Throwable" "UNASSIGNED_STACK" "[Ljava/lang/StackTraceElement;") (by decide +kernel)) (hts (.initialized "java/lang/Throwable") (by decide +kernel)) (hs (.isRef (.static "java/lang/Throwable" "UNASSIGNED_STACK" "[Ljava/lang/StackTraceElement;")) (by decide +kernel)) (fun a h9 => Nat.not_le.mpr h9)
  · exact vx_Zqof (hts (.laysStatic "java/lang/Throwable" "SUPPRESSED_SENTINEL" "Ljava/util/List;") (by decide +kernel)) (hts (.initialized "java/lang/Throwable") (by decide +kernel)) (hs (.isRef (.static "java/lang/Throwable" "SUPPRESSED_SENTINEL" "Ljava/util/List;")) (by decide +kernel)) (fun a h9 => Nat.not_le.mpr h9)
  · obtain ⟨a, _, _, _, w1, -⟩ := Cond.exactly_spec (args := #[Value.ref b]) (first := s) (o := none) (s := s) (idx := []) (t := .string "LazyGraphs" 92) (cls := "java/lang/String") (hs (.exactly (.string "LazyGraphs" 92) "java/lang/String") (by decide +kernel))
    exact ⟨a, vk_R.of (hts (.stringRef "LazyGraphs" 92 "the letter is not A .. Z") (by decide +kernel)) w1⟩
  · obtain ⟨a, _, _, _, w1, -⟩ := Cond.exactly_spec (args := #[Value.ref b]) (first := s) (o := none) (s := s) (idx := []) (t := .string "LazyGraphs" 96) (cls := "java/lang/String") (hs (.exactly (.string "LazyGraphs" 96) "java/lang/String") (by decide +kernel))
    exact ⟨a, vk_R.of (hts (.stringRef "LazyGraphs" 96 "the letter stands for nothing") (by decide +kernel)) w1⟩
  · obtain ⟨a, _, _, _, w1, -⟩ := Cond.exactly_spec (args := #[Value.ref b]) (first := s) (o := none) (s := s) (idx := []) (t := .string "LazyGraphs" 67) (cls := "java/lang/String") (hs (.exactly (.string "LazyGraphs" 67) "java/lang/String") (by decide +kernel))
    exact ⟨a, vk_R.of (hts (.stringRef "LazyGraphs" 67 "the entries are not 1 .. 50") (by decide +kernel)) w1⟩
  · exact va_Nw.of rfl (hts (.castable zIA zIA) (by decide +kernel))
  · exact va_Nw.of rfl (hts (.castable zIS zIS) (by decide +kernel))
  · exact va_Nw.of rfl (hts (.declares ⟨"java/lang/RuntimeException", "<init>", "(Ljava/lang/String;)V"⟩) (by decide +kernel))
  · exact va_Nw.of rfl (hts (.declares ⟨"java/lang/Exception", "<init>", "(Ljava/lang/String;)V"⟩) (by decide +kernel))
  · exact va_Nw.of rfl (hts (.declares ⟨"java/lang/Throwable", "<init>", "(Ljava/lang/String;)V"⟩) (by decide +kernel))
  · exact va_Nc.of (hs (.not (.castable zIS zIA)) (by decide +kernel))
set_option maxHeartbeats 4000000 in
set_option maxRecDepth 20000 in
theorem whole_start {p : Program} {e : Env} {s : State} {m : MethodId} {below : List Frame} {meth : Method} {c : Code} (l : Launch) (hl9 : l.stackTraces = false) {b L : Nat} {xs : Nat → Int32} (hL : L ≤ 1536) (C0 : lw_At p s m meth c b L xs) : W p l e room_1 s m #[Value.ref b] below meth c s.heap [] 0 0 (lw_Z below #[Value.ref b] s) (entryFrame m ([Value.ref b] : List Value).toArray 7) := by
  obtain ⟨hx, hb, hr, hml, hown, hts, hX, hbl, hlocks, hgv⟩ := C0
  obtain ⟨G, hG, hK, hN, hYB⟩ := zstart hts hgv
  have hT : ∀ w ∈ hz_T lw_tbl, w.before #[Value.ref b] s = true := fun w hw => hts w (List.mem_filter.mp hw).1
  have B : hz_B lw_tbl zAO zCl zKT G ⟨R_L, meth.name, ""⟩ code 7 ret p s m #[Value.ref b] meth c := ⟨hx, hb, hml, hr, hlocks, hT, hown, hK, hN, rfl⟩
  have hR0 : hz_R zCl G (fun _ => none) 0 s.heap := ⟨by rw [hG]; rfl, fun q _ => by rw [hG], fun i x h => nomatch h⟩
  have e0 := lv_entry [Value.ref b] (n := 7) (by rw [hz_sl (by simp [Value.category])]; show 1 ≤ 7; omega)
  rw [lg_entry_eq]
  generalize ((lg_sl [Value.ref b] ++ List.replicate (7 - (lg_sl [Value.ref b]).length) Slot.unset).toArray) = ls at *
  have h0 : lv_has ls 7 [(0, .ref b)] := e0
  refine wz_new (ci := 4) (r := (R_F, T_F, 4)) (ty := ty_F) (fs := [.null, .int 0, .null, .null]) B rfl in_F pf_F nl_L_8 ns_F ni_F rfl zdf_F (by decide) (by decide) d_law_0 hR0 fun H1 hR1 => ?_
  refine lv_dup hx hb d_law_3 rfl ?_
  refine wz_callI (as2 := []) (i := 0) (rest := [.ref (G.2.2.size + 0)]) B rfl cb_L_25 im_F_init rfl (k_F_init hz_set_at) (by decide) (by decide) rfl (by simp [Value.category]) rfl d_law_4 hR1 (fun q hq => nomatch hq) h0.1 ?_
  rintro r h1 n1 H2 locs2 ⟨rfl, rfl, g0, g1, g2, g3, g4, g5, g6, g7, g8, g9, g10, g11, g12, g13, g14, -⟩ hR2 hl2
  change W p l e room_1 s m #[Value.ref b] below meth c H2 locs2 _ _ _ (F0 m 7 ls [.ref (G.2.2.size + 0)])
  refine lv_astore_n (lv' := [(1, .ref G.2.2.size), (0, .ref b)]) hx hb d_law_7 rfl h0 (by omega) rfl fun ls1 hv1 => ?_
  refine wz_new (ci := 5) (r := (R_M, T_M, 39)) (ty := ty_M) (fs := [.int 0, .int 0, .null, .int 0, .null, .null, .null, .null, .null, .null, .null, .null, .int 0, .int 0, .null, .null, .null, .int 0, .null, .null, .null, .null, .null, .int 0, .null, .int 0, .null, .null, .null, .int 0, .null, .null, .int 0, .int 0, .int 0, .int 0, .int 0, .int 0, .int 0]) B rfl in_M pf_M nl_L_26 ns_M ni_M rfl zdf_M (by decide) (by decide) d_law_8 hR2 fun H3 hR3 => ?_
  refine lv_dup hx hb d_law_11 rfl ?_
  refine wz_callI (as2 := []) (i := 15) (rest := [.ref (G.2.2.size + 15)]) B rfl cb_L_28 im_M_init rfl (k_M_init hz_set_at) (by decide) (by decide) rfl (by simp [Value.category]) rfl d_law_12 hR3 hl2 hv1.1 ?_
  rintro r h2 n2 H4 locs4 ⟨rfl, h2e, rfl⟩ hR4 hl4
  change W p l e room_1 s m #[Value.ref b] below meth c H4 locs4 _ _ _ (F0 m 15 ls1 [.ref (G.2.2.size + 15)])
  refine lv_astore_n (lv' := [(2, .ref (G.2.2.size + 15)), (1, .ref G.2.2.size), (0, .ref b)]) hx hb d_law_15 rfl hv1 (by omega) rfl fun ls2 hv2 => ?_
  refine lv_iconst (v := hz_n 1) hx hb d_law_16 rfl ?_
  refine wz_newa (aty := .long) (ty := .long) (t := 4) (N := 1) (v0 := .long 0) B rfl rfl (fun _ => rfl) ac_long rfl rfl (by rw [hz_t_1]; decide) (by rw [hz_t_1]; rfl) (by decide) (by decide) (by decide) d_law_17 hR4 fun H5 hR5 => ?_
  refine lv_astore_n (lv' := [(3, .ref (G.2.2.size + 39)), (2, .ref (G.2.2.size + 15)), (1, .ref G.2.2.size), (0, .ref b)]) hx hb d_law_19 rfl hv2 (by omega) rfl fun ls3 hv3 => ?_
  refine lv_iconst (v := hz_n (3 * 0 : Nat)) hx hb d_law_20 rfl ?_
  refine lv_istore (lv' := [(4, .int (hz_n (3 * 0 : Nat))), (3, .ref (G.2.2.size + 39)), (2, .ref (G.2.2.size + 15)), (1, .ref G.2.2.size), (0, .ref b)]) hx hb d_law_21 hv3 (by omega) rfl fun ls4 hv4 => ?_
  have hR6 : hz_R zCl G (zH zK0 zM0 (fun _ => 0) (fun _ => none)) 40 H5 := by
    refine hR5.sub (fun i x hi => ?_)
    subst h2e
    match i with
    | 0 => exact g0.trans hi
    | 1 => exact g1.trans hi
    | 2 => exact g2.trans hi
    | 3 => exact g3.trans hi
    | 4 => exact g4.trans hi
    | 5 => exact g5.trans hi
    | 6 => exact g6.trans hi
    | 7 => exact g7.trans hi
    | 8 => exact g8.trans hi
    | 9 => exact g9.trans hi
    | 10 => exact g10.trans hi
    | 11 => exact g11.trans hi
    | 12 => exact g12.trans hi
    | 13 => exact g13.trans hi
    | 14 => exact g14.trans hi
    | 15 => exact hi
    | 16 => exact hi
    | 17 => exact hi
    | 18 => exact hi
    | 19 => exact hi
    | 20 => exact hi
    | 21 => exact hi
    | 22 => exact hi
    | 23 => exact hi
    | 24 => exact hi
    | 25 => exact hi
    | 26 => exact hi
    | 27 => exact hi
    | 28 => exact hi
    | 29 => exact hi
    | 30 => exact hi
    | 31 => exact hi
    | 32 => exact hi
    | 33 => exact hi
    | 34 => exact hi
    | 35 => exact hi
    | 36 => exact hi
    | 37 => exact hi
    | 38 => exact hi
    | 39 => exact hi
    | i + 40 => cases hi
  exact law_loop ⟨B, rfl, hYB, hl9, hX, hbl, hG, hL⟩ (L + 1) 0 (by omega) zK0 zM0 (fun _ => 0) (fun _ => none) (fun _ => none) 40 H5 locs4 ls4 _ _ ⟨jI_0, fun d T h => (by cases h), by omega, fun _ _ => rfl, hR6, hl4⟩ (lv_sub hv4 [4, 3, 2, 1, 0] rfl) (by omega) (by decide) (by decide)
set_option maxHeartbeats 4000000 in
theorem lw_walk (l : Launch) (hl9 : l.stackTraces = false) (b : Addr) (xs : List Int32) : MetFree l x (headSpec (Jvm.Cond.code x code maxLocals ret :: tables_1) room_1) (lw_P b xs) (fun _ _ _ _ _ => True) lw_Q := by
  refine MetFree.of_bodyS (code := code) (maxLocals := maxLocals) (ret := ret) (by decide) ?_ ?_
  · intro args s m h hn
    obtain ⟨meth, c, h1, h2, h3, h4, h5, h6, -, -⟩ := Cond.code_spec hn (atoms_spec (ws := Jvm.Cond.code x code maxLocals ret :: tables_1) h _ List.mem_cons_self)
    exact ⟨meth, c, h1, h2, h3, h4, h5, h6⟩
  · intro p e s m args below meth c s₁ B hml0 hP _
    obtain ⟨rfl, hx, hbd, hgv⟩ := hP
    obtain ⟨scr, harrAt, hlist, hof, hsmall⟩ := hx
    obtain ⟨hcb, hkn, -, -⟩ := State.arrayAt?_spec harrAt
    have hown : s.vm.findClass R_law = some m.cls := findClass_of_methodNamed B.named
    have hts0 : ∀ c ∈ (Jvm.Cond.code x code maxLocals ret :: tables_1), c.before #[Value.ref b] s = true := atoms_spec (ws := Jvm.Cond.code x code maxLocals ret :: tables_1) B.pre
    have hts : ∀ w ∈ lw_tbl, w.before #[Value.ref b] s = true := k2_hts_sels lw_privs (fun w hw => hts0 w (List.mem_cons_of_mem _ hw)) lw_privs_ok
    have hml : c.maxLocals = 7 := B.maxLocals_eq (hts0 _ List.mem_cons_self)
    have X₀ : Stand p l e room_1 s m #[Value.ref b] below meth c s₁ [] 0 0 := Stand.of_body B
    have hh0 : s₁.heap = s.heap := by rw [B.state]; rfl
    have hsz : scr.slots.size = xs.length := by rw [← Array.length_toList, hlist, List.length_map]
    have hval : ∀ j : Nat, j < xs.length → scr.slots[j]? = some (.int (xs.getD j 0)) := fun j hj => by
      rw [← Array.getElem?_toList, hlist]
      simp [hj]
    have hbl : b < s.heap.size := (Array.getElem?_eq_some_iff.mp hcb).1
    have hX : va_X b xs.length (fun j => xs.getD j 0) s s.heap := ⟨scr, hcb, hof, hkn, hsz, hval⟩
    have K : W p l e room_1 s m #[Value.ref b] below meth c s₁.heap [] 0 0 (lw_Z below #[Value.ref b] s) (entryFrame m ([Value.ref b] : List Value).toArray 7) := by
      rw [hh0]
      exact whole_start l hl9 hbd ⟨B.exec, B.bytes, B.returns, hml, hown, hts, hX, hbl, B.notSynchronized, hgv⟩
    obtain ⟨t, a1, o, b1, b2, b3⟩ := K s₁ rfl X₀
    exact ⟨t, o, a1, b1, b2, b3⟩
theorem lw_pre_spec {args : Array Value} {s : State} (h : (Jvm.Cond.and given_1 narrow_1).before args s = true) (hr : rest_1_c.before args s = true) : ∃ (b : Addr) (xs : List Int32), lw_P b xs args s := by
  have hs := flat_of_before _ h
  have hq := flat_of_before _ hr
  have hc : (Cond.count 1).before args s = true := hs _ (by decide +kernel)
  have harr : (Cond.arrayOf (.arg 0) .int).before args s = true := hs _ (by decide +kernel)
  have hle : (Cond.le (.length (.arg 0)) (.int 1536)).before args s = true := hs _ (by decide +kernel)
  have hlen : (Cond.isInt (.length (.arg 0))).before args s = true := hq _ (by decide +kernel)
  have hall : (Cond.all (.arg 0) (.isInt (.elem (.arg 0) (.index 0)))).before args s = true := hq _ (by decide +kernel)
  obtain ⟨b, xs, hb, hx⟩ := State.ints_of_pre rfl harr hlen hall
  have hsm : xs.length < 2 ^ 31 := hx.choose_spec.2.2.2
  have hev : (Term.length (.arg 0)).eval args s none [] s = some (.int xs.length.toInt32) := hx.length_eval hb
  have hv := Cond.le_ints hev (show (Term.int 1536).eval args s none [] s = some (.int 1536) from rfl)
  have hd : xs.length.toInt32 ≤ 1536 := by
    simpa [Cond.before, Cond.holds, hv] using hle
  have hN : xs.length ≤ 1536 := (Int32.ofNat_le_ofNat hsm (by decide)).mp (show Int32.ofNat xs.length ≤ Int32.ofNat 1536 from hd)
  exact ⟨b, xs, Cond.one_arg hc (show args[0]? = some (.ref b) from hb), hx, hN, h⟩
theorem lw_comes (l : Launch) (hl9 : l.stackTraces = false) : Comes l x (Jvm.Cond.code x code maxLocals ret :: tables_1) room_1 (fun tb e args s => Calls_1 tb e args s ∧ rest_1 tb e args s ∧ Pre_1 tb e args s)
    (fun _ _ args s o t => lw_Q args s o t) := by
  intro p e ha hc hk s m args below hf hfit hheap happ hpre
  obtain ⟨b, xs, hP⟩ := lw_pre_spec hpre.2.2 hpre.2.1
  obtain ⟨k, o, h1, h2, h3, hQ⟩ := lw_walk l hl9 b xs p e ha hc hk s m args below hf ((Spec.applies_iff_loose hf).mp happ).1 hP trivial
  exact ⟨k, o, h1, h2, h3, hQ⟩
theorem lw_frame {s t : State} {o : Outcome} {args : Array Value} (h : Framed s o t [] 601024 7293034) :
    Framed s o t (fieldLocs frame_1_writes args s ++ arrayLocs frame_1_arrays args s ++ staticLocs frame_1_statics s) 601024 7293034 := h
theorem lw_limb (L : Cond) (hL : ∀ (args : Array Value) (s t : State), L.after args s (.returned (some (.int 1))) t = true) :
    ArmFor flags0 classFile x code maxLocals ret World_1 tables_1 room_1 Calls_1 rest_1 Pre_1
      (fun tb e a s o t => postC L tb e a s o t ∧ Framed s o t (fieldLocs frame_1_writes a s ++ arrayLocs frame_1_arrays a s ++ staticLocs frame_1_statics s) 601024 7293034) := by
  intro l hfl _ _ p e ha hc hk s m args below hf hfit hheap happ hpre
  obtain ⟨k, o, h1, h2, h3, rfl, hF⟩ := lw_comes l (by unfold Launch.stackTraces; rw [hfl]; decide +kernel) p e ha hc hk s m args below hf hfit hheap happ hpre
  exact ⟨k, _, h1, h2, h3, hL args s _, lw_frame hF⟩
theorem i_vc : Claimed_1_1 ∧ Claimed_1_2 := ⟨lw_limb limb_1_1 (fun args s t => by simp [limb_1_1, Cond.after, Cond.holds, Cond.value]), lw_limb limb_1_2 (fun args s t => Cond.after_iff.mpr (by
  first | (rw [show limb_1_2 = Cond.eq .result (.int 1) from rfl, Cond.eq_ints (x := 1) (y := 1) rfl rfl]; simp; done) | (simp [limb_1_2, Cond.value, Term.eval]; done)))⟩
