/-! Exceptions in my own layer: a method that returns or throws, a throw, a call of such a method, a catch. -/
abbrev zIA : String := "java/lang/IllegalArgumentException"
abbrev zIS : String := "java/lang/IllegalStateException"
abbrev zXn : List String := ["java/lang/RuntimeException", "java/lang/Exception"]
/-- what a throw needs beside the words of the tables -/
def hz_Y (G : hz_G) (U : State) : Prop :=
  (vx_Zq Bundle.tN "UNASSIGNED_STACK" Bundle.steD (fun q => G.2.2.size ≤ q) U G.2.2 ∧ vx_Zq Bundle.tN "SUPPRESSED_SENTINEL" Bundle.listD (fun q => G.2.2.size ≤ q) U G.2.2)
  ∧ ((∃ a, vk_R R_F 92 "the letter is not A .. Z" a U) ∧ (∃ a, vk_R R_F 96 "the letter stands for nothing" a U) ∧ ∃ a, vk_R R_F 67 "the entries are not 1 .. 50" a U)
  ∧ (va_Nw (.castable zIA zIA) U ∧ va_Nw (.castable zIS zIS) U)
  ∧ (va_Nw (.declares ⟨"java/lang/RuntimeException", "<init>", "(Ljava/lang/String;)V"⟩) U ∧ va_Nw (.declares ⟨"java/lang/Exception", "<init>", "(Ljava/lang/String;)V"⟩) U ∧ va_Nw (.declares ⟨"java/lang/Throwable", "<init>", "(Ljava/lang/String;)V"⟩) U)
  ∧ va_Nc zIS zIA U
theorem hz_Y.warm {G : hz_G} {s U : State} (hW : s.WarmedH U.vm) (h : hz_Y G s) : hz_Y G U := by
  obtain ⟨⟨a1, a2⟩, ⟨⟨t1, b1⟩, ⟨t2, b2⟩, t3, b3⟩, ⟨c1, c2⟩, ⟨d1, d2, d3⟩, e1⟩ := h
  exact ⟨⟨vx_Zq.moved hW.alike a1, vx_Zq.moved hW.alike a2⟩, ⟨⟨t1, vk_R.warm hW b1⟩, ⟨t2, vk_R.warm hW b2⟩, t3, vk_R.warm hW b3⟩, ⟨va_Nw.warmC hW c1, va_Nw.warmC hW c2⟩, ⟨va_Nw.warmD hW d1, va_Nw.warmD hW d2, va_Nw.warmD hW d3⟩, va_Nc.moved hW.alike e1⟩
theorem hz_Y.same {G : hz_G} {s U : State} (hv : s.vm = U.vm) (h : hz_Y G s) : hz_Y G U := hz_Y.warm (by rw [← hv]; exact State.WarmedH.refl s) h
def hz_XC (cl : List vw_C) (G : hz_G) (postx : String → hz_H → Nat → Prop) : String → State → State → Prop := fun E _ t => ∃ (h' : hz_H) (n' : Nat), postx E h' n' ∧ hz_R cl G h' n' t.heap
def hz_PX (tbl : List Cond) (AO : List String) (cl : List vw_C) (KT : List FieldType) (G : hz_G) (as : List Value) (h : hz_H) (n : Nat) : Array Value → State → Prop := fun v U => hz_P tbl AO cl KT G as h n v U ∧ hz_Y G U
theorem hz_PX.blind {tbl : List Cond} {AO : List String} {cl : List vw_C} {KT : List FieldType} {G : hz_G} {as : List Value} {h : hz_H} {n : Nat} : FrameBlind (hz_PX tbl AO cl KT G as h n) := by
  intro a U g mk q
  exact ⟨hz_P.blind _ _ _ _ q.1, hz_Y.same (s := U) (U := U.calling g mk a) rfl q.2⟩
def hz_MX (tbl : List Cond) (AO : List String) (cl : List vw_C) (KT : List FieldType) (l : Launch) (y : MethodName) (cc : ByteArray) (nL : Nat) (ret : Option FieldType) (rm : Room) (G : hz_G) (as : List Value) (h : hz_H) (n : Nat) (post : Option Value → hz_H → Nat → Prop) (postx : String → hz_H → Nat → Prop) : Prop :=
  vx_Met l y (Cond.code y cc nL ret :: hz_T tbl) rm (hz_PX tbl AO cl KT G as h n) (hz_Q cl G post) (hz_XC cl G postx) rm.cells rm.slots (fun q => G.2.2.size ≤ q)
/-- what the end of such a body owes -/
abbrev hz_MQ (cl : List vw_C) (G : hz_G) (below : List Frame) (post : Option Value → hz_H → Nat → Prop) (postx : String → hz_H → Nat → Prop) (args : Array Value) (s : State) (mc ms : Nat) : State → Prop :=
  vx_MQ below (hz_Q cl G post) (hz_XC cl G postx) args s mc ms (fun q => G.2.2.size ≤ q)
/-- the machine with an exception over this frame -/
def hz_gx (cl : List vw_C) (G : hz_G) (p : Program) (l : Launch) (e : Env) (R : Room) (s : State) (m : MethodId) (args : Array Value) (below : List Frame) (meth : Method) (c : Code) (nL : Nat) (Q : State → Prop) (n cells slots : Nat) (pc : Nat) (E : String) (h : hz_H) : Prop :=
  ∀ (H : Heap) (locs : List Loc) (ls : Array Slot) (rest : List Value) (q : Addr) (ce : Cell), hz_R cl G h n H → (∀ q ∈ locs, G.2.2.size ≤ q.base) → ls.size = nL → lv_wf ls → H[q]? = some ce → ce.vm = .none → s.vm.findClass E = some ce.cls → vx_W p l e R s m args below meth c H locs cells slots Q (F0 m pc ls rest) q
/-- the same, in a body: and what lay at the law's start lies there as it did -/
def hz_YB (G : hz_G) (s : State) : Prop := hz_Y G s ∧ G.2.2.size ≤ s.heap.size ∧ ∀ q : Nat, q < G.2.2.size → s.heap[q]? = G.2.2[q]?
section HX
variable {tbl : List Cond} {AO : List String} {cl : List vw_C} {KT : List FieldType} {l : Launch} {G : hz_G} {y y2 : MethodName} {cc cc2 : ByteArray} {nL nL2 : Nat} {ret ret2 : Option FieldType} {rm rm2 : Room} {as : List Value} {h : hz_H} {n : Nat} {post post2 : Option Value → hz_H → Nat → Prop} {postx postx2 : String → hz_H → Nat → Prop}
theorem hz_bodyX (hy : plainName y.cls = true) (hc : ∀ w ∈ as, w.category = 1) (hn : as.length ≤ nL)
    (body : ∀ (p : Program) (e : Env) (s : State) (m : MethodId) (args : Array Value) (below : List Frame) (meth : Method) (c : Code), hz_B tbl AO cl KT G y cc nL ret p s m args meth c → hz_YB G s → (∀ x ∈ c.exceptionTable.toList, False) →
      hz_g cl G p l e rm s m args below meth c nL (hz_MQ cl G below post postx args s rm.cells rm.slots) n 0 0 0 (hz_L0 nL as) [] h) : hz_MX tbl AO cl KT l y cc nL ret rm G as h n post postx := by
  refine vx_ofW (cc := cc) (maxL := nL) (ret := ret) hy rfl ?_
  intro p e s m args below meth c s₁ B hml hx hv
  obtain ⟨⟨rfl, hR, hK, hN⟩, hY⟩ := hv
  have hts := atoms_spec (ws := Cond.code y cc nL ret :: hz_T tbl) B.pre
  have hown : s.vm.findClass y.cls = some m.cls := findClass_of_methodNamed B.named
  have hin : meth.name = y.name := (name_of_methodNamed B.named B.method).1
  rw [lg_entry_eq]
  exact body p e s m _ below meth c ⟨B.exec, B.bytes, hml, B.returns, B.notSynchronized, fun w hw => hts w (List.mem_cons_of_mem _ hw), hown, hK, hN, hin⟩ ⟨hY, by rw [hR.1]; exact Nat.le_add_right _ _, hR.2.1⟩ hx s.heap [] _ hR (fun q hq => nomatch hq) (hz_L0_lo hc hn)
variable {p : Program} {e : Env} {R : Room} {s : State} {m : MethodId} {args : Array Value} {below : List Frame} {meth : Method} {c : Code} {cells slots mc ms : Nat} {Q : State → Prop} {pc : Nat} {L : List (Option Value)} {st : List Value}
/-- a plain end, in a body that may throw -/
theorem hz_reX (k : hz_g cl G p l e R s m args below meth c nL (MQ below (hz_Q cl G post) args s mc ms (fun q => G.2.2.size ≤ q)) n cells slots pc L st h) : hz_g cl G p l e R s m args below meth c nL (hz_MQ cl G below post postx args s mc ms) n cells slots pc L st h :=
  fun H locs ls hR hl hL => vx_ret (k H locs ls hR hl hL)
/-- a heap that has only grown -/
theorem hz_R.grown {H H1 : Heap} (hR : hz_R cl G h n H) (hz : H.size ≤ H1.size) (ho : ∀ q : Nat, q < H.size → H1[q]? = H[q]?) : hz_R cl G h (H1.size - G.2.2.size) H1 ∧ n ≤ H1.size - G.2.2.size := by
  obtain ⟨r1, r2, r3⟩ := hR
  refine ⟨⟨by omega, fun q hq => (ho q (by omega)).trans (r2 q hq), fun j y hj => (r3 j y hj).kept (ho _ (r3 j y hj).lt)⟩, by omega⟩
/-- throw new E(text) -/
theorem hz_throw {E text : String} {ik is ic : Nat} {sa : Nat} (B : hz_B tbl AO cl KT G y cc nL ret p s m args meth c) (hYB : hz_YB G s) (hx0 : ∀ x ∈ c.exceptionTable.toList, False) (hl9 : l.stackTraces = false) (hE : Bundle.fit E = true) (hE2 : ∀ n ∈ zXn, Bundle.fit n = true)
    (w1 : Cond.classLink y.cls ik E ∈ hz_T tbl) (w2 : Cond.initialized E ∈ hz_T tbl) (hstr : vk_R y.cls is text sa s) (hcE : va_Nw (.castable E E) s) (h1 : ∀ w ∈ (vx_atS y.cls ic E zXn).filter goodWord, w ∈ hz_T tbl)
    (h2 : ∀ w ∈ (vx_atS y.cls ic E zXn).filter (fun w => !goodWord w), w ∈ [Cond.castable E E, Cond.declares ⟨"java/lang/RuntimeException", "<init>", "(Ljava/lang/String;)V"⟩, Cond.declares ⟨"java/lang/Exception", "<init>", "(Ljava/lang/String;)V"⟩, Cond.declares ⟨"java/lang/Throwable", "<init>", "(Ljava/lang/String;)V"⟩])
    (h3 : ∀ w ∈ Cond.classLink y.cls ik E :: Cond.initialized E :: vx_atS y.cls ic E zXn, vx_ot w = true)
    (d0 : decode cc pc = .ok (.new ik, 3)) (d3 : decode cc (pc + 3) = .ok (.dup, 1)) (d4 : decode cc (pc + 4) = .ok (.ldc is, 2)) (d6 : decode cc (pc + 6) = .ok (.invokespecial ic, 3)) (d9 : decode cc (pc + 9) = .ok (.athrow, 1))
    (hfr : 5 < R.frames) (hlo : (st.map fun v => v.category).sum + 82 ≤ R.locals) (hc : cells + 1 ≤ R.cells) (hs : slots + 6 ≤ R.slots) (hc2 : cells + 1 ≤ mc) (hs2 : slots + 6 ≤ ms)
    (hp : ∀ n', n ≤ n' → postx E h n') : hz_g cl G p l e R s m args below meth c nL (hz_MQ cl G below post postx args s mc ms) n cells slots pc L st h := by
  intro H locs ls hR hl hL T hT X
  obtain ⟨b1, b2, b3, b4, b5, b6, b7, b8, b9, b10⟩ := id B
  obtain ⟨⟨⟨a1, a2⟩, -, -, ⟨q1, q2, q3⟩, -⟩, z1, z2⟩ := hYB
  have hU : vx_Zq Bundle.tN "UNASSIGNED_STACK" Bundle.steD (fun q => G.2.2.size ≤ q) s s.heap := a1.kept fun a ha _ => z2 a ha
  have hN : vx_Zq Bundle.tN "SUPPRESSED_SENTINEL" Bundle.listD (fun q => G.2.2.size ≤ q) s s.heap := a2.kept fun a ha _ => z2 a ha
  have hsz : s.heap.size ≤ H.size := by
    have := (vx_frame X.same).1
    rw [hT] at this
    exact this
  have hS : va_S (fun q => G.2.2.size ≤ q) s.heap H locs := ⟨hsz, fun q _ hn => (hR.2.1 q (Nat.lt_of_not_le hn)).trans (z2 q (Nat.lt_of_not_le hn)).symm, hl⟩
  refine vx_throwS (own := y.cls) (cls := E) (text := text) (names := zXn) (A := fun q => G.2.2.size ≤ q) b1 b2 hl9 b7 hE hE2 (b6 _ w1) (b6 _ w2) hstr (vx_hat (fun w hw => b6 w (h1 w hw)) h2 (vx_c (va_Nw.use rfl hcE) (vx_c (va_Nw.use rfl q1) (vx_c (va_Nw.use rfl q2) (vx_c (va_Nw.use rfl q3) vx_n))))) h3 hU hN hS (hL.2.1.trans b3.symm) d0 d3 d4 d6 d9 (fun x hx => (hx0 x hx).elim) hfr ?_ hc hs b5 (fun t _ hz ho => ⟨h, _, hp _ (hR.grown hz ho).2, (hR.grown hz ho).1⟩) hl hc2 hs2 T hT X
  simp only [List.map_map]
  rw [show ((fun v : Value => v.category) ∘ hz_v G.2.2.size) = fun v => v.category from funext fun v => hz_v_cat _ v]
  exact hlo
/-- not caught here -/
theorem hz_outX {E : String} (B : hz_B tbl AO cl KT G y cc nL ret p s m args meth c) (hx0 : ∀ x ∈ c.exceptionTable.toList, False) (hp : postx E h n) (h1 : cells ≤ mc) (h2 : slots ≤ ms) : hz_gx cl G p l e R s m args below meth c nL (hz_MQ cl G below post postx args s mc ms) n cells slots pc E h :=
  fun H locs ls rest q ce hR hl _ _ hce hcv hcl => vx_out (fun x hx => (hx0 x hx).elim) B.2.2.2.2.1 hce hcv hcl (fun t ht _ => ⟨h, n, hp, by rw [ht]; exact hR⟩) hl h1 h2
/-- behind a call that may have thrown -/
theorem hz_ranX {H : Heap} {locs : List Loc} {ls : Array Slot} {a : Array Value} {rest : List Value} {st0 : List Value} (run : vx_Run p l e R s m args below meth c H locs cells slots mc ms (F0 m pc ls st0) (rest.map (hz_v G.2.2.size)) (hz_Q cl G post2 a) (hz_XC cl G postx2) (fun q => G.2.2.size ≤ q)) (hl : ∀ q ∈ locs, G.2.2.size ≤ q.base) (hL : hz_lo G.2.2.size ls nL L)
    (kk : ∀ (r : Option Value) (h' : hz_H) (n' : Nat), post2 r h' n' → hz_g cl G p l e R s m args below meth c nL Q n' (cells + mc) (slots + ms) (pc + 3) L (r.toList ++ rest) h')
    (kx : ∀ (E : String) (h' : hz_H) (n' : Nat), postx2 E h' n' → hz_gx cl G p l e R s m args below meth c nL Q n' (cells + mc) (slots + ms) pc E h') : W p l e R s m args below meth c H locs cells slots Q (F0 m pc ls st0) := by
  intro T hT X
  rcases run T hT X with ⟨v, st₀, t, T', L', h0, X', hL', e1, e2, ⟨r, h', n', hr, hp, hR'⟩, st⟩ | ⟨q, st₀, t, T', L', E, ce, h0, X', hL', e1, e2, ⟨h', n', hp, hR'⟩, hce, hcv, hcl, st⟩
  · cases hr
    have hl2 : ∀ q ∈ locs ++ L', G.2.2.size ≤ q.base := fun q hq => (List.mem_append.mp hq).elim (hl q) (hL' q)
    have g := kk r h' n' hp T'.heap (locs ++ L') ls (by rw [e1]; exact hR') hl2 hL
    obtain ⟨t2, a1, b1⟩ := g T' rfl X'
    refine ⟨t2, st t2 ?_, b1⟩
    cases r <;> exact a1
  · have hl2 : ∀ q ∈ locs ++ L', G.2.2.size ≤ q.base := fun q hq => (List.mem_append.mp hq).elim (hl q) (hL' q)
    have g := kx E h' n' hp T'.heap (locs ++ L') ls (rest.map (hz_v G.2.2.size)) q ce (by rw [e1]; exact hR') hl2 hL.2.1 hL.2.2.1 (by rw [e1]; exact hce) hcv hcl
    obtain ⟨t2, a1, b1⟩ := g T' rfl X'
    exact ⟨t2, st.trans a1, b1⟩
theorem hz_callSX {own : String} {idx k : Nat} {as2 rest : List Value} (B : hz_B tbl AO cl KT G y cc nL ret p s m args meth c) (hYB : hz_YB G s) (hown : y.cls = own) (cb : hz_cB tbl own idx y2 cc2 nL2 ret2 k) (hin : Cond.static y2 ∈ hz_T tbl)
    (hM : hz_MX tbl AO cl KT l y2 cc2 nL2 ret2 rm2 G as2 h n post2 postx2) (hR : rm2.frames + 1 ≤ R.frames ∧ 8 + (nL2 + 11) + rm2.locals ≤ R.locals) (hf : cells + rm2.cells ≤ R.cells ∧ slots + rm2.slots ≤ R.slots) (hk : as2.length = k) (hW : (rest.map fun v => v.category).sum ≤ 8) (hst : st = as2.reverse ++ rest) (hdg : decode cc pc = .ok (.invokestatic idx, 3))
    (kk : ∀ (r : Option Value) (h' : hz_H) (n' : Nat), post2 r h' n' → hz_g cl G p l e R s m args below meth c nL Q n' (cells + rm2.cells) (slots + rm2.slots) (pc + 3) L (r.toList ++ rest) h')
    (kx : ∀ (E : String) (h' : hz_H) (n' : Nat), postx2 E h' n' → hz_gx cl G p l e R s m args below meth c nL Q n' (cells + rm2.cells) (slots + rm2.slots) pc E h') : hz_g cl G p l e R s m args below meth c nL Q n cells slots pc L st h := by
  intro H locs ls hRR hl hL
  obtain ⟨b1, b2, b3, b4, b5, b6, b7, b8, b9, b10⟩ := id B
  obtain ⟨c1, c2, c3, c4⟩ := cb
  subst hown
  subst hst
  have S : CallFix p m c cc nL s args (hz_T tbl) y.cls := ⟨b1, b2, b3, b7, b6⟩
  have cw : CallB R s args y.cls idx y2 cc2 nL2 ret2 (Cond.code y2 cc2 nL2 ret2 :: hz_T tbl) rm2 rm2.cells rm2.slots k ∧ (Cond.static y2).before args s = true :=
    ⟨callB_of k b6 (hz_goodIn c3) rfl rfl rfl (b6 _ c2) (b6 _ c1) c4 hR, b6 _ hin⟩
  refine hz_ranX (vx_runS (As := as2.map (hz_v G.2.2.size)) S hM cw ⟨hz_PX.blind, ?_⟩ rfl (by rw [List.length_map]; exact hk) hL.2.1 ?_ ?_ hdg hf) hl hL kk kx
  · exact fun U hU hW => ⟨hz_pre (as := as2) B hRR U hU hW, hz_Y.warm hW hYB.1⟩
  · simp [List.map_append, List.map_reverse]
  · simp only [List.map_map]
    rw [show ((fun v : Value => v.category) ∘ hz_v G.2.2.size) = fun v => v.category from funext fun v => hz_v_cat _ v]
    show 2 * 0 + (rest.map fun v => v.category).sum ≤ 8
    omega
theorem hz_callVX {own : String} {idx k i ci : Nat} {fs : List Value} {r : vw_C} {as2 rest : List Value} (B : hz_B tbl AO cl KT G y cc nL ret p s m args meth c) (hYB : hz_YB G s) (hown : y.cls = own) (cb : hz_cB tbl own idx y2 cc2 nL2 ret2 k) (hin : Cond.instanceMethod y2 ∈ hz_T tbl) (hse : Cond.selects r.1 y2 y2 ∈ hz_T tbl)
    (hM : hz_MX tbl AO cl KT l y2 cc2 nL2 ret2 rm2 G (.ref i :: as2) h n post2 postx2) (hR : rm2.frames + 1 ≤ R.frames ∧ 8 + (nL2 + 11) + rm2.locals ≤ R.locals) (hf : cells + rm2.cells ≤ R.cells ∧ slots + rm2.slots ≤ R.slots) (hi : h i = some (.inr (ci, fs))) (hc : cl[ci]? = some r) (hk : as2.length = k) (hW : (rest.map fun v => v.category).sum ≤ 8) (hst : st = as2.reverse ++ .ref i :: rest) (hdg : decode cc pc = .ok (.invokevirtual idx, 3))
    (kk : ∀ (r : Option Value) (h' : hz_H) (n' : Nat), post2 r h' n' → hz_g cl G p l e R s m args below meth c nL Q n' (cells + rm2.cells) (slots + rm2.slots) (pc + 3) L (r.toList ++ rest) h')
    (kx : ∀ (E : String) (h' : hz_H) (n' : Nat), postx2 E h' n' → hz_gx cl G p l e R s m args below meth c nL Q n' (cells + rm2.cells) (slots + rm2.slots) pc E h') : hz_g cl G p l e R s m args below meth c nL Q n cells slots pc L st h := by
  intro H locs ls hRR hl hL
  obtain ⟨b1, b2, b3, b4, b5, b6, b7, b8, b9, b10⟩ := id B
  obtain ⟨c1, c2, c3, c4⟩ := cb
  subst hown
  subst hst
  have S : CallFix p m c cc nL s args (hz_T tbl) y.cls := ⟨b1, b2, b3, b7, b6⟩
  have cw : CallW R s args y.cls r.1 idx y2 cc2 nL2 ret2 (Cond.code y2 cc2 nL2 ret2 :: hz_T tbl) rm2 rm2.cells rm2.slots k :=
    ⟨callB_of k b6 (hz_goodIn c3) rfl rfl rfl (b6 _ c2) (b6 _ c1) c4 hR, b6 _ hin, b6 _ hse⟩
  refine hz_ranX (vx_runV (As := as2.map (hz_v G.2.2.size)) S hM cw ⟨hz_PX.blind, hz_recv b8 hRR hi hc, ?_⟩ rfl (by rw [List.length_map]; exact hk) hL.2.1 ?_ ?_ hdg hf) hl hL kk kx
  · exact fun U hU hW => ⟨hz_pre (as := .ref i :: as2) B hRR U hU hW, hz_Y.warm hW hYB.1⟩
  · simp [List.map_append, List.map_reverse, hz_v]
  · simp only [List.map_map]
    rw [show ((fun v : Value => v.category) ∘ hz_v G.2.2.size) = fun v => v.category from funext fun v => hz_v_cat _ v]
    show 2 * 0 + (rest.map fun v => v.category).sum ≤ 8
    omega
/-- caught here; what was thrown goes into a local that nobody reads -/
theorem hz_catch {E name : String} {k : Fin 4} (pre : List ExceptionTableEntry) (x : ExceptionTableEntry) (suf : List ExceptionTableEntry) (B : hz_B tbl AO cl KT G y cc nL ret p s m args meth c) (hsplit : c.exceptionTable.toList = pre ++ x :: suf)
    (hpass : ∀ z ∈ pre, covers z pc = false ∨ (z.catchType ≠ 0 ∧ ∃ nm : String, (Cond.classLink y.cls z.catchType nm).before args s = true ∧ va_Nc E nm s)) (hx : covers x pc = true) (h0 : x.catchType ≠ 0) (hlink : Cond.classLink y.cls x.catchType name ∈ hz_T tbl) (hcast : va_Nw (.castable E name) s) (hk : (k : Nat) < nL) (hdg : decode cc x.handlerPc = .ok (.astore_n k, 1))
    (kk : hz_g cl G p l e R s m args below meth c nL Q n cells slots (x.handlerPc + 1) (List.replicate nL none) [] h) : hz_gx cl G p l e R s m args below meth c nL Q n cells slots pc E h := by
  intro H locs ls rest q ce hR hl hs1 hs2 hce hcv hcl
  obtain ⟨b1, b2, b3, b4, b5, b6, b7, b8, b9, b10⟩ := id B
  refine vx_catch (own := y.cls) (name := name) (E := E) b7 pre x suf hsplit hpass hx h0 (b6 _ hlink) (va_Nw.use rfl hcast) hce hcv hcl ?_
  refine lv_astore_n (lv := []) b1 b2 hdg rfl ⟨hs1, hs2, fun q hq => nomatch hq⟩ hk rfl fun ls' h' => ?_
  exact kk H locs ls' hR hl ⟨by simp, h'.1, h'.2.1, fun i v hi => by
    rw [List.getElem?_replicate] at hi
    split at hi <;> cases hi⟩
end HX
