/-! Bodies, ends, calls and new cells over such a world. -/
def hz_T (tbl : List Cond) : List Cond := tbl.filter goodWord
theorem hz_T_in {tbl : List Cond} {w : Cond} (i : Nat) (h : tbl[i]? = some w) (hg : goodWord w = true) : w ∈ hz_T tbl := List.mem_filter.mpr ⟨List.mem_of_getElem? h, hg⟩
theorem hz_T_good {tbl : List Cond} {w : Cond} (h : w ∈ hz_T tbl) : (w.onTables && w.keeps) = true ∨ ∃ ty, w = .arrayClass ty := good_of_word (List.mem_filter.mp h).2
/-- the words that need a law of their own to be moved -/
def hz_nF (tbl : List Cond) (U : State) : Prop := ∀ (a : String) (i : Nat) (b n d h : String), Jvm.Cond.fieldLinkNest a i b n d h ∈ tbl → va_Nw (.fieldLinkNest a i b n d h) U
def hz_nM (tbl : List Cond) (U : State) : Prop := ∀ (a : String) (i : Nat) (x : MethodName) (h : String), Jvm.Cond.methodLinkNest a i x h ∈ tbl → va_Nw (.methodLinkNest a i x h) U
def hz_N (tbl : List Cond) (AO : List String) (U : State) : Prop := hz_nF tbl U ∧ hz_nM tbl U ∧ ∀ C ∈ AO, va_AO C U
theorem hz_N.warm {tbl : List Cond} {AO : List String} {s U : State} (hW : s.WarmedH U.vm) (h : hz_N tbl AO s) : hz_N tbl AO U :=
  ⟨fun a i b n d q hin => va_Nw.warmF hW (h.1 a i b n d q hin), fun a i x q hin => va_Nw.warmM hW (h.2.1 a i x q hin), fun C hC => va_AO.moved hW.alike (h.2.2 C hC)⟩
theorem hz_N.same {tbl : List Cond} {AO : List String} {s U : State} (hv : s.vm = U.vm) (h : hz_N tbl AO s) : hz_N tbl AO U :=
  ⟨fun a i b n d q hin => va_Nw.same rfl hv (h.1 a i b n d q hin), fun a i x q hin => va_Nw.same rfl hv (h.2.1 a i x q hin), fun C hC => va_AO.moved (by rw [hv]; exact Vm.Alike.refl _) (h.2.2 C hC)⟩
/-- a contract's start -/
def hz_P (tbl : List Cond) (AO : List String) (cl : List vw_C) (KT : List FieldType) (G : hz_G) (as : List Value) (h : hz_H) (n : Nat) : Array Value → State → Prop := fun v U =>
  v = (as.map (hz_v G.2.2.size)).toArray ∧ hz_R cl G h n U.heap ∧ hz_K cl KT G U ∧ hz_N tbl AO U
theorem hz_P.blind {tbl : List Cond} {AO : List String} {cl : List vw_C} {KT : List FieldType} {G : hz_G} {as : List Value} {h : hz_H} {n : Nat} : FrameBlind (hz_P tbl AO cl KT G as h n) := by
  intro a U g mk q
  exact ⟨q.1, q.2.1, hz_K.moved (u := U) (U := U.calling g mk a) (Vm.Alike.refl U.vm) q.2.2.1, hz_N.same (s := U) (U := U.calling g mk a) rfl q.2.2.2⟩
/-- .. and its end -/
def hz_Q (cl : List vw_C) (G : hz_G) (post : Option Value → hz_H → Nat → Prop) : Array Value → State → Outcome → State → Prop := fun _ _ oc t =>
  ∃ (r : Option Value) (h' : hz_H) (n' : Nat), oc = .returned (r.map (hz_v G.2.2.size)) ∧ post r h' n' ∧ hz_R cl G h' n' t.heap
def hz_M (tbl : List Cond) (AO : List String) (cl : List vw_C) (KT : List FieldType) (l : Launch) (y : MethodName) (cc : ByteArray) (nL : Nat) (ret : Option FieldType) (rm : Room) (G : hz_G) (as : List Value) (h : hz_H) (n : Nat) (post : Option Value → hz_H → Nat → Prop) : Prop :=
  Met l y (Cond.code y cc nL ret :: hz_T tbl) rm (hz_P tbl AO cl KT G as h n) (hz_Q cl G post) rm.cells rm.slots (fun q => G.2.2.size ≤ q)
/-- what holds in a method's body -/
def hz_B (tbl : List Cond) (AO : List String) (cl : List vw_C) (KT : List FieldType) (G : hz_G) (y : MethodName) (cc : ByteArray) (nL : Nat) (ret : Option FieldType) (p : Program) (s : State) (m : MethodId) (args : Array Value) (meth : Method) (c : Code) : Prop :=
  p.tables.exec = Jvm.exec ∧ c.code = cc ∧ c.maxLocals = nL ∧ meth.sig.returnType = ret ∧ meth.locks = false ∧ (∀ w ∈ hz_T tbl, w.before args s = true) ∧ s.vm.findClass y.cls = some m.cls ∧ hz_K cl KT G s ∧ hz_N tbl AO s ∧ meth.name = y.name
theorem hz_args {vs : List Value} : ∀ {k i : Nat} {v : Value}, (∀ w ∈ vs, w.category = 1) → vs[i]? = some v → (k + i, v) ∈ lv_args k vs := by
  induction vs with
  | nil => intro k i v _ h; simp at h
  | cons a t ih =>
    intro k i v hc h
    unfold lv_args
    have ha : ¬ a.category = 2 := by rw [hc a List.mem_cons_self]; decide
    rw [if_neg ha]
    cases i with
    | zero =>
      simp at h
      subst h
      exact List.mem_cons_self
    | succ j =>
      have h' : t[j]? = some v := by simpa using h
      have := ih (k := k + 1) (fun w hw => hc w (List.mem_cons_of_mem _ hw)) h'
      rw [show k + (j + 1) = k + 1 + j by omega]
      exact List.mem_cons_of_mem _ this
theorem hz_sl {vs : List Value} (h : ∀ w ∈ vs, w.category = 1) : (lg_sl vs).length = vs.length := by
  unfold lg_sl
  induction vs with
  | nil => rfl
  | cons a t ih =>
    have ha : ¬ a.category = 2 := by rw [h a List.mem_cons_self]; decide
    rw [List.flatMap_cons, if_neg ha, List.length_append, ih (fun w hw => h w (List.mem_cons_of_mem _ hw))]
    simp
    omega
def hz_L0 (nL : Nat) (as : List Value) : List (Option Value) := as.map some ++ List.replicate (nL - as.length) none
theorem hz_L0_lo {b nL : Nat} {as : List Value} (h : ∀ w ∈ as, w.category = 1) (hn : as.length ≤ nL) : hz_lo b ((lg_sl (as.map (hz_v b)) ++ List.replicate (nL - (lg_sl (as.map (hz_v b))).length) Slot.unset).toArray) nL (hz_L0 nL as) := by
  have hc : ∀ w ∈ as.map (hz_v b), w.category = 1 := by
    intro w hw
    obtain ⟨v, hv, rfl⟩ := List.mem_map.mp hw
    rw [hz_v_cat]
    exact h v hv
  have e := lv_entry (as.map (hz_v b)) (n := nL) (by rw [hz_sl hc, List.length_map]; exact hn)
  refine ⟨by simp [hz_L0]; omega, e.1, e.2.1, fun i v hi => ?_⟩
  have hi' : as[i]? = some v := by
    unfold hz_L0 at hi
    by_cases hl : i < as.length
    · rw [List.getElem?_append_left (by simpa using hl)] at hi
      simpa using hi
    · rw [List.getElem?_append_right (by simp; omega)] at hi
      rw [List.getElem?_replicate] at hi
      split at hi <;> cases hi
  have := hz_args (vs := as.map (hz_v b)) (k := 0) (i := i) (v := hz_v b v) hc (by simp [hi'])
  rw [Nat.zero_add] at this
  exact ⟨h v (List.mem_of_getElem? hi'), e.2.2 _ this⟩
section HZD
variable {tbl : List Cond} {AO : List String} {cl : List vw_C} {KT : List FieldType} {l : Launch} {y : MethodName} {cc : ByteArray} {nL : Nat} {ret : Option FieldType} {rm : Room} {G : hz_G} {as : List Value} {h : hz_H} {n : Nat} {post : Option Value → hz_H → Nat → Prop}
theorem hz_body (hy : plainName y.cls = true) (hc : ∀ w ∈ as, w.category = 1) (hn : as.length ≤ nL)
    (body : ∀ (p : Program) (e : Env) (s : State) (m : MethodId) (args : Array Value) (below : List Frame) (meth : Method) (c : Code), hz_B tbl AO cl KT G y cc nL ret p s m args meth c →
      hz_g cl G p l e rm s m args below meth c nL (MQ below (hz_Q cl G post) args s rm.cells rm.slots (fun q => G.2.2.size ≤ q)) n 0 0 0 (hz_L0 nL as) [] h) : hz_M tbl AO cl KT l y cc nL ret rm G as h n post := by
  refine Met.ofW (cc := cc) (maxL := nL) (ret := ret) hy rfl ?_
  intro p e s m args below meth c s₁ B hml hv
  obtain ⟨rfl, hR, hK, hN⟩ := hv
  have hts := atoms_spec (ws := Cond.code y cc nL ret :: hz_T tbl) B.pre
  have hown : s.vm.findClass y.cls = some m.cls := findClass_of_methodNamed B.named
  have hin : meth.name = y.name := (name_of_methodNamed B.named B.method).1
  rw [lg_entry_eq]
  exact body p e s m _ below meth c ⟨B.exec, B.bytes, hml, B.returns, B.notSynchronized, fun w hw => hts w (List.mem_cons_of_mem _ hw), hown, hK, hN, hin⟩ s.heap [] _ hR (fun q hq => nomatch hq) (hz_L0_lo hc hn)
variable {p : Program} {e : Env} {R : Room} {s : State} {m : MethodId} {args : Array Value} {below : List Frame} {meth : Method} {c : Code} {cells slots mc ms : Nat} {Q : State → Prop} {pc : Nat} {L : List (Option Value)} {st : List Value}
theorem hz_iret {ty : FieldType} {v : Int32} (B : hz_B tbl AO cl KT G y cc nL (some ty) p s m args meth c) (hn : narrow ty (.int v) = .int v) (hp : post (some (.int v)) h n) (h1 : cells ≤ mc) (h2 : slots ≤ ms) (hdg : decode cc pc = .ok (.ireturn, 1)) :
    hz_g cl G p l e R s m args below meth c nL (MQ below (hz_Q cl G post) args s mc ms (fun q => G.2.2.size ≤ q)) n cells slots pc L [.int v] h := by
  intro H locs ls hR hl hL
  refine W.widen h1 h2 ?_
  exact W.zret B.1 B.2.1 B.2.2.2.1 hn (fun t ht _ => ⟨some (.int v), h, n, rfl, hp, by rw [ht]; exact hR⟩) hl hdg B.2.2.2.2.1
theorem hz_vret (B : hz_B tbl AO cl KT G y cc nL none p s m args meth c) (hp : post none h n) (h1 : cells ≤ mc) (h2 : slots ≤ ms) (hdg : decode cc pc = .ok (.return_, 1)) :
    hz_g cl G p l e R s m args below meth c nL (MQ below (hz_Q cl G post) args s mc ms (fun q => G.2.2.size ≤ q)) n cells slots pc L [] h := by
  intro H locs ls hR hl hL
  refine W.widen h1 h2 ?_
  exact W.vret B.1 B.2.1 B.2.2.2.1 (fun t ht _ => ⟨none, h, n, rfl, hp, by rw [ht]; exact hR⟩) hl hdg B.2.2.2.2.1
/-- many instructions, in a body -/
theorem hz_go {fld : Nat → Option (Nat × Nat × FieldType × Bool)} {cn : Nat → Option Int32} (B : hz_B tbl AO cl KT G y cc nL ret p s m args meth c) (hFT : hz_FT G s m args meth fld) (hCN : hz_CN s m args cn) (f : Nat) (cuts : List Nat)
    (hw : hz_w cl KT fld cn cc cuts (hz_g cl G p l e R s m args below meth c nL Q n cells slots) f pc L st h) : hz_g cl G p l e R s m args below meth c nL Q n cells slots pc L st h :=
  hz_w_ok B.1 B.2.1 B.2.2.2.2.2.2.2.1 hFT hCN cuts f pc L st h hw
/-- behind a call -/
theorem hz_ran {H : Heap} {locs : List Loc} {ls : Array Slot} {a : Array Value} {rest : List Value} {st0 : List Value} (run : va_Run p l e R s m args below meth c H locs cells slots mc ms (F0 m pc ls st0) (rest.map (hz_v G.2.2.size)) (hz_Q cl G post a) (fun q => G.2.2.size ≤ q)) (hl : ∀ q ∈ locs, G.2.2.size ≤ q.base) (hL : hz_lo G.2.2.size ls nL L)
    (kk : ∀ (r : Option Value) (h' : hz_H) (n' : Nat), post r h' n' → hz_g cl G p l e R s m args below meth c nL Q n' (cells + mc) (slots + ms) (pc + 3) L (r.toList ++ rest) h') : W p l e R s m args below meth c H locs cells slots Q (F0 m pc ls st0) := by
  intro T hT X
  obtain ⟨v, st₀, t, T', L', h0, X', hL', e1, e2, ⟨r, h', n', hr, hp, hR'⟩, st⟩ := run T hT X
  cases hr
  have hl2 : ∀ q ∈ locs ++ L', G.2.2.size ≤ q.base := fun q hq => (List.mem_append.mp hq).elim (hl q) (hL' q)
  have g := kk r h' n' hp T'.heap (locs ++ L') ls (by rw [e1]; exact hR') hl2 hL
  obtain ⟨t2, a1, b1⟩ := g T' rfl X'
  refine ⟨t2, st t2 ?_, b1⟩
  cases r <;> exact a1
variable {y2 : MethodName} {cc2 : ByteArray} {nL2 : Nat} {ret2 : Option FieldType} {rm2 : Room}
/-- the closed part of a call: the words, by their places -/
def hz_cB (tbl : List Cond) (own : String) (idx : Nat) (y2 : MethodName) (cc2 : ByteArray) (nL2 : Nat) (ret2 : Option FieldType) (k : Nat) : Prop :=
  Cond.methodLink own idx y2 ∈ hz_T tbl ∧ Cond.initialized y2.cls ∈ hz_T tbl ∧ Cond.code y2 cc2 nL2 ret2 ∈ hz_T tbl ∧ (y2.cls ≠ "java/lang/invoke/MethodHandle" ∧ y2.cls ≠ "java/lang/invoke/VarHandle" ∧ (parseMethodDescriptor y2.desc).map (fun d => d.parameters.length) = some k)
def hz_cN (tbl : List Cond) (own : String) (idx : Nat) (y2 : MethodName) (cc2 : ByteArray) (nL2 : Nat) (ret2 : Option FieldType) (k : Nat) : Prop :=
  (∃ host, Cond.methodLinkNest own idx y2 host ∈ tbl) ∧ Cond.initialized y2.cls ∈ hz_T tbl ∧ Cond.code y2 cc2 nL2 ret2 ∈ hz_T tbl ∧ (y2.cls ≠ "java/lang/invoke/MethodHandle" ∧ y2.cls ≠ "java/lang/invoke/VarHandle" ∧ (parseMethodDescriptor y2.desc).map (fun d => d.parameters.length) = some k)
theorem hz_goodIn {w0 : Cond} (h0 : w0 ∈ hz_T tbl) : GoodIn (hz_T tbl) (w0 :: hz_T tbl) := by
  intro w hw
  rcases List.mem_cons.mp hw with e | e
  · subst e
    exact ⟨h0, hz_T_good h0⟩
  · exact ⟨e, hz_T_good e⟩
theorem hz_pre {H : Heap} (B : hz_B tbl AO cl KT G y cc nL ret p s m args meth c) (hR : hz_R cl G h n H) : ∀ U : State, U.heap = H → s.WarmedH U.vm → hz_P tbl AO cl KT G as h n (as.map (hz_v G.2.2.size)).toArray U :=
  fun U hU hW => ⟨rfl, by rw [hU]; exact hR, hz_K.moved hW.alike B.2.2.2.2.2.2.2.1, hz_N.warm hW B.2.2.2.2.2.2.2.2.1⟩
theorem hz_recv {H : Heap} {i ci : Nat} {fs : List Value} {r : vw_C} (hK : hz_K cl KT G s) (hR : hz_R cl G h n H) (hi : h i = some (.inr (ci, fs))) (hc : cl[ci]? = some r) : ∃ cellB : Cell, H[G.2.2.size + i]? = some cellB ∧ cellB.vm.isStatics = false ∧ s.vm.findClass r.1 = some cellB.cls := by
  obtain ⟨r', h1, h2, cell, q1, q2, q3, q4⟩ := hR.2.2 i _ hi
  refine ⟨cell, q1, by rw [q3]; rfl, ?_⟩
  rw [q2]
  exact (hK.1 ci r hc).2.1
theorem hz_callV {own : String} {idx k i ci : Nat} {fs : List Value} {r : vw_C} {as2 rest : List Value} (B : hz_B tbl AO cl KT G y cc nL ret p s m args meth c) (hown : y.cls = own) (cb : hz_cB tbl own idx y2 cc2 nL2 ret2 k) (hin : Cond.instanceMethod y2 ∈ hz_T tbl) (hse : Cond.selects r.1 y2 y2 ∈ hz_T tbl)
    (hM : hz_M tbl AO cl KT l y2 cc2 nL2 ret2 rm2 G (.ref i :: as2) h n post) (hR : rm2.frames + 1 ≤ R.frames ∧ 8 + (nL2 + 11) + rm2.locals ≤ R.locals) (hf : cells + rm2.cells ≤ R.cells ∧ slots + rm2.slots ≤ R.slots) (hi : h i = some (.inr (ci, fs))) (hc : cl[ci]? = some r) (hk : as2.length = k) (hW : (rest.map fun v => v.category).sum ≤ 8) (hst : st = as2.reverse ++ .ref i :: rest) (hdg : decode cc pc = .ok (.invokevirtual idx, 3))
    (kk : ∀ (r : Option Value) (h' : hz_H) (n' : Nat), post r h' n' → hz_g cl G p l e R s m args below meth c nL Q n' (cells + rm2.cells) (slots + rm2.slots) (pc + 3) L (r.toList ++ rest) h') : hz_g cl G p l e R s m args below meth c nL Q n cells slots pc L st h := by
  intro H locs ls hRR hl hL
  obtain ⟨b1, b2, b3, b4, b5, b6, b7, b8, b9, b10⟩ := id B
  obtain ⟨c1, c2, c3, c4⟩ := cb
  subst hown
  subst hst
  have S : CallFix p m c cc nL s args (hz_T tbl) y.cls := ⟨b1, b2, b3, b7, b6⟩
  have cw : CallW R s args y.cls r.1 idx y2 cc2 nL2 ret2 (Cond.code y2 cc2 nL2 ret2 :: hz_T tbl) rm2 rm2.cells rm2.slots k :=
    ⟨callB_of k b6 (hz_goodIn c3) rfl rfl rfl (b6 _ c2) (b6 _ c1) c4 hR, b6 _ hin, b6 _ hse⟩
  refine hz_ran (va_runV (As := as2.map (hz_v G.2.2.size)) S hM cw ⟨hz_P.blind, hz_recv b8 hRR hi hc, ?_⟩ rfl (by rw [List.length_map]; exact hk) hL.2.1 ?_ ?_ hdg hf) hl hL kk
  · exact hz_pre (as := .ref i :: as2) B hRR
  · simp [List.map_append, List.map_reverse, hz_v]
  · simp only [List.map_map]
    rw [show ((fun v : Value => v.category) ∘ hz_v G.2.2.size) = fun v => v.category from funext fun v => hz_v_cat _ v]
    show 2 * 0 + (rest.map fun v => v.category).sum ≤ 8
    omega
theorem hz_callS {own : String} {idx k : Nat} {as2 rest : List Value} (B : hz_B tbl AO cl KT G y cc nL ret p s m args meth c) (hown : y.cls = own) (cb : hz_cB tbl own idx y2 cc2 nL2 ret2 k) (hin : Cond.static y2 ∈ hz_T tbl)
    (hM : hz_M tbl AO cl KT l y2 cc2 nL2 ret2 rm2 G as2 h n post) (hR : rm2.frames + 1 ≤ R.frames ∧ 8 + (nL2 + 11) + rm2.locals ≤ R.locals) (hf : cells + rm2.cells ≤ R.cells ∧ slots + rm2.slots ≤ R.slots) (hk : as2.length = k) (hW : (rest.map fun v => v.category).sum ≤ 8) (hst : st = as2.reverse ++ rest) (hdg : decode cc pc = .ok (.invokestatic idx, 3))
    (kk : ∀ (r : Option Value) (h' : hz_H) (n' : Nat), post r h' n' → hz_g cl G p l e R s m args below meth c nL Q n' (cells + rm2.cells) (slots + rm2.slots) (pc + 3) L (r.toList ++ rest) h') : hz_g cl G p l e R s m args below meth c nL Q n cells slots pc L st h := by
  intro H locs ls hRR hl hL
  obtain ⟨b1, b2, b3, b4, b5, b6, b7, b8, b9, b10⟩ := id B
  obtain ⟨c1, c2, c3, c4⟩ := cb
  subst hown
  subst hst
  have S : CallFix p m c cc nL s args (hz_T tbl) y.cls := ⟨b1, b2, b3, b7, b6⟩
  have cw : CallB R s args y.cls idx y2 cc2 nL2 ret2 (Cond.code y2 cc2 nL2 ret2 :: hz_T tbl) rm2 rm2.cells rm2.slots k ∧ (Cond.static y2).before args s = true :=
    ⟨callB_of k b6 (hz_goodIn c3) rfl rfl rfl (b6 _ c2) (b6 _ c1) c4 hR, b6 _ hin⟩
  refine hz_ran (va_runS (As := as2.map (hz_v G.2.2.size)) S hM cw ⟨hz_P.blind, ?_⟩ rfl (by rw [List.length_map]; exact hk) hL.2.1 ?_ ?_ hdg hf) hl hL kk
  · exact hz_pre (as := as2) B hRR
  · simp [List.map_append, List.map_reverse]
  · simp only [List.map_map]
    rw [show ((fun v : Value => v.category) ∘ hz_v G.2.2.size) = fun v => v.category from funext fun v => hz_v_cat _ v]
    show 2 * 0 + (rest.map fun v => v.category).sum ≤ 8
    omega
theorem hz_callI {own : String} {idx k i : Nat} {as2 rest : List Value} (B : hz_B tbl AO cl KT G y cc nL ret p s m args meth c) (hown : y.cls = own) (cb : hz_cB tbl own idx y2 cc2 nL2 none k) (hin : Cond.instanceMethod y2 ∈ hz_T tbl) (hy2 : y2.name = "<init>")
    (hM : hz_M tbl AO cl KT l y2 cc2 nL2 none rm2 G (.ref i :: as2) h n post) (hR : rm2.frames + 1 ≤ R.frames ∧ 8 + (nL2 + 11) + rm2.locals ≤ R.locals) (hf : cells + rm2.cells ≤ R.cells ∧ slots + rm2.slots ≤ R.slots) (hk : as2.length = k) (hW : (rest.map fun v => v.category).sum ≤ 8) (hst : st = as2.reverse ++ .ref i :: rest) (hdg : decode cc pc = .ok (.invokespecial idx, 3))
    (kk : ∀ (r : Option Value) (h' : hz_H) (n' : Nat), post r h' n' → hz_g cl G p l e R s m args below meth c nL Q n' (cells + rm2.cells) (slots + rm2.slots) (pc + 3) L (r.toList ++ rest) h') : hz_g cl G p l e R s m args below meth c nL Q n cells slots pc L st h := by
  intro H locs ls hRR hl hL
  obtain ⟨b1, b2, b3, b4, b5, b6, b7, b8, b9, b10⟩ := id B
  obtain ⟨c1, c2, c3, c4⟩ := cb
  subst hown
  subst hst
  have S : CallFix p m c cc nL s args (hz_T tbl) y.cls := ⟨b1, b2, b3, b7, b6⟩
  have cw : CallB R s args y.cls idx y2 cc2 nL2 none (Cond.code y2 cc2 nL2 none :: hz_T tbl) rm2 rm2.cells rm2.slots k ∧ y2.name = "<init>" ∧ (Cond.instanceMethod y2).before args s = true :=
    ⟨callB_of k b6 (hz_goodIn c3) rfl rfl rfl (b6 _ c2) (b6 _ c1) c4 hR, hy2, b6 _ hin⟩
  refine hz_ran (va_runI (As := as2.map (hz_v G.2.2.size)) (b := G.2.2.size + i) S hM cw ⟨hz_P.blind, ?_⟩ rfl (by rw [List.length_map]; exact hk) hL.2.1 ?_ ?_ hdg hf) hl hL kk
  · exact hz_pre (as := .ref i :: as2) B hRR
  · simp [List.map_append, List.map_reverse, hz_v]
  · simp only [List.map_map]
    rw [show ((fun v : Value => v.category) ∘ hz_v G.2.2.size) = fun v => v.category from funext fun v => hz_v_cat _ v]
    show 2 * 0 + (rest.map fun v => v.category).sum ≤ 8
    omega
theorem hz_cnw {own : String} {idx k : Nat} (B : hz_B tbl AO cl KT G y cc nL ret p s m args meth c) (cb : hz_cN tbl own idx y2 cc2 nL2 ret2 k) (hR : rm2.frames + 1 ≤ R.frames ∧ 8 + (nL2 + 11) + rm2.locals ≤ R.locals) : ∃ host, va_CN R s args own idx y2 host cc2 nL2 ret2 (Cond.code y2 cc2 nL2 ret2 :: hz_T tbl) rm2 rm2.cells rm2.slots k := by
  obtain ⟨b1, b2, b3, b4, b5, b6, b7, b8, b9, b10⟩ := id B
  obtain ⟨⟨host, c1⟩, c2, c3, c4⟩ := cb
  exact ⟨host, va_cnB k b6 (hz_goodIn c3) rfl rfl rfl (b9.2.1 _ _ _ _ c1) (b6 _ c2) c4 hR⟩
theorem hz_callVN {own : String} {idx k i ci : Nat} {fs : List Value} {r : vw_C} {as2 rest : List Value} (B : hz_B tbl AO cl KT G y cc nL ret p s m args meth c) (hown : y.cls = own) (cb : hz_cN tbl own idx y2 cc2 nL2 ret2 k) (hin : Cond.instanceMethod y2 ∈ hz_T tbl) (hse : Cond.selects r.1 y2 y2 ∈ hz_T tbl)
    (hM : hz_M tbl AO cl KT l y2 cc2 nL2 ret2 rm2 G (.ref i :: as2) h n post) (hR : rm2.frames + 1 ≤ R.frames ∧ 8 + (nL2 + 11) + rm2.locals ≤ R.locals) (hf : cells + rm2.cells ≤ R.cells ∧ slots + rm2.slots ≤ R.slots) (hi : h i = some (.inr (ci, fs))) (hc : cl[ci]? = some r) (hk : as2.length = k) (hW : (rest.map fun v => v.category).sum ≤ 8) (hst : st = as2.reverse ++ .ref i :: rest) (hdg : decode cc pc = .ok (.invokevirtual idx, 3))
    (kk : ∀ (r : Option Value) (h' : hz_H) (n' : Nat), post r h' n' → hz_g cl G p l e R s m args below meth c nL Q n' (cells + rm2.cells) (slots + rm2.slots) (pc + 3) L (r.toList ++ rest) h') : hz_g cl G p l e R s m args below meth c nL Q n cells slots pc L st h := by
  intro H locs ls hRR hl hL
  obtain ⟨b1, b2, b3, b4, b5, b6, b7, b8, b9, b10⟩ := id B
  subst hown
  subst hst
  obtain ⟨host, cw⟩ := hz_cnw (R := R) B cb hR
  have S : CallFix p m c cc nL s args (hz_T tbl) y.cls := ⟨b1, b2, b3, b7, b6⟩
  refine hz_ran (va_runVN (As := as2.map (hz_v G.2.2.size)) S hM ⟨cw, b6 _ hin, b6 _ hse⟩ ⟨hz_P.blind, hz_recv b8 hRR hi hc, ?_⟩ rfl (by rw [List.length_map]; exact hk) hL.2.1 ?_ ?_ hdg hf) hl hL kk
  · exact hz_pre (as := .ref i :: as2) B hRR
  · simp [List.map_append, List.map_reverse, hz_v]
  · simp only [List.map_map]
    rw [show ((fun v : Value => v.category) ∘ hz_v G.2.2.size) = fun v => v.category from funext fun v => hz_v_cat _ v]
    show 2 * 0 + (rest.map fun v => v.category).sum ≤ 8
    omega
theorem hz_callSN {own : String} {idx k : Nat} {as2 rest : List Value} (B : hz_B tbl AO cl KT G y cc nL ret p s m args meth c) (hown : y.cls = own) (cb : hz_cN tbl own idx y2 cc2 nL2 ret2 k) (hin : Cond.static y2 ∈ hz_T tbl)
    (hM : hz_M tbl AO cl KT l y2 cc2 nL2 ret2 rm2 G as2 h n post) (hR : rm2.frames + 1 ≤ R.frames ∧ 8 + (nL2 + 11) + rm2.locals ≤ R.locals) (hf : cells + rm2.cells ≤ R.cells ∧ slots + rm2.slots ≤ R.slots) (hk : as2.length = k) (hW : (rest.map fun v => v.category).sum ≤ 8) (hst : st = as2.reverse ++ rest) (hdg : decode cc pc = .ok (.invokestatic idx, 3))
    (kk : ∀ (r : Option Value) (h' : hz_H) (n' : Nat), post r h' n' → hz_g cl G p l e R s m args below meth c nL Q n' (cells + rm2.cells) (slots + rm2.slots) (pc + 3) L (r.toList ++ rest) h') : hz_g cl G p l e R s m args below meth c nL Q n cells slots pc L st h := by
  intro H locs ls hRR hl hL
  obtain ⟨b1, b2, b3, b4, b5, b6, b7, b8, b9, b10⟩ := id B
  subst hown
  subst hst
  obtain ⟨host, cw⟩ := hz_cnw (R := R) B cb hR
  have S : CallFix p m c cc nL s args (hz_T tbl) y.cls := ⟨b1, b2, b3, b7, b6⟩
  refine hz_ran (va_runSN (As := as2.map (hz_v G.2.2.size)) S hM ⟨cw, b6 _ hin, trivial⟩ ⟨hz_P.blind, ?_⟩ rfl (by rw [List.length_map]; exact hk) hL.2.1 ?_ ?_ hdg hf) hl hL kk
  · exact hz_pre (as := as2) B hRR
  · simp [List.map_append, List.map_reverse]
  · simp only [List.map_map]
    rw [show ((fun v : Value => v.category) ∘ hz_v G.2.2.size) = fun v => v.category from funext fun v => hz_v_cat _ v]
    show 2 * 0 + (rest.map fun v => v.category).sum ≤ 8
    omega
/-- Object.<init> -/
theorem hz_objInit {idx i : Nat} {rest : List Value} (B : hz_B tbl AO cl KT G y cc nL ret p s m args meth c) (h1 : Cond.methodLink y.cls idx Lib.objectInit ∈ hz_T tbl) (h2 : Cond.instanceMethod Lib.objectInit ∈ hz_T tbl) (h3 : Cond.code Lib.objectInit ⟨#[0xb1]⟩ 1 none ∈ hz_T tbl) (hdg : decode cc pc = .ok (.invokespecial idx, 3)) (hf : 1 ≤ R.frames) (hlo : (rest.map fun v => v.category).sum + 12 ≤ R.locals)
    (kk : hz_g cl G p l e R s m args below meth c nL Q n cells slots (pc + 3) L rest h) : hz_g cl G p l e R s m args below meth c nL Q n cells slots pc L (.ref i :: rest) h := by
  intro H locs ls hR hl hL
  obtain ⟨b1, b2, b3, b4, b5, b6, b7, b8, b9, b10⟩ := id B
  refine W.objInit b1 b2 b7 (b6 _ h1) (b6 _ h2) (b6 _ h3) rfl (by rw [b3]; exact hL.2.1) rfl hdg hf ?_ (kk H locs ls hR hl hL)
  simp only [List.map_map]
  rw [show ((fun v : Value => v.category) ∘ hz_v G.2.2.size) = fun v => v.category from funext fun v => hz_v_cat _ v]
  show 2 * 0 + _ + 12 ≤ _
  omega
/-- new arrays -/
theorem hz_newa {aty : ArrayType} {t : Nat} {ty : FieldType} {x : Int32} {rest : List Value} {N : Nat} {v0 : Value} (B : hz_B tbl AO cl KT G y cc nL ret p s m args meth c) (hty : newarray.typeOf aty = ty) (ht : KT[t]? = some ty) (hr : ∀ U, va_RA U (G.2.1 t) ty = (U.vm.findClass ("[" ++ ty.toString) = some (G.2.1 t))) (harr : Cond.arrayClass ty ∈ hz_T tbl) (hv : defaultValue ty = v0) (hv0 : hz_v G.2.2.size v0 = v0) (hx : 0 ≤ x.toInt) (hN : x.toInt.toNat = N) (hby : N * componentBytes ty ≤ 536870912) (hc : cells + 1 ≤ R.cells) (hs : slots + N ≤ R.slots) (hdg : decode cc pc = .ok (.newarray aty, 2))
    (kk : hz_g cl G p l e R s m args below meth c nL Q (n + 1) (cells + 1) (slots + N) (pc + 2) L (.ref n :: rest) (hz_set h n (.inl (t, N, fun _ => v0)))) : hz_g cl G p l e R s m args below meth c nL Q n cells slots pc L (.int x :: rest) h := by
  intro H locs ls hR hl hL
  obtain ⟨b1, b2, b3, b4, b5, b6, b7, b8, b9, b10⟩ := id B
  subst hty
  subst hN
  have hRA := (b8.2.1 t _ ht).2
  rw [hr] at hRA
  refine va_newaK b1 b2 (b6 _ harr) rfl hdg rfl ?_ rfl hby hc hs rfl fun H1 cA e1 z1 o1 hAr hNm => ?_
  · intro q
    rw [Int32.lt_iff_toInt_lt, Int32.toInt_zero] at q
    omega
  have hcA : cA = G.2.1 t := Option.some.inj (hNm.symm.trans hRA)
  subst hcA
  have hsz : H.size = G.2.2.size + n := hR.1
  have hR1 : hz_R cl G (hz_set h n (.inl (t, x.toInt.toNat, fun _ => v0))) (n + 1) H1 := by
    refine hR.push z1 o1 ?_
    show H1[G.2.2.size + n]? = some (arrV (G.2.1 t) x.toInt.toNat (fun _ => hz_v G.2.2.size v0))
    rw [← hsz, e1, hv, hv0]
    rfl
  have g := kk H1 locs ls hR1 hl hL
  rw [hsz]
  exact g
theorem hz_newq {t idx : Nat} {C : String} {x : Int32} {rest : List Value} {N : Nat} (B : hz_B tbl AO cl KT G y cc nL ret p s m args meth c) (ht : KT[t]? = some (.object C)) (hcl : Cond.classLink y.cls idx C ∈ hz_T tbl) (hao : C ∈ AO) (hx : 0 ≤ x.toInt) (hN : x.toInt.toNat = N) (hby : N * 4 ≤ 536870912) (hc : cells + 1 ≤ R.cells) (hs : slots + N ≤ R.slots) (hdg : decode cc pc = .ok (.anewarray idx, 3))
    (kk : hz_g cl G p l e R s m args below meth c nL Q (n + 1) (cells + 1) (slots + N) (pc + 3) L (.ref n :: rest) (hz_set h n (.inl (t, N, fun _ => .null)))) : hz_g cl G p l e R s m args below meth c nL Q n cells slots pc L (.int x :: rest) h := by
  intro H locs ls hR hl hL
  obtain ⟨b1, b2, b3, b4, b5, b6, b7, b8, b9, b10⟩ := id B
  subst hN
  obtain ⟨kA', comp', k1, k2, k3, k4⟩ := (b8.2.1 t _ ht).2
  have hsz : H.size = G.2.2.size + n := hR.1
  refine W.anew b1 b2 b7 (b6 _ hcl) (va_AO.use (b9.2.2 C hao)) rfl hdg rfl ?_ hby hc hs fun cA kA comp f1 f2 f3 f4 => ?_
  · intro q
    rw [Int32.lt_iff_toInt_lt, Int32.toInt_zero] at q
    omega
  have hcA : cA = G.2.1 t := Option.some.inj (f1.symm.trans k4)
  subst hcA
  have hR1 : hz_R cl G (hz_set h n (.inl (t, x.toInt.toNat, fun _ => .null))) (n + 1) (H.push ({ cls := G.2.1 t, slots := Array.replicate x.toNatClampNeg .null, vm := .none } : Cell)) := by
    refine hR.push (by simp) (fun q hq => by rw [Array.getElem?_push, if_neg (Nat.ne_of_lt hq)]) ?_
    show (H.push _)[G.2.2.size + n]? = some (arrV (G.2.1 t) x.toInt.toNat (fun _ => .null))
    rw [← hsz, Array.getElem?_push_size, arrV_new]
    rfl
  have g := kk _ locs ls hR1 hl hL
  rw [hsz]
  exact g
/-- a new object -/
theorem hz_new {idx ci : Nat} {r : vw_C} {ty : Nat → FieldType} {fs : List Value} {rest : List Value} (B : hz_B tbl AO cl KT G y cc nL ret p s m args meth c) (hc : cl[ci]? = some r) (hin : ∀ w ∈ u_ws r.1 r.2.1 r.2.2, w ∈ hz_T tbl) (hty : ∀ k, k < r.2.2 → parseFieldDescriptor (r.2.1 k).2.2.1 = some (ty k)) (hcl : Cond.classLink y.cls idx r.1 ∈ hz_T tbl) (hins : Cond.instantiable r.1 r.2.2 ∈ hz_T tbl) (hini : Cond.initialized r.1 ∈ hz_T tbl) (hfl : fs.length = r.2.2) (hfs : ∀ j, j < r.2.2 → defaultValue (ty j) = hz_v G.2.2.size (fs.getD j .null)) (h1 : cells + 1 ≤ R.cells) (h2 : slots + r.2.2 ≤ R.slots) (hdg : decode cc pc = .ok (.new idx, 3))
    (kk : hz_g cl G p l e R s m args below meth c nL Q (n + 1) (cells + 1) (slots + r.2.2) (pc + 3) L (.ref n :: rest) (hz_set h n (.inr (ci, fs)))) : hz_g cl G p l e R s m args below meth c nL Q n cells slots pc L rest h := by
  intro H locs ls hR hl hL
  obtain ⟨b1, b2, b3, b4, b5, b6, b7, b8, b9, b10⟩ := id B
  have hKn := b8.1 ci r hc
  have hsz : H.size = G.2.2.size + n := hR.1
  refine W.newcK b1 b2 b7 (b6 _ hcl) (b6 _ hins) (b6 _ hini) rfl hdg h1 h2 hKn.2.1 rfl fun H1 kC hkC e1 z1 o1 => ?_
  have hR1 : hz_R cl G (hz_set h n (.inr (ci, fs))) (n + 1) H1 := by
    refine hR.push z1 o1 ⟨r, hc, hfl, ?_⟩
    rw [hsz] at e1
    exact (u_born ty b6 hin hKn hkC e1 hty).to hfs
  have g := kk H1 locs ls hR1 hl hL
  rw [hsz]
  exact g
/-- a field's number in the constant pool, out of the words -/
theorem hz_Fof {ci k idx : Nat} {C : String} {T : u_T} {N : Nat} {ty : FieldType} {wr : Bool} (B : hz_B tbl AO cl KT G y cc nL ret p s m args meth c) (hc : cl[ci]? = some (C, T, N)) (hin : ∀ w ∈ u_ws C T N, w ∈ hz_T tbl) (hk : k < N) (hlink : Cond.fieldLink y.cls idx (T k).1 (T k).2.1 (T k).2.2.1 ∈ hz_T tbl ∨ ∃ host, Cond.fieldLinkNest y.cls idx (T k).1 (T k).2.1 (T k).2.2.1 host ∈ tbl)
    (hd : parseFieldDescriptor (T k).2.2.1 = some ty) (hw : wr = true → (T k).2.2.2 = false ∨ ((T k).2.2.2 = true ∧ (T k).1 = y.cls ∧ y.name = "<init>")) : hz_F G s m args meth idx ci k ty wr := by
  obtain ⟨b1, b2, b3, b4, b5, b6, b7, b8, b9, b10⟩ := id B
  obtain ⟨hS, hfc, kC, hkC, hkind⟩ := b8.1 ci _ hc
  obtain ⟨cf, kf, fi, f, hi, hsl⟩ := hS k hk
  refine ⟨(T k).1, (T k).2.1, (T k).2.2.1, cf, kf, fi, f, ⟨y.cls, b7, ?_⟩, hi, (u_facts hfc hkC (u_lays b6 hin hk) hi).1, hsl, fun v hn hf => u_fits hfc hkC hkind (u_lays b6 hin hk) hi hd hn hf, fun q => ?_⟩
  · rcases hlink with h1 | ⟨host, h1⟩
    · exact Or.inl (b6 _ h1)
    · exact Or.inr ⟨host, va_Nw.use rfl (b9.1 _ _ _ _ _ _ h1)⟩
  · have hlay := b6 _ (hin _ (u_in_lay hk))
    unfold u_lay at hlay
    rcases hw q with hf | ⟨hf, hd2, hin2⟩
    · rw [if_neg (by rw [hf]; decide)] at hlay
      obtain ⟨_, _, _, _, _, _, -, -, hi', -, hfin, -⟩ := Cond.lays_spec hlay
      cases hi.symm.trans hi'
      exact Or.inl hfin
    · rw [if_pos hf] at hlay
      refine Or.inr ⟨?_, b10.trans hin2⟩
      obtain ⟨_, _, c', _, _, _, -, -, hf', -, -, -, hown2, -⟩ := Cond.laysFinal_spec hlay
      have e1 : c' = cf := by have := hi.symm.trans hf'; simp at this; exact this.1.symm
      rw [hd2] at hown2
      rw [← e1]; exact Option.some.inj (b7.symm.trans hown2)
end HZD
