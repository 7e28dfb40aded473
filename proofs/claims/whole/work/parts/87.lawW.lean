/-! The law's own frame: rows with its locals as they are (its script lies below all that is made). -/
section LW
variable {tbl : List Cond} {AO : List String} {cl : List vw_C} {KT : List FieldType} {l : Launch} {G : hz_G} {y y2 : MethodName} {cc cc2 : ByteArray} {nL nL2 : Nat} {ret ret2 : Option FieldType} {rm2 : Room} {h : hz_H} {n : Nat} {post : Option Value → hz_H → Nat → Prop} {hh : List (Nat × Nat × Nat × Nat)}
variable {p : Program} {e : Env} {R : Room} {s : State} {m : MethodId} {args : Array Value} {below : List Frame} {meth : Method} {c : Code} {cells slots mc ms : Nat} {Q : State → Prop} {pc : Nat} {H : Heap} {locs : List Loc} {ls : Array Slot} {st0 rest as2 : List Value}
theorem wz_ran {a : Array Value} (run : va_Run p l e R s m args below meth c H locs cells slots mc ms (F0 m pc ls st0) rest (hz_Q cl G post a) (fun q => G.2.2.size ≤ q)) (hl : ∀ q ∈ locs, G.2.2.size ≤ q.base)
    (kk : ∀ (r : Option Value) (h' : hz_H) (n' : Nat) (H' : Heap) (locs' : List Loc), post r h' n' → hz_R cl G h' n' H' → (∀ q ∈ locs', G.2.2.size ≤ q.base) → W p l e R s m args below meth c H' locs' (cells + mc) (slots + ms) Q (F0 m (pc + 3) ls ((r.map (hz_v G.2.2.size)).toList ++ rest))) : W p l e R s m args below meth c H locs cells slots Q (F0 m pc ls st0) := by
  intro T hT X
  obtain ⟨v, st₀, t, T', L', h0, X', hL', e1, e2, ⟨r, h', n', hr, hp, hR'⟩, st⟩ := run T hT X
  cases hr
  obtain ⟨t2, a1, b1⟩ := kk r h' n' T'.heap (locs ++ L') hp (by rw [e1]; exact hR') (fun q hq => (List.mem_append.mp hq).elim (hl q) (hL' q)) T' rfl X'
  exact ⟨t2, st t2 a1, b1⟩
theorem wz_callV {own : String} {idx k i ci : Nat} {fs : List Value} {r : vw_C} (B : hz_B tbl AO cl KT G y cc nL ret p s m args meth c) (hown : y.cls = own) (cb : hz_cB tbl own idx y2 cc2 nL2 ret2 k) (hin : Cond.instanceMethod y2 ∈ hz_T tbl) (hse : Cond.selects r.1 y2 y2 ∈ hz_T tbl)
    (hM : hz_M tbl AO cl KT l y2 cc2 nL2 ret2 rm2 G (.ref i :: as2) h n post) (hR : rm2.frames + 1 ≤ R.frames ∧ 8 + (nL2 + 11) + rm2.locals ≤ R.locals) (hf : cells + rm2.cells ≤ R.cells ∧ slots + rm2.slots ≤ R.slots) (hi : h i = some (.inr (ci, fs))) (hc : cl[ci]? = some r) (hk : as2.length = k) (hW : (rest.map fun v => v.category).sum ≤ 8) (hst : st0 = (as2.map (hz_v G.2.2.size)).reverse ++ .ref (G.2.2.size + i) :: rest) (hdg : decode cc pc = .ok (.invokevirtual idx, 3)) (hRR : hz_R cl G h n H) (hl : ∀ q ∈ locs, G.2.2.size ≤ q.base) (hsz : ls.size = nL)
    (kk : ∀ (r : Option Value) (h' : hz_H) (n' : Nat) (H' : Heap) (locs' : List Loc), post r h' n' → hz_R cl G h' n' H' → (∀ q ∈ locs', G.2.2.size ≤ q.base) → W p l e R s m args below meth c H' locs' (cells + rm2.cells) (slots + rm2.slots) Q (F0 m (pc + 3) ls ((r.map (hz_v G.2.2.size)).toList ++ rest))) : W p l e R s m args below meth c H locs cells slots Q (F0 m pc ls st0) := by
  obtain ⟨b1, b2, b3, b4, b5, b6, b7, b8, b9, b10⟩ := id B
  obtain ⟨c1, c2, c3, c4⟩ := cb
  subst hown
  subst hst
  have S : CallFix p m c cc nL s args (hz_T tbl) y.cls := ⟨b1, b2, b3, b7, b6⟩
  have cw : CallW R s args y.cls r.1 idx y2 cc2 nL2 ret2 (Cond.code y2 cc2 nL2 ret2 :: hz_T tbl) rm2 rm2.cells rm2.slots k :=
    ⟨callB_of k b6 (hz_goodIn c3) rfl rfl rfl (b6 _ c2) (b6 _ c1) c4 hR, b6 _ hin, b6 _ hse⟩
  exact wz_ran (va_runV (As := as2.map (hz_v G.2.2.size)) S hM cw ⟨hz_P.blind, hz_recv b8 hRR hi hc, hz_pre (as := .ref i :: as2) B hRR⟩ rfl (by rw [List.length_map]; exact hk) hsz rfl (by show 2 * 0 + (rest.map fun v => v.category).sum ≤ 8; omega) hdg hf) hl kk
theorem wz_callI {own : String} {idx k i : Nat} (B : hz_B tbl AO cl KT G y cc nL ret p s m args meth c) (hown : y.cls = own) (cb : hz_cB tbl own idx y2 cc2 nL2 none k) (hin : Cond.instanceMethod y2 ∈ hz_T tbl) (hy2 : y2.name = "<init>")
    (hM : hz_M tbl AO cl KT l y2 cc2 nL2 none rm2 G (.ref i :: as2) h n post) (hR : rm2.frames + 1 ≤ R.frames ∧ 8 + (nL2 + 11) + rm2.locals ≤ R.locals) (hf : cells + rm2.cells ≤ R.cells ∧ slots + rm2.slots ≤ R.slots) (hk : as2.length = k) (hW : (rest.map fun v => v.category).sum ≤ 8) (hst : st0 = (as2.map (hz_v G.2.2.size)).reverse ++ .ref (G.2.2.size + i) :: rest) (hdg : decode cc pc = .ok (.invokespecial idx, 3)) (hRR : hz_R cl G h n H) (hl : ∀ q ∈ locs, G.2.2.size ≤ q.base) (hsz : ls.size = nL)
    (kk : ∀ (r : Option Value) (h' : hz_H) (n' : Nat) (H' : Heap) (locs' : List Loc), post r h' n' → hz_R cl G h' n' H' → (∀ q ∈ locs', G.2.2.size ≤ q.base) → W p l e R s m args below meth c H' locs' (cells + rm2.cells) (slots + rm2.slots) Q (F0 m (pc + 3) ls ((r.map (hz_v G.2.2.size)).toList ++ rest))) : W p l e R s m args below meth c H locs cells slots Q (F0 m pc ls st0) := by
  obtain ⟨b1, b2, b3, b4, b5, b6, b7, b8, b9, b10⟩ := id B
  obtain ⟨c1, c2, c3, c4⟩ := cb
  subst hown
  subst hst
  have S : CallFix p m c cc nL s args (hz_T tbl) y.cls := ⟨b1, b2, b3, b7, b6⟩
  have cw : CallB R s args y.cls idx y2 cc2 nL2 none (Cond.code y2 cc2 nL2 none :: hz_T tbl) rm2 rm2.cells rm2.slots k ∧ y2.name = "<init>" ∧ (Cond.instanceMethod y2).before args s = true :=
    ⟨callB_of k b6 (hz_goodIn c3) rfl rfl rfl (b6 _ c2) (b6 _ c1) c4 hR, hy2, b6 _ hin⟩
  exact wz_ran (va_runI (As := as2.map (hz_v G.2.2.size)) (b := G.2.2.size + i) S hM cw ⟨hz_P.blind, hz_pre (as := .ref i :: as2) B hRR⟩ rfl (by rw [List.length_map]; exact hk) hsz rfl (by show 2 * 0 + (rest.map fun v => v.category).sum ≤ 8; omega) hdg hf) hl kk
theorem wz_callSW {own : String} {idx k : Nat} (B : hz_B tbl AO cl KT G y cc nL ret p s m args meth c) (hYB : hz_YB G s) (hown : y.cls = own) (w1 : Cond.methodLink own idx y2 ∈ hz_T tbl) (w2 : Cond.static y2 ∈ hz_T tbl) (w3 : Cond.initialized y2.cls ∈ hz_T tbl) (w4 : Cond.codeWith y2 cc2 nL2 ret2 hh ∈ hz_T tbl) (hd : y2.cls ≠ "java/lang/invoke/MethodHandle" ∧ y2.cls ≠ "java/lang/invoke/VarHandle" ∧ (parseMethodDescriptor y2.desc).map (fun d => d.parameters.length) = some k)
    (hM : hz_MW tbl AO cl KT l y2 cc2 nL2 ret2 hh rm2 G as2 h n post) (hR : rm2.frames + 1 ≤ R.frames ∧ 8 + (nL2 + 11) + rm2.locals ≤ R.locals) (hf : cells + rm2.cells ≤ R.cells ∧ slots + rm2.slots ≤ R.slots) (hk : as2.length = k) (hW : (rest.map fun v => v.category).sum ≤ 8) (hst : st0 = (as2.map (hz_v G.2.2.size)).reverse ++ rest) (hdg : decode cc pc = .ok (.invokestatic idx, 3)) (hRR : hz_R cl G h n H) (hl : ∀ q ∈ locs, G.2.2.size ≤ q.base) (hsz : ls.size = nL)
    (kk : ∀ (r : Option Value) (h' : hz_H) (n' : Nat) (H' : Heap) (locs' : List Loc), post r h' n' → hz_R cl G h' n' H' → (∀ q ∈ locs', G.2.2.size ≤ q.base) → W p l e R s m args below meth c H' locs' (cells + rm2.cells) (slots + rm2.slots) Q (F0 m (pc + 3) ls ((r.map (hz_v G.2.2.size)).toList ++ rest))) : W p l e R s m args below meth c H locs cells slots Q (F0 m pc ls st0) := by
  obtain ⟨b1, b2, b3, b4, b5, b6, b7, b8, b9, b10⟩ := id B
  subst hown
  subst hst
  have S : CallFix p m c cc nL s args (hz_T tbl) y.cls := ⟨b1, b2, b3, b7, b6⟩
  have hT : GoodIn (hz_T tbl) (va_wsS y.cls idx y2 (Cond.codeWith y2 cc2 nL2 ret2 hh :: hz_T tbl)) := by
    intro w hw
    have hm : w ∈ hz_T tbl := by
      unfold va_wsS at hw
      rcases List.mem_append.mp hw with q | q
      · rcases List.mem_cons.mp q with q | q
        · rw [q]; exact w1
        · rcases List.mem_cons.mp q with q | q
          · rw [q]; exact w2
          · rw [List.mem_singleton.mp q]; exact w3
      · rcases List.mem_cons.mp q with q | q
        · rw [q]; exact w4
        · exact q
    exact ⟨hm, hz_T_good hm⟩
  have cw : vx_CSW R s args y.cls idx y2 cc2 nL2 ret2 hh (Cond.codeWith y2 cc2 nL2 ret2 hh :: hz_T tbl) rm2 rm2.cells rm2.slots k := vx_cwSW k b6 hT rfl rfl rfl hd hR
  have run := vx_runSX (H := H) (locs := locs) (cells := cells) (slots := slots) (e := e) (below := below) (meth := meth) (g := F0 m pc ls ((as2.map (hz_v G.2.2.size)).reverse ++ rest)) (rest := rest) (As := as2.map (hz_v G.2.2.size)) S hM cw ⟨hz_PX.blind, fun U hU hW => ⟨hz_pre (as := as2) B hRR U hU hW, hz_Y.warm hW hYB.1⟩⟩ rfl (by rw [List.length_map]; exact hk) hsz rfl (by show 2 * 0 + (rest.map fun v => v.category).sum ≤ 8; omega) hdg hf
  intro T hT X
  rcases run T hT X with ⟨v, st₀, t, T', L', h0, X', hL', e1, e2, ⟨r, h', n', hr, hp, hR'⟩, st⟩ | ⟨q, st₀, t, T', L', E, ce, h0, X', hL', e1, e2, ⟨h', n', hp, hR'⟩, hce, hcv, hcl, st⟩
  · cases hr
    obtain ⟨t2, a1, q1⟩ := kk r h' n' T'.heap (locs ++ L') hp (by rw [e1]; exact hR') (fun q hq => (List.mem_append.mp hq).elim (hl q) (hL' q)) T' rfl X'
    exact ⟨t2, st t2 a1, q1⟩
  · exact hp.elim
theorem wz_newa {aty : ArrayType} {t : Nat} {ty : FieldType} {x : Int32} {N : Nat} {v0 : Value} (B : hz_B tbl AO cl KT G y cc nL ret p s m args meth c) (hty : newarray.typeOf aty = ty) (ht : KT[t]? = some ty) (hr : ∀ U, va_RA U (G.2.1 t) ty = (U.vm.findClass ("[" ++ ty.toString) = some (G.2.1 t))) (harr : Cond.arrayClass ty ∈ hz_T tbl) (hv : defaultValue ty = v0) (hv0 : hz_v G.2.2.size v0 = v0) (hx : 0 ≤ x.toInt) (hN : x.toInt.toNat = N) (hby : N * componentBytes ty ≤ 536870912) (hc : cells + 1 ≤ R.cells) (hs : slots + N ≤ R.slots) (hdg : decode cc pc = .ok (.newarray aty, 2)) (hR : hz_R cl G h n H)
    (kk : ∀ H1, hz_R cl G (hz_set h n (.inl (t, N, fun _ => v0))) (n + 1) H1 → W p l e R s m args below meth c H1 locs (cells + 1) (slots + N) Q (F0 m (pc + 2) ls (.ref (G.2.2.size + n) :: rest))) : W p l e R s m args below meth c H locs cells slots Q (F0 m pc ls (.int x :: rest)) := by
  obtain ⟨b1, b2, b3, b4, b5, b6, b7, b8, b9, b10⟩ := id B
  subst hty
  subst hN
  have hRA := (b8.2.1 t _ ht).2
  rw [hr] at hRA
  refine va_newaK b1 b2 (b6 _ harr) rfl hdg rfl ?_ rfl hby hc hs rfl fun H1 cA e1 z1 o1 hAr hNm => ?_
  · intro q
    rw [Int32.lt_iff_toInt_lt, Int32.toInt_zero] at q
    omega
  have hcA : cA = G.2.1 t := Option.some.inj (hNm.symm.trans hRA)
  subst hcA
  have hsz : H.size = G.2.2.size + n := hR.1
  have hR1 : hz_R cl G (hz_set h n (.inl (t, x.toInt.toNat, fun _ => v0))) (n + 1) H1 := by
    refine hR.push z1 o1 ?_
    show H1[G.2.2.size + n]? = some (arrV (G.2.1 t) x.toInt.toNat (fun _ => hz_v G.2.2.size v0))
    rw [← hsz, e1, hv, hv0]
    rfl
  have g := kk H1 hR1
  rw [hsz]
  exact g
theorem wz_new {idx ci : Nat} {r : vw_C} {ty : Nat → FieldType} {fs : List Value} (B : hz_B tbl AO cl KT G y cc nL ret p s m args meth c) (hc : cl[ci]? = some r) (hin : ∀ w ∈ u_ws r.1 r.2.1 r.2.2, w ∈ hz_T tbl) (hty : ∀ k, k < r.2.2 → parseFieldDescriptor (r.2.1 k).2.2.1 = some (ty k)) (hcl : Cond.classLink y.cls idx r.1 ∈ hz_T tbl) (hins : Cond.instantiable r.1 r.2.2 ∈ hz_T tbl) (hini : Cond.initialized r.1 ∈ hz_T tbl) (hfl : fs.length = r.2.2) (hfs : ∀ j, j < r.2.2 → defaultValue (ty j) = hz_v G.2.2.size (fs.getD j .null)) (h1 : cells + 1 ≤ R.cells) (h2 : slots + r.2.2 ≤ R.slots) (hdg : decode cc pc = .ok (.new idx, 3)) (hR : hz_R cl G h n H)
    (kk : ∀ H1, hz_R cl G (hz_set h n (.inr (ci, fs))) (n + 1) H1 → W p l e R s m args below meth c H1 locs (cells + 1) (slots + r.2.2) Q (F0 m (pc + 3) ls (.ref (G.2.2.size + n) :: rest))) : W p l e R s m args below meth c H locs cells slots Q (F0 m pc ls rest) := by
  obtain ⟨b1, b2, b3, b4, b5, b6, b7, b8, b9, b10⟩ := id B
  have hKn := b8.1 ci r hc
  have hsz : H.size = G.2.2.size + n := hR.1
  refine W.newcK b1 b2 b7 (b6 _ hcl) (b6 _ hins) (b6 _ hini) rfl hdg h1 h2 hKn.2.1 rfl fun H1 kC hkC e1 z1 o1 => ?_
  have hR1 : hz_R cl G (hz_set h n (.inr (ci, fs))) (n + 1) H1 := by
    refine hR.push z1 o1 ⟨r, hc, hfl, ?_⟩
    rw [hsz] at e1
    exact (u_born ty b6 hin hKn hkC e1 hty).to hfs
  have g := kk H1 hR1
  rw [hsz]
  exact g
/-- what is left of the law's start while it runs: its script is as it was -/
theorem wz_S (hR : hz_R cl G h n H) (hl : ∀ q ∈ locs, G.2.2.size ≤ q.base) : va_S (fun q => G.2.2.size ≤ q) G.2.2 H locs :=
  ⟨by rw [hR.1]; exact Nat.le_add_right _ _, fun q h1 _ => hR.2.1 q h1, hl⟩
end LW
