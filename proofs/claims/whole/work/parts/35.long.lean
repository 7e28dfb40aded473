/-! The two methods that have long locals: a second layer, with the locals as a list. Printed by wip/g35.py. -/
def hz_u (G : hz_G) (p : Program) (l : Launch) (e : Env) (R : Room) (s : State) (m : MethodId) (args : Array Value) (below : List Frame) (meth : Method) (c : Code) (nL : Nat) (Q : State → Prop) (n cells slots : Nat) (pc : Nat) (lv : List (Nat × Value)) (st : List Value) (h : hz_H) : Prop :=
  ∀ (H : Heap) (locs : List Loc) (ls : Array Slot), hz_R zCl G h n H → (∀ q ∈ locs, G.2.2.size ≤ q.base) → lv_has ls nL (lv.map fun q => (q.1, hz_v G.2.2.size q.2)) → W p l e R s m args below meth c H locs cells slots Q (F0 m pc ls (st.map (hz_v G.2.2.size)))
section HZU
variable {l : Launch} {G : hz_G} {p : Program} {e : Env} {R : Room} {s : State} {m : MethodId} {args : Array Value} {below : List Frame} {meth : Method} {c : Code} {Q : State → Prop} {n cells slots mc ms pc : Nat} {L : List (Option Value)} {lv lv' : List (Nat × Value)} {st : List Value} {h : hz_H} {post : Option Value → hz_H → Nat → Prop}
variable {y y2 : MethodName} {cc cc2 : ByteArray} {nL nL2 : Nat} {ret ret2 : Option FieldType} {rm2 : Room}
theorem hu_in (hlv : ∀ q ∈ lv, L[q.1]? = some (some q.2)) (kk : hz_u G p l e R s m args below meth c nL Q n cells slots pc lv st h) : hz_g zCl G p l e R s m args below meth c nL Q n cells slots pc L st h :=
  fun H locs ls hR hl hL => kk H locs ls hR hl ⟨hL.2.1, hL.2.2.1, fun q hq => by
    obtain ⟨q', h1, rfl⟩ := List.mem_map.mp hq
    exact (hL.2.2.2 _ _ (hlv q' h1)).2⟩
theorem hu_at (pc0 : Nat) (hp : Nat.beq pc pc0 = true) (k : hz_u G p l e R s m args below meth c nL Q n cells slots pc0 lv st h) : hz_u G p l e R s m args below meth c nL Q n cells slots pc lv st h := by
  have e0 := Nat.eq_of_beq_eq_true hp
  subst e0
  exact k
theorem hu_lload {i k : Nat} {x : Int64} (B : hz_B lw_tbl zAO zCl zKT G y cc nL ret p s m args meth c) (hdg : decode cc pc = .ok (.lload i, 2)) (hk : lv[k]? = some (i, .long x)) (kk : hz_u G p l e R s m args below meth c nL Q n cells slots (pc + 2) lv (.long x :: st) h) : hz_u G p l e R s m args below meth c nL Q n cells slots pc lv st h :=
  fun H locs ls hR hl hL => lv_lload B.1 B.2.1 hdg (lv_at hL k (by rw [List.getElem?_map, hk]; rfl)) (kk H locs ls hR hl hL)
theorem hu_lload_n {i : Fin 4} {k : Nat} {x : Int64} (B : hz_B lw_tbl zAO zCl zKT G y cc nL ret p s m args meth c) (hdg : decode cc pc = .ok (.lload_n i, 1)) (hk : lv[k]? = some ((i : Nat), .long x)) (kk : hz_u G p l e R s m args below meth c nL Q n cells slots (pc + 1) lv (.long x :: st) h) : hz_u G p l e R s m args below meth c nL Q n cells slots pc lv st h :=
  fun H locs ls hR hl hL => lv_lload_n B.1 B.2.1 hdg rfl (lv_at hL k (by rw [List.getElem?_map, hk]; rfl)) (kk H locs ls hR hl hL)
theorem hu_aload_n {i : Fin 4} {k x : Nat} (B : hz_B lw_tbl zAO zCl zKT G y cc nL ret p s m args meth c) (hdg : decode cc pc = .ok (.aload_n i, 1)) (hk : lv[k]? = some ((i : Nat), .ref x)) (kk : hz_u G p l e R s m args below meth c nL Q n cells slots (pc + 1) lv (.ref x :: st) h) : hz_u G p l e R s m args below meth c nL Q n cells slots pc lv st h :=
  fun H locs ls hR hl hL => lv_aload_n B.1 B.2.1 hdg rfl (lv_at hL k (by rw [List.getElem?_map, hk]; rfl)) (kk H locs ls hR hl hL)
theorem hu_iload_n {i : Fin 4} {k : Nat} {x : Int32} (B : hz_B lw_tbl zAO zCl zKT G y cc nL ret p s m args meth c) (hdg : decode cc pc = .ok (.iload_n i, 1)) (hk : lv[k]? = some ((i : Nat), .int x)) (kk : hz_u G p l e R s m args below meth c nL Q n cells slots (pc + 1) lv (.int x :: st) h) : hz_u G p l e R s m args below meth c nL Q n cells slots pc lv st h :=
  fun H locs ls hR hl hL => lv_iload_n B.1 B.2.1 hdg rfl (lv_at hL k (by rw [List.getElem?_map, hk]; rfl)) (kk H locs ls hR hl hL)
theorem hu_bipush {k : Int} (B : hz_B lw_tbl zAO zCl zKT G y cc nL ret p s m args meth c) (hdg : decode cc pc = .ok (.bipush k, 2)) (hk : -128 ≤ k ∧ k ≤ 127) (kk : hz_u G p l e R s m args below meth c nL Q n cells slots (pc + 2) lv (.int (hz_n k) :: st) h) : hz_u G p l e R s m args below meth c nL Q n cells slots pc lv st h :=
  fun H locs ls hR hl hL => lv_bipush B.1 B.2.1 hdg (hz_n8 hk) (kk H locs ls hR hl hL)
theorem hu_lconst {k : Fin 2} (B : hz_B lw_tbl zAO zCl zKT G y cc nL ret p s m args meth c) (hdg : decode cc pc = .ok (.lconst k, 1)) (kk : hz_u G p l e R s m args below meth c nL Q n cells slots (pc + 1) lv (.long (Int64.ofNat k) :: st) h) : hz_u G p l e R s m args below meth c nL Q n cells slots pc lv st h :=
  fun H locs ls hR hl hL => lv_lconst B.1 B.2.1 hdg rfl (kk H locs ls hR hl hL)
theorem hu_ldc2 {i : Nat} {v : Int64} (B : hz_B lw_tbl zAO zCl zKT G y cc nL ret p s m args meth c) (hdg : decode cc pc = .ok (.ldc2_w i, 3)) (hc : Cond.constantLong y.cls i v ∈ hz_T lw_tbl) (kk : hz_u G p l e R s m args below meth c nL Q n cells slots (pc + 3) lv (.long v :: st) h) : hz_u G p l e R s m args below meth c nL Q n cells slots pc lv st h :=
  fun H locs ls hR hl hL => lv_ldc2 B.1 B.2.1 B.2.2.2.2.2.2.1 (B.2.2.2.2.2.1 _ hc) hdg (kk H locs ls hR hl hL)
theorem hu_ladd {x y1 : Int64} (B : hz_B lw_tbl zAO zCl zKT G y cc nL ret p s m args meth c) (hdg : decode cc pc = .ok (.ladd, 1)) (kk : hz_u G p l e R s m args below meth c nL Q n cells slots (pc + 1) lv (.long (x + y1) :: st) h) : hz_u G p l e R s m args below meth c nL Q n cells slots pc lv (.long y1 :: .long x :: st) h :=
  fun H locs ls hR hl hL => lv_ladd B.1 B.2.1 hdg (kk H locs ls hR hl hL)
theorem hu_lmul {x y1 : Int64} (B : hz_B lw_tbl zAO zCl zKT G y cc nL ret p s m args meth c) (hdg : decode cc pc = .ok (.lmul, 1)) (kk : hz_u G p l e R s m args below meth c nL Q n cells slots (pc + 1) lv (.long (x * y1) :: st) h) : hz_u G p l e R s m args below meth c nL Q n cells slots pc lv (.long y1 :: .long x :: st) h :=
  fun H locs ls hR hl hL => lv_lmul B.1 B.2.1 hdg (kk H locs ls hR hl hL)
theorem hu_ldiv {x y1 : Int64} (B : hz_B lw_tbl zAO zCl zKT G y cc nL ret p s m args meth c) (hdg : decode cc pc = .ok (.ldiv, 1)) (hne : ¬ y1 = 0) (kk : hz_u G p l e R s m args below meth c nL Q n cells slots (pc + 1) lv (.long (x / y1) :: st) h) : hz_u G p l e R s m args below meth c nL Q n cells slots pc lv (.long y1 :: .long x :: st) h :=
  fun H locs ls hR hl hL => lv_ldiv B.1 B.2.1 hdg hne (kk H locs ls hR hl hL)
theorem hu_lrem {x y1 : Int64} (B : hz_B lw_tbl zAO zCl zKT G y cc nL ret p s m args meth c) (hdg : decode cc pc = .ok (.lrem, 1)) (hne : ¬ y1 = 0) (kk : hz_u G p l e R s m args below meth c nL Q n cells slots (pc + 1) lv (.long (x - x / y1 * y1) :: st) h) : hz_u G p l e R s m args below meth c nL Q n cells slots pc lv (.long y1 :: .long x :: st) h :=
  fun H locs ls hR hl hL => lv_lrem B.1 B.2.1 hdg hne (kk H locs ls hR hl hL)
theorem hu_lneg {x : Int64} (B : hz_B lw_tbl zAO zCl zKT G y cc nL ret p s m args meth c) (hdg : decode cc pc = .ok (.lneg, 1)) (kk : hz_u G p l e R s m args below meth c nL Q n cells slots (pc + 1) lv (.long (-x) :: st) h) : hz_u G p l e R s m args below meth c nL Q n cells slots pc lv (.long x :: st) h :=
  fun H locs ls hR hl hL => lv_lneg B.1 B.2.1 hdg (kk H locs ls hR hl hL)
theorem hu_i2l {x : Int32} (B : hz_B lw_tbl zAO zCl zKT G y cc nL ret p s m args meth c) (hdg : decode cc pc = .ok (.i2l, 1)) (kk : hz_u G p l e R s m args below meth c nL Q n cells slots (pc + 1) lv (.long x.toInt64 :: st) h) : hz_u G p l e R s m args below meth c nL Q n cells slots pc lv (.int x :: st) h :=
  fun H locs ls hR hl hL => lv_i2l B.1 B.2.1 hdg rfl (kk H locs ls hR hl hL)
theorem hu_l2i {x : Int64} (B : hz_B lw_tbl zAO zCl zKT G y cc nL ret p s m args meth c) (hdg : decode cc pc = .ok (.l2i, 1)) (kk : hz_u G p l e R s m args below meth c nL Q n cells slots (pc + 1) lv (.int x.toInt32 :: st) h) : hz_u G p l e R s m args below meth c nL Q n cells slots pc lv (.long x :: st) h :=
  fun H locs ls hR hl hL => lv_l2i B.1 B.2.1 hdg rfl (kk H locs ls hR hl hL)
theorem hu_i2c {x : Int32} (B : hz_B lw_tbl zAO zCl zKT G y cc nL ret p s m args meth c) (hdg : decode cc pc = .ok (.i2c, 1)) (kk : hz_u G p l e R s m args below meth c nL Q n cells slots (pc + 1) lv (.int (hz_ch x) :: st) h) : hz_u G p l e R s m args below meth c nL Q n cells slots pc lv (.int x :: st) h :=
  fun H locs ls hR hl hL => lv_i2c B.1 B.2.1 hdg rfl (kk H locs ls hR hl hL)
theorem hu_iadd {x y1 : Int32} (B : hz_B lw_tbl zAO zCl zKT G y cc nL ret p s m args meth c) (hdg : decode cc pc = .ok (.iadd, 1)) (kk : hz_u G p l e R s m args below meth c nL Q n cells slots (pc + 1) lv (.int (x + y1) :: st) h) : hz_u G p l e R s m args below meth c nL Q n cells slots pc lv (.int y1 :: .int x :: st) h :=
  fun H locs ls hR hl hL => lv_iadd B.1 B.2.1 hdg (kk H locs ls hR hl hL)
theorem hu_pop {x : Int32} (B : hz_B lw_tbl zAO zCl zKT G y cc nL ret p s m args meth c) (hdg : decode cc pc = .ok (.pop, 1)) (kk : hz_u G p l e R s m args below meth c nL Q n cells slots (pc + 1) lv st h) : hz_u G p l e R s m args below meth c nL Q n cells slots pc lv (.int x :: st) h :=
  fun H locs ls hR hl hL => lv_pop B.1 B.2.1 hdg rfl (kk H locs ls hR hl hL)
theorem hu_lcmp {x y1 : Int64} (B : hz_B lw_tbl zAO zCl zKT G y cc nL ret p s m args meth c) (hdg : decode cc pc = .ok (.lcmp, 1)) (kk : hz_u G p l e R s m args below meth c nL Q n cells slots (pc + 1) lv (.int (lg_cmp x y1) :: st) h) : hz_u G p l e R s m args below meth c nL Q n cells slots pc lv (.long y1 :: .long x :: st) h :=
  fun H locs ls hR hl hL => W.lcmp B.1 B.2.1 hdg (kk H locs ls hR hl hL)
theorem hu_goto {off : Int} {t : Nat} (B : hz_B lw_tbl zAO zCl zKT G y cc nL ret p s m args meth c) (hdg : decode cc pc = .ok (.goto off, 3)) (ht : (pc : Int) + off = (t : Int)) (kk : hz_u G p l e R s m args below meth c nL Q n cells slots t lv st h) : hz_u G p l e R s m args below meth c nL Q n cells slots pc lv st h :=
  fun H locs ls hR hl hL => lv_goto B.1 B.2.1 hdg ht (kk H locs ls hR hl hL)
theorem hu_if_ge {off : Int} {t : Nat} {x y1 : Int64} (B : hz_B lw_tbl zAO zCl zKT G y cc nL ret p s m args meth c) (hdg : decode cc pc = .ok (.ifCond .ge off, 3)) (ht : (pc : Int) + off = (t : Int)) (kt : y1 ≤ x → hz_u G p l e R s m args below meth c nL Q n cells slots t lv st h) (kf : ¬ y1 ≤ x → hz_u G p l e R s m args below meth c nL Q n cells slots (pc + 3) lv st h) : hz_u G p l e R s m args below meth c nL Q n cells slots pc lv (.int (lg_cmp x y1) :: st) h :=
  fun H locs ls hR hl hL => lv_if_ge B.1 B.2.1 hdg ht (fun q => kt ((lg_cmp_ge _ _).mp q) H locs ls hR hl hL) (fun q => kf (fun z => q ((lg_cmp_ge _ _).mpr z)) H locs ls hR hl hL)
theorem hu_if_gt {off : Int} {t : Nat} {x y1 : Int64} (B : hz_B lw_tbl zAO zCl zKT G y cc nL ret p s m args meth c) (hdg : decode cc pc = .ok (.ifCond .gt off, 3)) (ht : (pc : Int) + off = (t : Int)) (kt : y1 < x → hz_u G p l e R s m args below meth c nL Q n cells slots t lv st h) (kf : ¬ y1 < x → hz_u G p l e R s m args below meth c nL Q n cells slots (pc + 3) lv st h) : hz_u G p l e R s m args below meth c nL Q n cells slots pc lv (.int (lg_cmp x y1) :: st) h :=
  fun H locs ls hR hl hL => lv_if_gt B.1 B.2.1 hdg ht (fun q => kt ((lg_cmp_gt _ _).mp q) H locs ls hR hl hL) (fun q => kf (fun z => q ((lg_cmp_gt _ _).mpr z)) H locs ls hR hl hL)
theorem hu_if_le {off : Int} {t : Nat} {x y1 : Int64} (B : hz_B lw_tbl zAO zCl zKT G y cc nL ret p s m args meth c) (hdg : decode cc pc = .ok (.ifCond .le off, 3)) (ht : (pc : Int) + off = (t : Int)) (kt : x ≤ y1 → hz_u G p l e R s m args below meth c nL Q n cells slots t lv st h) (kf : ¬ x ≤ y1 → hz_u G p l e R s m args below meth c nL Q n cells slots (pc + 3) lv st h) : hz_u G p l e R s m args below meth c nL Q n cells slots pc lv (.int (lg_cmp x y1) :: st) h :=
  fun H locs ls hR hl hL => lv_if_le B.1 B.2.1 hdg ht (fun q => kt ((lg_cmp_le _ _).mp q) H locs ls hR hl hL) (fun q => kf (fun z => q ((lg_cmp_le _ _).mpr z)) H locs ls hR hl hL)
theorem hu_lstore {i : Nat} {x : Int64} (B : hz_B lw_tbl zAO zCl zKT G y cc nL ret p s m args meth c) (hdg : decode cc pc = .ok (.lstore i, 2)) (hn : i + 1 < nL) (hf : ∀ b : Nat, ((i, Value.long x) :: (lv.map fun q => (q.1, hz_v b q.2)).filter (fun q => !(q.1 == i) && (!(q.1 == i + 1) && !(q.1 + 1 == i && q.2.category == 2)))) = lv'.map fun q => (q.1, hz_v b q.2)) (kk : hz_u G p l e R s m args below meth c nL Q n cells slots (pc + 2) lv' st h) : hz_u G p l e R s m args below meth c nL Q n cells slots pc lv (.long x :: st) h :=
  fun H locs ls hR hl hL => lv_lstore B.1 B.2.1 hdg hL hn (hf _) fun ls' h' => kk H locs ls' hR hl h'
theorem hu_lstore_n {k : Fin 4} {i : Nat} {x : Int64} (B : hz_B lw_tbl zAO zCl zKT G y cc nL ret p s m args meth c) (hdg : decode cc pc = .ok (.lstore_n k, 1)) (hi : (k : Nat) = i) (hn : i + 1 < nL) (hf : ∀ b : Nat, ((i, Value.long x) :: (lv.map fun q => (q.1, hz_v b q.2)).filter (fun q => !(q.1 == i) && (!(q.1 == i + 1) && !(q.1 + 1 == i && q.2.category == 2)))) = lv'.map fun q => (q.1, hz_v b q.2)) (kk : hz_u G p l e R s m args below meth c nL Q n cells slots (pc + 1) lv' st h) : hz_u G p l e R s m args below meth c nL Q n cells slots pc lv (.long x :: st) h :=
  fun H locs ls hR hl hL => lv_lstore_n B.1 B.2.1 hdg hi hL hn (hf _) fun ls' h' => kk H locs ls' hR hl h'
theorem hu_vret (B : hz_B lw_tbl zAO zCl zKT G y cc nL none p s m args meth c) (hp : post none h n) (h1 : cells ≤ mc) (h2 : slots ≤ ms) (hdg : decode cc pc = .ok (.return_, 1)) :
    hz_u G p l e R s m args below meth c nL (MQ below (hz_Q zCl G post) args s mc ms (fun q => G.2.2.size ≤ q)) n cells slots pc lv [] h := by
  intro H locs ls hR hl hL
  refine W.widen h1 h2 ?_
  exact W.vret B.1 B.2.1 B.2.2.2.1 (fun t ht _ => ⟨none, h, n, rfl, hp, by rw [ht]; exact hR⟩) hl hdg B.2.2.2.2.1
theorem hu_ran {H : Heap} {locs : List Loc} {ls : Array Slot} {a : Array Value} {rest : List Value} {st0 : List Value} (run : va_Run p l e R s m args below meth c H locs cells slots mc ms (F0 m pc ls st0) (rest.map (hz_v G.2.2.size)) (hz_Q zCl G post a) (fun q => G.2.2.size ≤ q)) (hl : ∀ q ∈ locs, G.2.2.size ≤ q.base) (hL : lv_has ls nL (lv.map fun q => (q.1, hz_v G.2.2.size q.2)))
    (kk : ∀ (r : Option Value) (h' : hz_H) (n' : Nat), post r h' n' → hz_u G p l e R s m args below meth c nL Q n' (cells + mc) (slots + ms) (pc + 3) lv (r.toList ++ rest) h') : W p l e R s m args below meth c H locs cells slots Q (F0 m pc ls st0) := by
  intro T hT X
  obtain ⟨v, st₀, t, T', L', h0, X', hL', e1, e2, ⟨r, h', n', hr, hp, hR'⟩, st⟩ := run T hT X
  cases hr
  have hl2 : ∀ q ∈ locs ++ L', G.2.2.size ≤ q.base := fun q hq => (List.mem_append.mp hq).elim (hl q) (hL' q)
  have g := kk r h' n' hp T'.heap (locs ++ L') ls (by rw [e1]; exact hR') hl2 hL
  obtain ⟨t2, a1, b1⟩ := g T' rfl X'
  refine ⟨t2, st t2 ?_, b1⟩
  cases r <;> exact a1
theorem hu_callV {own : String} {idx k i ci : Nat} {fs : List Value} {r : vw_C} {as2 rest : List Value} (B : hz_B lw_tbl zAO zCl zKT G y cc nL ret p s m args meth c) (hown : y.cls = own) (cb : hz_cB lw_tbl own idx y2 cc2 nL2 ret2 k) (hin : Cond.instanceMethod y2 ∈ hz_T lw_tbl) (hse : Cond.selects r.1 y2 y2 ∈ hz_T lw_tbl)
    (hM : hz_M lw_tbl zAO zCl zKT l y2 cc2 nL2 ret2 rm2 G (.ref i :: as2) h n post) (hR : rm2.frames + 1 ≤ R.frames ∧ 8 + (nL2 + 11) + rm2.locals ≤ R.locals) (hf : cells + rm2.cells ≤ R.cells ∧ slots + rm2.slots ≤ R.slots) (hi : h i = some (.inr (ci, fs))) (hc : zCl[ci]? = some r) (hk : as2.length = k) (hW : (rest.map fun v => v.category).sum ≤ 8) (hst : st = as2.reverse ++ .ref i :: rest) (hdg : decode cc pc = .ok (.invokevirtual idx, 3))
    (kk : ∀ (r : Option Value) (h' : hz_H) (n' : Nat), post r h' n' → hz_u G p l e R s m args below meth c nL Q n' (cells + rm2.cells) (slots + rm2.slots) (pc + 3) lv (r.toList ++ rest) h') : hz_u G p l e R s m args below meth c nL Q n cells slots pc lv st h := by
  intro H locs ls hRR hl hL
  obtain ⟨b1, b2, b3, b4, b5, b6, b7, b8, b9, b10⟩ := id B
  obtain ⟨c1, c2, c3, c4⟩ := cb
  subst hown
  subst hst
  have S : CallFix p m c cc nL s args (hz_T lw_tbl) y.cls := ⟨b1, b2, b3, b7, b6⟩
  have cw : CallW R s args y.cls r.1 idx y2 cc2 nL2 ret2 (Cond.code y2 cc2 nL2 ret2 :: hz_T lw_tbl) rm2 rm2.cells rm2.slots k :=
    ⟨callB_of k b6 (hz_goodIn c3) rfl rfl rfl (b6 _ c2) (b6 _ c1) c4 hR, b6 _ hin, b6 _ hse⟩
  refine hu_ran (va_runV (As := as2.map (hz_v G.2.2.size)) S hM cw ⟨hz_P.blind, hz_recv b8 hRR hi hc, ?_⟩ rfl (by rw [List.length_map]; exact hk) hL.1 ?_ ?_ hdg hf) hl hL kk
  · exact hz_pre (as := .ref i :: as2) B hRR
  · simp [List.map_append, List.map_reverse, hz_v]
  · simp only [List.map_map]
    rw [show ((fun v : Value => v.category) ∘ hz_v G.2.2.size) = fun v => v.category from funext fun v => hz_v_cat _ v]
    show 2 * 0 + (rest.map fun v => v.category).sum ≤ 8
    omega
theorem hu_put {own : String} {idx k i ci d d2 : Nat} {fs : List Value} {r : vw_C} {as2 rest : List Value} {r0 : Option Value} {h1 : hz_H} (B : hz_B lw_tbl zAO zCl zKT G y cc nL ret p s m args meth c) (hown : y.cls = own) (cb : hz_cB lw_tbl own idx y2 cc2 nL2 ret2 k) (hin : Cond.instanceMethod y2 ∈ hz_T lw_tbl) (hse : Cond.selects r.1 y2 y2 ∈ hz_T lw_tbl)
    (hM : hz_M lw_tbl zAO zCl zKT l y2 cc2 nL2 ret2 (zR d2) G (.ref i :: as2) h n (fun r h' n' => r = r0 ∧ h' = h1 ∧ n' = n)) (hd : d2 + 1 ≤ d) (hn : nL2 ≤ 21) (hi : h i = some (.inr (ci, fs))) (hc : zCl[ci]? = some r) (hk : as2.length = k) (hW : (rest.map fun v => v.category).sum ≤ 8) (hst : st = as2.reverse ++ .ref i :: rest) (hdg : decode cc pc = .ok (.invokevirtual idx, 3))
    (kk : hz_u G p l e (zR d) s m args below meth c nL Q n 0 0 (pc + 3) lv (r0.toList ++ rest) h1) : hz_u G p l e (zR d) s m args below meth c nL Q n 0 0 pc lv st h :=
  hu_callV B hown cb hin hse hM (zroom hd hn) ⟨Nat.le_refl _, Nat.le_refl _⟩ hi hc hk hW hst hdg (by
    rintro r h' n' ⟨rfl, rfl, rfl⟩
    exact kk)
end HZU
