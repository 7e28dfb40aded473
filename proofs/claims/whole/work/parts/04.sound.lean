/-! The condition is enough. -/
theorem hz_i1_of {st : List Value} {K : Int32 → List Value → Prop} (h : hz_i1 st K) : ∃ x r, st = .int x :: r ∧ K x r := by
  unfold hz_i1 at h
  split at h
  · exact ⟨_, _, rfl, h⟩
  · exact h.elim
theorem hz_i2_of {st : List Value} {K : Int32 → Int32 → List Value → Prop} (h : hz_i2 st K) : ∃ x y r, st = .int y :: .int x :: r ∧ K x y r := by
  unfold hz_i2 at h
  split at h
  · exact ⟨_, _, _, rfl, h⟩
  · exact h.elim
theorem hz_l1_of {st : List Value} {K : Int64 → List Value → Prop} (h : hz_l1 st K) : ∃ x r, st = .long x :: r ∧ K x r := by
  unfold hz_l1 at h
  split at h
  · exact ⟨_, _, rfl, h⟩
  · exact h.elim
theorem hz_l2_of {st : List Value} {K : Int64 → Int64 → List Value → Prop} (h : hz_l2 st K) : ∃ x y r, st = .long y :: .long x :: r ∧ K x y r := by
  unfold hz_l2 at h
  split at h
  · exact ⟨_, _, _, rfl, h⟩
  · exact h.elim
theorem hz_ldi_of {L : List (Option Value)} {i : Nat} {K : Value → Prop} (h : hz_ldi L i K) : ∃ x, L[i]? = some (some (.int x)) ∧ K (.int x) := by
  unfold hz_ldi at h
  split at h
  · exact ⟨_, by assumption, h⟩
  · exact h.elim
theorem hz_lda_of {L : List (Option Value)} {i : Nat} {K : Value → Prop} (h : hz_lda L i K) : (∃ x, L[i]? = some (some (.ref x)) ∧ K (.ref x)) ∨ (L[i]? = some (some .null) ∧ K .null) := by
  unfold hz_lda at h
  split at h
  · exact Or.inl ⟨_, by assumption, h⟩
  · exact Or.inr ⟨by assumption, h⟩
  · exact h.elim
theorem hz_blt {i n : Nat} (h : Nat.blt i n = true) : i < n := Nat.le_of_ble_eq_true h
theorem hz_sti_of {L : List (Option Value)} {st : List Value} {i : Nat} {K : List (Option Value) → List Value → Prop} (h : hz_sti L st i K) : ∃ x r, st = .int x :: r ∧ i < L.length ∧ K (L.set i (some (.int x))) r := by
  unfold hz_sti at h
  split at h
  · obtain ⟨h1, h2⟩ := hz_t_of h
    exact ⟨_, _, rfl, hz_blt h1, h2⟩
  · exact h.elim
theorem hz_sta_of {L : List (Option Value)} {st : List Value} {i : Nat} {K : List (Option Value) → List Value → Prop} (h : hz_sta L st i K) : (∃ x r, st = .ref x :: r ∧ i < L.length ∧ K (L.set i (some (.ref x))) r) ∨ ∃ r, st = .null :: r ∧ i < L.length ∧ K (L.set i (some .null)) r := by
  unfold hz_sta at h
  split at h
  · obtain ⟨h1, h2⟩ := hz_t_of h
    exact Or.inl ⟨_, _, rfl, hz_blt h1, h2⟩
  · obtain ⟨h1, h2⟩ := hz_t_of h
    exact Or.inr ⟨_, rfl, hz_blt h1, h2⟩
  · exact h.elim
theorem hz_ea_of {KT : List FieldType} {ok : FieldType → Bool} {h : hz_H} {i : Nat} {x : Int32} {K : Value → Prop} (w : hz_ea KT ok h i x K) : ∃ t len f ty, h i = some (.inl (t, len, f)) ∧ KT[t]? = some ty ∧ ok ty = true ∧ (0 ≤ x.toInt ∧ x.toInt.toNat < len) ∧ K (f x.toInt.toNat) := by
  unfold hz_ea at w
  split at w
  · split at w
    · obtain ⟨w1, w2, w3⟩ := hz_t_of w
      exact ⟨_, _, _, _, by assumption, by assumption, w1, w2, w3⟩
    · exact w.elim
  · exact w.elim
theorem hz_es_of {KT : List FieldType} {ok : FieldType → Bool} {h : hz_H} {i : Nat} {x : Int32} {v : Value} {K : hz_H → Prop} (w : hz_es KT ok h i x v K) : ∃ t len f ty, h i = some (.inl (t, len, f)) ∧ KT[t]? = some ty ∧ ok ty = true ∧ (0 ≤ x.toInt ∧ x.toInt.toNat < len) ∧ K (hz_set h i (.inl (t, len, updV f x.toInt.toNat v))) := by
  unfold hz_es at w
  split at w
  · split at w
    · obtain ⟨w1, w2, w3⟩ := hz_t_of w
      exact ⟨_, _, _, _, by assumption, by assumption, w1, w2, w3⟩
    · exact w.elim
  · exact w.elim
theorem hz_al_of {KT : List FieldType} {h : hz_H} {i : Nat} {K : Value → Prop} (w : hz_al KT h i K) : ∃ t len f ty, h i = some (.inl (t, len, f)) ∧ KT[t]? = some ty ∧ K (.int (hz_n (len : Nat))) := by
  unfold hz_al at w
  split at w
  · split at w
    · exact ⟨_, _, _, _, by assumption, by assumption, w⟩
    · exact w.elim
  · exact w.elim
theorem hz_rd_of {h : hz_H} {i ci k : Nat} {K : Value → Prop} (w : hz_rd h i ci k K) : ∃ fs v, h i = some (.inr (ci, fs)) ∧ fs[k]? = some v ∧ K v := by
  unfold hz_rd at w
  split at w
  · obtain ⟨w1, w2⟩ := hz_t_of w
    have e := Nat.eq_of_beq_eq_true w1
    subst e
    split at w2
    · exact ⟨_, _, by assumption, by assumption, w2⟩
    · exact w2.elim
  · exact w.elim
theorem hz_wr_of {h : hz_H} {i ci k : Nat} {v : Value} {K : hz_H → Prop} (w : hz_wr h i ci k v K) : ∃ fs, h i = some (.inr (ci, fs)) ∧ k < fs.length ∧ K (hz_set h i (.inr (ci, fs.set k v))) := by
  unfold hz_wr at w
  split at w
  · obtain ⟨w1, w2⟩ := hz_t_of w
    simp only [Bool.and_eq_true] at w1
    have e := Nat.eq_of_beq_eq_true w1.1
    subst e
    exact ⟨_, by assumption, hz_blt w1.2, w2⟩
  · exact w.elim
theorem hz_okf_of {ty : FieldType} {v : Value} {K : Prop} (w : hz_okf ty v K) : (narrow ty v = v ∧ fits ty v = true) ∧ K := by
  unfold hz_okf at w
  split at w <;> first | exact ⟨⟨rfl, rfl⟩, w⟩ | exact w
theorem hz_n_nat (n : Nat) : Int32.ofNat n = hz_n n := by
  unfold hz_n
  first | rfl | simp | exact (Int32.ofInt_eq_ofNat).symm
def hz_FT (G : hz_G) (s : State) (m : MethodId) (args : Array Value) (meth : Method) (fld : Nat → Option (Nat × Nat × FieldType × Bool)) : Prop := ∀ (idx ci k : Nat) (ty : FieldType) (wr : Bool), fld idx = some (ci, k, ty, wr) → hz_F G s m args meth idx ci k ty wr
def hz_CN (s : State) (m : MethodId) (args : Array Value) (cn : Nat → Option Int32) : Prop := ∀ (idx : Nat) (v : Int32), cn idx = some v → ∃ own, s.vm.findClass own = some m.cls ∧ (Jvm.Cond.constant own idx v).before args s = true
/-- the machine at a frame over such a world comes to its end -/
def hz_g (cl : List vw_C) (G : hz_G) (p : Program) (l : Launch) (e : Env) (R : Room) (s : State) (m : MethodId) (args : Array Value) (below : List Frame) (meth : Method) (c : Code) (nL : Nat) (Q : State → Prop) (n cells slots : Nat) (pc : Nat) (L : List (Option Value)) (st : List Value) (h : hz_H) : Prop :=
  ∀ (H : Heap) (locs : List Loc) (ls : Array Slot), hz_R cl G h n H → (∀ q ∈ locs, G.2.2.size ≤ q.base) → hz_lo G.2.2.size ls nL L → W p l e R s m args below meth c H locs cells slots Q (F0 m pc ls (st.map (hz_v G.2.2.size)))
section HZC
variable {x y : Int32}
theorem hz_br_if_eq_i : (x = (0 : Int32)) ↔ hz_c .eq x.toInt 0 := by
  have q : (x = (0 : Int32)) ↔ (x.toInt = (0 : Int32).toInt) := Int32.toInt_inj.symm
  exact q
theorem hz_br_if_ne_i : (¬ x = (0 : Int32)) ↔ hz_c .ne x.toInt 0 := by
  have q : (¬ x = (0 : Int32)) ↔ (¬ x.toInt = (0 : Int32).toInt) := not_congr Int32.toInt_inj.symm
  exact q
theorem hz_br_if_lt_i : (x < (0 : Int32)) ↔ hz_c .lt x.toInt 0 := by
  have q : (x < (0 : Int32)) ↔ (x.toInt < (0 : Int32).toInt) := Int32.lt_iff_toInt_lt
  exact q
theorem hz_br_if_ge_i : ((0 : Int32) ≤ x) ↔ hz_c .ge x.toInt 0 := by
  have q : ((0 : Int32) ≤ x) ↔ ((0 : Int32).toInt ≤ x.toInt) := Int32.le_iff_toInt_le
  exact q
theorem hz_br_if_gt_i : ((0 : Int32) < x) ↔ hz_c .gt x.toInt 0 := by
  have q : ((0 : Int32) < x) ↔ ((0 : Int32).toInt < x.toInt) := Int32.lt_iff_toInt_lt
  exact q
theorem hz_br_if_le_i : (x ≤ (0 : Int32)) ↔ hz_c .le x.toInt 0 := by
  have q : (x ≤ (0 : Int32)) ↔ (x.toInt ≤ (0 : Int32).toInt) := Int32.le_iff_toInt_le
  exact q
theorem hz_br_icmp_eq_i : (x = y) ↔ hz_c .eq x.toInt y.toInt := by
  have q : (x = y) ↔ (x.toInt = y.toInt) := Int32.toInt_inj.symm
  exact q
theorem hz_br_icmp_ne_i : (¬ x = y) ↔ hz_c .ne x.toInt y.toInt := by
  have q : (¬ x = y) ↔ (¬ x.toInt = y.toInt) := not_congr Int32.toInt_inj.symm
  exact q
theorem hz_br_icmp_lt_i : (x < y) ↔ hz_c .lt x.toInt y.toInt := by
  have q : (x < y) ↔ (x.toInt < y.toInt) := Int32.lt_iff_toInt_lt
  exact q
theorem hz_br_icmp_ge_i : (y ≤ x) ↔ hz_c .ge x.toInt y.toInt := by
  have q : (y ≤ x) ↔ (y.toInt ≤ x.toInt) := Int32.le_iff_toInt_le
  exact q
theorem hz_br_icmp_gt_i : (y < x) ↔ hz_c .gt x.toInt y.toInt := by
  have q : (y < x) ↔ (y.toInt < x.toInt) := Int32.lt_iff_toInt_lt
  exact q
theorem hz_br_icmp_le_i : (x ≤ y) ↔ hz_c .le x.toInt y.toInt := by
  have q : (x ≤ y) ↔ (x.toInt ≤ y.toInt) := Int32.le_iff_toInt_le
  exact q
end HZC
section HZB
variable {p : Program} {l : Launch} {e : Env} {R : Room} {s : State} {m : MethodId} {args : Array Value} {below : List Frame} {meth : Method} {c : Code} {cells slots : Nat} {Q : State → Prop}
variable {cl : List vw_C} {KT : List FieldType} {G : hz_G} {n nL : Nat} {cc : ByteArray} {fld : Nat → Option (Nat × Nat × FieldType × Bool)} {cn : Nat → Option Int32}
theorem hz_kI_of {ty : FieldType} (h : hz_kI ty = true) : ty = .int := by cases ty <;> first | rfl | cases h
theorem hz_kC_of {ty : FieldType} (h : hz_kC ty = true) : ty = .char := by cases ty <;> first | rfl | cases h
theorem hz_kZ_of {ty : FieldType} (h : hz_kZ ty = true) : ty = .boolean := by cases ty <;> first | rfl | cases h
theorem hz_kJ_of {ty : FieldType} (h : hz_kJ ty = true) : ty = .long := by cases ty <;> first | rfl | cases h
theorem hz_kA_of {ty : FieldType} (h : hz_kA ty = true) : ∃ C, ty = .object C := by cases ty <;> first | exact ⟨_, rfl⟩ | cases h
set_option maxHeartbeats 4000000 in
set_option maxRecDepth 100000 in
theorem hz_s_ok (hexec : p.tables.exec = Jvm.exec) (hb : c.code = cc) (hK : hz_K cl KT G s) (hFT : hz_FT G s m args meth fld) (hCN : hz_CN s m args cn) {ins : Instr} {len pc : Nat} (hdg : decode cc pc = .ok (ins, len)) {L : List (Option Value)} {st : List Value} {h : hz_H} {K S : Nat → List (Option Value) → List Value → hz_H → Prop}
    (hKK : ∀ pc' L' st' h', K pc' L' st' h' → hz_w1 ins len = true ∧ hz_g cl G p l e R s m args below meth c nL Q n cells slots pc' L' st' h') (hSS : S pc L st h → hz_g cl G p l e R s m args below meth c nL Q n cells slots pc L st h) (hw : hz_s cl KT fld cn ins pc L st h K S) : hz_g cl G p l e R s m args below meth c nL Q n cells slots pc L st h := by
  cases ins with
  | iconst k =>
    unfold hz_s at hw
    dsimp only at hw
    obtain ⟨hlen, hg⟩ := hKK _ _ _ _ hw
    have hlen : len = 1 := Nat.eq_of_beq_eq_true hlen
    subst hlen
    exact fun H locs ls hR hl hL => lv_iconst hexec hb hdg rfl (hg H locs ls hR hl hL)
  | bipush k =>
    unfold hz_s at hw
    dsimp only at hw
    obtain ⟨hk, hw⟩ := hz_t_of hw
    obtain ⟨hlen, hg⟩ := hKK _ _ _ _ hw
    have hlen : len = 2 := Nat.eq_of_beq_eq_true hlen
    subst hlen
    exact fun H locs ls hR hl hL => lv_bipush hexec hb hdg (hz_n8 (of_decide_eq_true hk)) (hg H locs ls hR hl hL)
  | sipush k =>
    unfold hz_s at hw
    dsimp only at hw
    obtain ⟨hk, hw⟩ := hz_t_of hw
    obtain ⟨hlen, hg⟩ := hKK _ _ _ _ hw
    have hlen : len = 3 := Nat.eq_of_beq_eq_true hlen
    subst hlen
    exact fun H locs ls hR hl hL => lv_sipush hexec hb hdg (hz_n16 (of_decide_eq_true hk)) (hg H locs ls hR hl hL)
  | lconst k =>
    unfold hz_s at hw
    dsimp only at hw
    obtain ⟨hlen, hg⟩ := hKK _ _ _ _ hw
    have hlen : len = 1 := Nat.eq_of_beq_eq_true hlen
    subst hlen
    exact fun H locs ls hR hl hL => lv_lconst hexec hb hdg rfl (hg H locs ls hR hl hL)
  | aconst_null =>
    unfold hz_s at hw
    dsimp only at hw
    obtain ⟨hlen, hg⟩ := hKK _ _ _ _ hw
    have hlen : len = 1 := Nat.eq_of_beq_eq_true hlen
    subst hlen
    exact fun H locs ls hR hl hL => lv_null hexec hb hdg (hg H locs ls hR hl hL)
  | ldc i =>
    unfold hz_s at hw
    dsimp only at hw
    split at hw
    · rename_i v hv
      obtain ⟨hlen, hg⟩ := hKK _ _ _ _ hw
      have hlen : len = 2 := Nat.eq_of_beq_eq_true hlen
      subst hlen
      obtain ⟨own, hown, hc⟩ := hCN i _ hv
      exact fun H locs ls hR hl hL => lv_ldc hexec hb hown hc hdg (hg H locs ls hR hl hL)
    · exact hSS hw
  | iload_n i =>
    unfold hz_s at hw
    dsimp only at hw
    obtain ⟨x, hx, hw⟩ := hz_ldi_of hw
    obtain ⟨hlen, hg⟩ := hKK _ _ _ _ hw
    have hlen : len = 1 := Nat.eq_of_beq_eq_true hlen
    subst hlen
    exact fun H locs ls hR hl hL => lv_iload_n hexec hb hdg rfl (hL.2.2.2 _ _ hx).2 (hg H locs ls hR hl hL)
  | iload i =>
    unfold hz_s at hw
    dsimp only at hw
    obtain ⟨x, hx, hw⟩ := hz_ldi_of hw
    obtain ⟨hlen, hg⟩ := hKK _ _ _ _ hw
    have hlen : len = 2 := Nat.eq_of_beq_eq_true hlen
    subst hlen
    exact fun H locs ls hR hl hL => lv_iload hexec hb hdg (hL.2.2.2 _ _ hx).2 (hg H locs ls hR hl hL)
  | aload_n i =>
    unfold hz_s at hw
    dsimp only at hw
    rcases hz_lda_of hw with ⟨x, hx, hw⟩ | ⟨hx, hw⟩
    · obtain ⟨hlen, hg⟩ := hKK _ _ _ _ hw
      have hlen : len = 1 := Nat.eq_of_beq_eq_true hlen
      subst hlen
      exact fun H locs ls hR hl hL => lv_aload_n hexec hb hdg rfl (hL.2.2.2 _ _ hx).2 (hg H locs ls hR hl hL)
    · obtain ⟨hlen, hg⟩ := hKK _ _ _ _ hw
      have hlen : len = 1 := Nat.eq_of_beq_eq_true hlen
      subst hlen
      exact fun H locs ls hR hl hL => lv_aload_nN hexec hb hdg rfl (hL.2.2.2 _ _ hx).2 (hg H locs ls hR hl hL)
  | aload i =>
    unfold hz_s at hw
    dsimp only at hw
    rcases hz_lda_of hw with ⟨x, hx, hw⟩ | ⟨hx, hw⟩
    · obtain ⟨hlen, hg⟩ := hKK _ _ _ _ hw
      have hlen : len = 2 := Nat.eq_of_beq_eq_true hlen
      subst hlen
      exact fun H locs ls hR hl hL => lv_aload hexec hb hdg (hL.2.2.2 _ _ hx).2 (hg H locs ls hR hl hL)
    · obtain ⟨hlen, hg⟩ := hKK _ _ _ _ hw
      have hlen : len = 2 := Nat.eq_of_beq_eq_true hlen
      subst hlen
      exact fun H locs ls hR hl hL => lv_aloadN hexec hb hdg (hL.2.2.2 _ _ hx).2 (hg H locs ls hR hl hL)
  | istore_n i =>
    unfold hz_s at hw
    dsimp only at hw
    obtain ⟨x, r, rfl, hi, hw⟩ := hz_sti_of hw
    obtain ⟨hlen, hg⟩ := hKK _ _ _ _ hw
    have hlen : len = 1 := Nat.eq_of_beq_eq_true hlen
    subst hlen
    exact fun H locs ls hR hl hL => lv_istore_n hexec hb hdg rfl hL.has (by rw [← hL.1]; exact hi) rfl fun ls' h' => hg H locs ls' hR hl (hL.st1 (v := .int x) (by rw [← hL.1]; exact hi) rfl h')
  | istore i =>
    unfold hz_s at hw
    dsimp only at hw
    obtain ⟨x, r, rfl, hi, hw⟩ := hz_sti_of hw
    obtain ⟨hlen, hg⟩ := hKK _ _ _ _ hw
    have hlen : len = 2 := Nat.eq_of_beq_eq_true hlen
    subst hlen
    exact fun H locs ls hR hl hL => lv_istore hexec hb hdg hL.has (by rw [← hL.1]; exact hi) rfl fun ls' h' => hg H locs ls' hR hl (hL.st1 (v := .int x) (by rw [← hL.1]; exact hi) rfl h')
  | astore_n i =>
    unfold hz_s at hw
    dsimp only at hw
    rcases hz_sta_of hw with ⟨x, r, rfl, hi, hw⟩ | ⟨r, rfl, hi, hw⟩
    · obtain ⟨hlen, hg⟩ := hKK _ _ _ _ hw
      have hlen : len = 1 := Nat.eq_of_beq_eq_true hlen
      subst hlen
      exact fun H locs ls hR hl hL => lv_astore_n hexec hb hdg rfl hL.has (by rw [← hL.1]; exact hi) rfl fun ls' h' => hg H locs ls' hR hl (hL.st1 (v := .ref x) (by rw [← hL.1]; exact hi) rfl h')
    · obtain ⟨hlen, hg⟩ := hKK _ _ _ _ hw
      have hlen : len = 1 := Nat.eq_of_beq_eq_true hlen
      subst hlen
      exact fun H locs ls hR hl hL => lv_astore_nN hexec hb hdg rfl hL.has (by rw [← hL.1]; exact hi) rfl fun ls' h' => hg H locs ls' hR hl (hL.st1 (v := .null) (by rw [← hL.1]; exact hi) rfl h')
  | astore i =>
    unfold hz_s at hw
    dsimp only at hw
    rcases hz_sta_of hw with ⟨x, r, rfl, hi, hw⟩ | ⟨r, rfl, hi, hw⟩
    · obtain ⟨hlen, hg⟩ := hKK _ _ _ _ hw
      have hlen : len = 2 := Nat.eq_of_beq_eq_true hlen
      subst hlen
      exact fun H locs ls hR hl hL => lv_astore hexec hb hdg hL.has (by rw [← hL.1]; exact hi) rfl fun ls' h' => hg H locs ls' hR hl (hL.st1 (v := .ref x) (by rw [← hL.1]; exact hi) rfl h')
    · obtain ⟨hlen, hg⟩ := hKK _ _ _ _ hw
      have hlen : len = 2 := Nat.eq_of_beq_eq_true hlen
      subst hlen
      exact fun H locs ls hR hl hL => lv_astoreN hexec hb hdg hL.has (by rw [← hL.1]; exact hi) rfl fun ls' h' => hg H locs ls' hR hl (hL.st1 (v := .null) (by rw [← hL.1]; exact hi) rfl h')
  | iinc i k =>
    unfold hz_s at hw
    dsimp only at hw
    split at hw
    · rename_i x hx
      obtain ⟨hi, hw⟩ := hz_t_of hw
      have hi := hz_blt hi
      obtain ⟨hlen, hg⟩ := hKK _ _ _ _ hw
      have hlen : len = 3 := Nat.eq_of_beq_eq_true hlen
      subst hlen
      obtain ⟨j, hj⟩ := List.mem_iff_getElem?.mp (hz_as_in (b := G.2.2.size) hx)
      exact fun H locs ls hR hl hL => lv_iinc hexec hb hdg hL.has hj rfl (by rw [← hL.1]; exact hi) rfl fun ls' h' => hg H locs ls' hR hl (hL.st1 (v := .int (x + hz_n k)) (by rw [← hL.1]; exact hi) rfl h')
    · exact hw.elim
  | iadd =>
    unfold hz_s at hw
    dsimp only at hw
    obtain ⟨x, y, r, rfl, hw⟩ := hz_i2_of hw
    obtain ⟨hlen, hg⟩ := hKK _ _ _ _ hw
    have hlen : len = 1 := Nat.eq_of_beq_eq_true hlen
    subst hlen
    exact fun H locs ls hR hl hL => lv_iadd hexec hb hdg (hg H locs ls hR hl hL)
  | isub =>
    unfold hz_s at hw
    dsimp only at hw
    obtain ⟨x, y, r, rfl, hw⟩ := hz_i2_of hw
    obtain ⟨hlen, hg⟩ := hKK _ _ _ _ hw
    have hlen : len = 1 := Nat.eq_of_beq_eq_true hlen
    subst hlen
    exact fun H locs ls hR hl hL => lv_isub hexec hb hdg (hg H locs ls hR hl hL)
  | imul =>
    unfold hz_s at hw
    dsimp only at hw
    obtain ⟨x, y, r, rfl, hw⟩ := hz_i2_of hw
    obtain ⟨hlen, hg⟩ := hKK _ _ _ _ hw
    have hlen : len = 1 := Nat.eq_of_beq_eq_true hlen
    subst hlen
    exact fun H locs ls hR hl hL => lv_imul hexec hb hdg (hg H locs ls hR hl hL)
  | iand =>
    unfold hz_s at hw
    dsimp only at hw
    obtain ⟨x, y, r, rfl, hw⟩ := hz_i2_of hw
    obtain ⟨hlen, hg⟩ := hKK _ _ _ _ hw
    have hlen : len = 1 := Nat.eq_of_beq_eq_true hlen
    subst hlen
    exact fun H locs ls hR hl hL => lv_iand hexec hb hdg (hg H locs ls hR hl hL)
  | idiv =>
    unfold hz_s at hw
    dsimp only at hw
    obtain ⟨x, y, r, rfl, hy, hw⟩ := hz_i2_of hw
    obtain ⟨hlen, hg⟩ := hKK _ _ _ _ hw
    have hlen : len = 1 := Nat.eq_of_beq_eq_true hlen
    subst hlen
    exact fun H locs ls hR hl hL => lv_idiv hexec hb hdg (fun q => hy (by rw [q]; rfl)) (hg H locs ls hR hl hL)
  | irem =>
    unfold hz_s at hw
    dsimp only at hw
    obtain ⟨x, y, r, rfl, hy, hw⟩ := hz_i2_of hw
    obtain ⟨hlen, hg⟩ := hKK _ _ _ _ hw
    have hlen : len = 1 := Nat.eq_of_beq_eq_true hlen
    subst hlen
    exact fun H locs ls hR hl hL => lv_irem hexec hb hdg (fun q => hy (by rw [q]; rfl)) (hg H locs ls hR hl hL)
  | ineg =>
    unfold hz_s at hw
    dsimp only at hw
    obtain ⟨x, r, rfl, hw⟩ := hz_i1_of hw
    obtain ⟨hlen, hg⟩ := hKK _ _ _ _ hw
    have hlen : len = 1 := Nat.eq_of_beq_eq_true hlen
    subst hlen
    exact fun H locs ls hR hl hL => lv_ineg hexec hb hdg (hg H locs ls hR hl hL)
  | i2c =>
    unfold hz_s at hw
    dsimp only at hw
    obtain ⟨x, r, rfl, hw⟩ := hz_i1_of hw
    obtain ⟨hlen, hg⟩ := hKK _ _ _ _ hw
    have hlen : len = 1 := Nat.eq_of_beq_eq_true hlen
    subst hlen
    exact fun H locs ls hR hl hL => lv_i2c hexec hb hdg rfl (hg H locs ls hR hl hL)
  | i2l =>
    unfold hz_s at hw
    dsimp only at hw
    obtain ⟨x, r, rfl, hw⟩ := hz_i1_of hw
    obtain ⟨hlen, hg⟩ := hKK _ _ _ _ hw
    have hlen : len = 1 := Nat.eq_of_beq_eq_true hlen
    subst hlen
    exact fun H locs ls hR hl hL => lv_i2l hexec hb hdg rfl (hg H locs ls hR hl hL)
  | l2i =>
    unfold hz_s at hw
    dsimp only at hw
    obtain ⟨x, r, rfl, hw⟩ := hz_l1_of hw
    obtain ⟨hlen, hg⟩ := hKK _ _ _ _ hw
    have hlen : len = 1 := Nat.eq_of_beq_eq_true hlen
    subst hlen
    exact fun H locs ls hR hl hL => lv_l2i hexec hb hdg rfl (hg H locs ls hR hl hL)
  | lcmp =>
    unfold hz_s at hw
    dsimp only at hw
    obtain ⟨x, y, r, rfl, hw⟩ := hz_l2_of hw
    obtain ⟨hlen, hg⟩ := hKK _ _ _ _ hw
    have hlen : len = 1 := Nat.eq_of_beq_eq_true hlen
    subst hlen
    exact fun H locs ls hR hl hL => W.lcmp hexec hb hdg (hg H locs ls hR hl hL)
  | dup =>
    unfold hz_s at hw
    dsimp only at hw
    split at hw
    · obtain ⟨hlen, hg⟩ := hKK _ _ _ _ hw
      have hlen : len = 1 := Nat.eq_of_beq_eq_true hlen
      subst hlen
      exact fun H locs ls hR hl hL => lv_dup hexec hb hdg rfl (hg H locs ls hR hl hL)
    · obtain ⟨hlen, hg⟩ := hKK _ _ _ _ hw
      have hlen : len = 1 := Nat.eq_of_beq_eq_true hlen
      subst hlen
      exact fun H locs ls hR hl hL => lv_dup hexec hb hdg rfl (hg H locs ls hR hl hL)
    · exact hw.elim
  | pop =>
    unfold hz_s at hw
    dsimp only at hw
    split at hw
    · obtain ⟨hlen, hg⟩ := hKK _ _ _ _ hw
      have hlen : len = 1 := Nat.eq_of_beq_eq_true hlen
      subst hlen
      exact fun H locs ls hR hl hL => lv_pop hexec hb hdg rfl (hg H locs ls hR hl hL)
    · obtain ⟨hlen, hg⟩ := hKK _ _ _ _ hw
      have hlen : len = 1 := Nat.eq_of_beq_eq_true hlen
      subst hlen
      exact fun H locs ls hR hl hL => lv_pop hexec hb hdg rfl (hg H locs ls hR hl hL)
    · exact hw.elim
  | dup_x1 =>
    unfold hz_s at hw
    dsimp only at hw
    split at hw
    · obtain ⟨hlen, hg⟩ := hKK _ _ _ _ hw
      have hlen : len = 1 := Nat.eq_of_beq_eq_true hlen
      subst hlen
      exact fun H locs ls hR hl hL => lv_dup_x1 hexec hb hdg rfl rfl (hg H locs ls hR hl hL)
    · exact hw.elim
  | dup_x2 =>
    unfold hz_s at hw
    dsimp only at hw
    split at hw
    · obtain ⟨hlen, hg⟩ := hKK _ _ _ _ hw
      have hlen : len = 1 := Nat.eq_of_beq_eq_true hlen
      subst hlen
      exact fun H locs ls hR hl hL => lv_dup_x2 hexec hb hdg rfl rfl rfl (hg H locs ls hR hl hL)
    · exact hw.elim
  | dup2 =>
    unfold hz_s at hw
    dsimp only at hw
    split at hw
    · obtain ⟨hlen, hg⟩ := hKK _ _ _ _ hw
      have hlen : len = 1 := Nat.eq_of_beq_eq_true hlen
      subst hlen
      exact fun H locs ls hR hl hL => lv_dup2_11 hexec hb hdg rfl rfl (hg H locs ls hR hl hL)
    · exact hw.elim
  | ifCond q off =>
    unfold hz_s at hw
    dsimp only at hw
    obtain ⟨x, r, rfl, hw⟩ := hz_i1_of hw
    obtain ⟨t, ht, h1, h2⟩ := hz_j_at hw
    have hlen : len = 3 := by
      by_cases z : hz_c q x.toInt 0
      · exact Nat.eq_of_beq_eq_true (hKK _ _ _ _ (h1 z)).1
      · exact Nat.eq_of_beq_eq_true (hKK _ _ _ _ (h2 z)).1
    subst hlen
    intro H locs ls hR hl hL
    have kt := fun z => (hKK _ _ _ _ (h1 z)).2 H locs ls hR hl hL
    have kf := fun z => (hKK _ _ _ _ (h2 z)).2 H locs ls hR hl hL
    cases q
    · exact lv_if_eq hexec hb hdg ht (fun q => kt (hz_br_if_eq_i.mp q)) (fun q => kf (fun z => q (hz_br_if_eq_i.mpr z)))
    · exact lv_if_ne hexec hb hdg ht (fun q => kt (hz_br_if_ne_i.mp q)) (fun q => kf (fun z => (hz_br_if_ne_i.mpr z) q))
    · exact lv_if_lt hexec hb hdg ht (fun q => kt (hz_br_if_lt_i.mp q)) (fun q => kf (fun z => q (hz_br_if_lt_i.mpr z)))
    · exact lv_if_ge hexec hb hdg ht (fun q => kt (hz_br_if_ge_i.mp q)) (fun q => kf (fun z => q (hz_br_if_ge_i.mpr z)))
    · exact lv_if_gt hexec hb hdg ht (fun q => kt (hz_br_if_gt_i.mp q)) (fun q => kf (fun z => q (hz_br_if_gt_i.mpr z)))
    · exact lv_if_le hexec hb hdg ht (fun q => kt (hz_br_if_le_i.mp q)) (fun q => kf (fun z => q (hz_br_if_le_i.mpr z)))
  | if_icmp q off =>
    unfold hz_s at hw
    dsimp only at hw
    obtain ⟨x, y, r, rfl, hw⟩ := hz_i2_of hw
    obtain ⟨t, ht, h1, h2⟩ := hz_j_at hw
    have hlen : len = 3 := by
      by_cases z : hz_c q x.toInt y.toInt
      · exact Nat.eq_of_beq_eq_true (hKK _ _ _ _ (h1 z)).1
      · exact Nat.eq_of_beq_eq_true (hKK _ _ _ _ (h2 z)).1
    subst hlen
    intro H locs ls hR hl hL
    have kt := fun z => (hKK _ _ _ _ (h1 z)).2 H locs ls hR hl hL
    have kf := fun z => (hKK _ _ _ _ (h2 z)).2 H locs ls hR hl hL
    cases q
    · exact lv_icmp_eq hexec hb hdg ht (fun q => kt (hz_br_icmp_eq_i.mp q)) (fun q => kf (fun z => q (hz_br_icmp_eq_i.mpr z)))
    · exact lv_icmp_ne hexec hb hdg ht (fun q => kt (hz_br_icmp_ne_i.mp q)) (fun q => kf (fun z => (hz_br_icmp_ne_i.mpr z) q))
    · exact lv_icmp_lt hexec hb hdg ht (fun q => kt (hz_br_icmp_lt_i.mp q)) (fun q => kf (fun z => q (hz_br_icmp_lt_i.mpr z)))
    · exact lv_icmp_ge hexec hb hdg ht (fun q => kt (hz_br_icmp_ge_i.mp q)) (fun q => kf (fun z => q (hz_br_icmp_ge_i.mpr z)))
    · exact lv_icmp_gt hexec hb hdg ht (fun q => kt (hz_br_icmp_gt_i.mp q)) (fun q => kf (fun z => q (hz_br_icmp_gt_i.mpr z)))
    · exact lv_icmp_le hexec hb hdg ht (fun q => kt (hz_br_icmp_le_i.mp q)) (fun q => kf (fun z => q (hz_br_icmp_le_i.mpr z)))
  | goto off =>
    unfold hz_s at hw
    dsimp only at hw
    obtain ⟨t, ht, hw⟩ := hz_j_at hw
    obtain ⟨hlen, hg⟩ := hKK _ _ _ _ hw
    have hlen : len = 3 := Nat.eq_of_beq_eq_true hlen
    subst hlen
    exact fun H locs ls hR hl hL => lv_goto hexec hb hdg ht (hg H locs ls hR hl hL)
  | ifnull off =>
    unfold hz_s at hw
    dsimp only at hw
    split at hw
    · obtain ⟨hlen, hg⟩ := hKK _ _ _ _ hw
      have hlen : len = 3 := Nat.eq_of_beq_eq_true hlen
      subst hlen
      exact fun H locs ls hR hl hL => lv_ifnull hexec hb hdg (hg H locs ls hR hl hL)
    · obtain ⟨t, ht, hw⟩ := hz_j_at hw
      obtain ⟨hlen, hg⟩ := hKK _ _ _ _ hw
      have hlen : len = 3 := Nat.eq_of_beq_eq_true hlen
      subst hlen
      exact fun H locs ls hR hl hL => lv_ifnullN hexec hb hdg ht (hg H locs ls hR hl hL)
    · exact hw.elim
  | ifnonnull off =>
    unfold hz_s at hw
    dsimp only at hw
    split at hw
    · obtain ⟨t, ht, hw⟩ := hz_j_at hw
      obtain ⟨hlen, hg⟩ := hKK _ _ _ _ hw
      have hlen : len = 3 := Nat.eq_of_beq_eq_true hlen
      subst hlen
      exact fun H locs ls hR hl hL => lv_ifnonnull hexec hb hdg ht (hg H locs ls hR hl hL)
    · obtain ⟨hlen, hg⟩ := hKK _ _ _ _ hw
      have hlen : len = 3 := Nat.eq_of_beq_eq_true hlen
      subst hlen
      exact fun H locs ls hR hl hL => lv_ifnonnullN hexec hb hdg (hg H locs ls hR hl hL)
    · exact hw.elim
  | tableswitch d lo hi offs =>
    unfold hz_s at hw
    dsimp only at hw
    obtain ⟨x, r, rfl, hw⟩ := hz_i1_of hw
    obtain ⟨hsz, h1, h2⟩ := hz_t_of hw
    have hsz := Nat.eq_of_beq_eq_true hsz
    intro H locs ls hR hl hL
    by_cases z : x.toInt < lo ∨ hi < x.toInt
    · obtain ⟨t, ht, h1⟩ := hz_j_at (h1 z)
      exact lv_tableOut hexec hb hdg z ht ((hKK _ _ _ _ h1).2 H locs ls hR hl hL)
    · have z1 : ¬ x.toInt < lo := fun q => z (Or.inl q)
      have z2 : ¬ hi < x.toInt := fun q => z (Or.inr q)
      have hj : (x.toInt - lo).toNat < offs.size := by omega
      have ho : offs[(x.toInt - lo).toNat]? = some (offs[(x.toInt - lo).toNat]) := Array.getElem?_eq_getElem hj
      have ho2 : offs.toList[(x.toInt - lo).toNat]? = some (offs[(x.toInt - lo).toNat]) := by rw [Array.getElem?_toList]; exact ho
      obtain ⟨t, ht, h3⟩ := hz_j_at (hz_tb_at h2 ho2 (by omega))
      exact lv_tableIn hexec hb hdg z1 z2 ho ht ((hKK _ _ _ _ h3).2 H locs ls hR hl hL)
  | lookupswitch d ps =>
    unfold hz_s at hw
    dsimp only at hw
    obtain ⟨x, r, rfl, hw⟩ := hz_i1_of hw
    obtain ⟨hp, h2⟩ := hz_t_of hw
    obtain ⟨t, ht, h3⟩ := hz_j_at (hz_lk_at h2)
    exact fun H locs ls hR hl hL => lv_lookup hexec hb hdg hp rfl ht ((hKK _ _ _ _ h3).2 H locs ls hR hl hL)
  | getfield i =>
    unfold hz_s at hw
    dsimp only at hw
    split at hw
    · rename_i j r ci k ty wr hf
      obtain ⟨fs, v, hi, hv, hw⟩ := hz_rd_of hw
      obtain ⟨hlen, hg⟩ := hKK _ _ _ _ hw
      have hlen : len = 3 := Nat.eq_of_beq_eq_true hlen
      subst hlen
      exact fun H locs ls hR hl hL => hz_get hexec hb hR (hFT _ _ _ _ _ hf) hi hv hdg (hg H locs ls hR hl hL)
    · exact hw.elim
  | putfield i =>
    unfold hz_s at hw
    dsimp only at hw
    split at hw
    · rename_i v j r ci k ty hf
      obtain ⟨⟨hn, hft⟩, hw⟩ := hz_okf_of hw
      obtain ⟨fs, hi, hk, hw⟩ := hz_wr_of hw
      obtain ⟨hlen, hg⟩ := hKK _ _ _ _ hw
      have hlen : len = 3 := Nat.eq_of_beq_eq_true hlen
      subst hlen
      exact fun H locs ls hR hl hL => hz_put hexec hb hR hK (hFT _ _ _ _ _ hf) hi hk hn hft hl hdg fun H1 locs1 hR1 hl1 => hg H1 locs1 ls hR1 hl1 hL
    · exact hw.elim
  | iaload =>
    unfold hz_s at hw
    dsimp only at hw
    split at hw
    · obtain ⟨t, len2, f, ty, hi, ht, hk, hx, hw⟩ := hz_ea_of hw
      have hk := hz_kI_of hk
      subst hk
      obtain ⟨hlen, hg⟩ := hKK _ _ _ _ hw
      have hlen : len = 1 := Nat.eq_of_beq_eq_true hlen
      subst hlen
      exact fun H locs ls hR hl hL => hz_iald hexec hb hR (hK.2.1 _ _ ht).1 hi hx hdg (hg H locs ls hR hl hL)
    · exact hw.elim
  | caload =>
    unfold hz_s at hw
    dsimp only at hw
    split at hw
    · obtain ⟨t, len2, f, ty, hi, ht, hk, hx, hw⟩ := hz_ea_of hw
      have hk := hz_kC_of hk
      subst hk
      obtain ⟨hlen, hg⟩ := hKK _ _ _ _ hw
      have hlen : len = 1 := Nat.eq_of_beq_eq_true hlen
      subst hlen
      exact fun H locs ls hR hl hL => hz_cald hexec hb hR (hK.2.1 _ _ ht).1 hi hx hdg (hg H locs ls hR hl hL)
    · exact hw.elim
  | baload =>
    unfold hz_s at hw
    dsimp only at hw
    split at hw
    · obtain ⟨t, len2, f, ty, hi, ht, hk, hx, hw⟩ := hz_ea_of hw
      have hk := hz_kZ_of hk
      subst hk
      obtain ⟨hlen, hg⟩ := hKK _ _ _ _ hw
      have hlen : len = 1 := Nat.eq_of_beq_eq_true hlen
      subst hlen
      exact fun H locs ls hR hl hL => hz_zald hexec hb hR (hK.2.1 _ _ ht).1 hi hx hdg (hg H locs ls hR hl hL)
    · exact hw.elim
  | laload =>
    unfold hz_s at hw
    dsimp only at hw
    split at hw
    · obtain ⟨t, len2, f, ty, hi, ht, hk, hx, hw⟩ := hz_ea_of hw
      have hk := hz_kJ_of hk
      subst hk
      obtain ⟨hlen, hg⟩ := hKK _ _ _ _ hw
      have hlen : len = 1 := Nat.eq_of_beq_eq_true hlen
      subst hlen
      exact fun H locs ls hR hl hL => hz_lald hexec hb hR (hK.2.1 _ _ ht).1 hi hx hdg (hg H locs ls hR hl hL)
    · exact hw.elim
  | aaload =>
    unfold hz_s at hw
    dsimp only at hw
    split at hw
    · obtain ⟨t, len2, f, ty, hi, ht, hk, hx, hw⟩ := hz_ea_of hw
      obtain ⟨C, hk⟩ := hz_kA_of hk
      subst hk
      obtain ⟨hlen, hg⟩ := hKK _ _ _ _ hw
      have hlen : len = 1 := Nat.eq_of_beq_eq_true hlen
      subst hlen
      exact fun H locs ls hR hl hL => hz_aald hexec hb hR (hK.2.1 _ _ ht).1 hi hx hdg (hg H locs ls hR hl hL)
    · exact hw.elim
  | iastore =>
    unfold hz_s at hw
    dsimp only at hw
    split at hw
    · obtain ⟨t, len2, f, ty, hi, ht, hk, hx, hw⟩ := hz_es_of hw
      have hk := hz_kI_of hk
      subst hk
      obtain ⟨hlen, hg⟩ := hKK _ _ _ _ hw
      have hlen : len = 1 := Nat.eq_of_beq_eq_true hlen
      subst hlen
      exact fun H locs ls hR hl hL => hz_iast hexec hb hR (hK.2.1 _ _ ht).1 hi hx hl hdg fun H1 locs1 hR1 hl1 => hg H1 locs1 ls hR1 hl1 hL
    · exact hw.elim
  | lastore =>
    unfold hz_s at hw
    dsimp only at hw
    split at hw
    · obtain ⟨t, len2, f, ty, hi, ht, hk, hx, hw⟩ := hz_es_of hw
      have hk := hz_kJ_of hk
      subst hk
      obtain ⟨hlen, hg⟩ := hKK _ _ _ _ hw
      have hlen : len = 1 := Nat.eq_of_beq_eq_true hlen
      subst hlen
      exact fun H locs ls hR hl hL => hz_last hexec hb hR (hK.2.1 _ _ ht).1 hi hx hl hdg fun H1 locs1 hR1 hl1 => hg H1 locs1 ls hR1 hl1 hL
    · exact hw.elim
  | castore =>
    unfold hz_s at hw
    dsimp only at hw
    split at hw
    · obtain ⟨hy, hw⟩ := hw
      obtain ⟨t, len2, f, ty, hi, ht, hk, hx, hw⟩ := hz_es_of hw
      have hk := hz_kC_of hk
      subst hk
      obtain ⟨hlen, hg⟩ := hKK _ _ _ _ hw
      have hlen : len = 1 := Nat.eq_of_beq_eq_true hlen
      subst hlen
      exact fun H locs ls hR hl hL => hz_cast hexec hb hR (hK.2.1 _ _ ht).1 hi hx hy hl hdg fun H1 locs1 hR1 hl1 => hg H1 locs1 ls hR1 hl1 hL
    · exact hw.elim
  | bastore =>
    unfold hz_s at hw
    dsimp only at hw
    split at hw
    · obtain ⟨hy, hw⟩ := hw
      obtain ⟨t, len2, f, ty, hi, ht, hk, hx, hw⟩ := hz_es_of hw
      have hk := hz_kZ_of hk
      subst hk
      obtain ⟨hlen, hg⟩ := hKK _ _ _ _ hw
      have hlen : len = 1 := Nat.eq_of_beq_eq_true hlen
      subst hlen
      exact fun H locs ls hR hl hL => hz_zast hexec hb hR (hK.2.1 _ _ ht).1 hi hx hy hl hdg fun H1 locs1 hR1 hl1 => hg H1 locs1 ls hR1 hl1 hL
    · exact hw.elim
  | arraylength =>
    unfold hz_s at hw
    dsimp only at hw
    split at hw
    · obtain ⟨t, len2, f, ty, hi, ht, hw⟩ := hz_al_of hw
      obtain ⟨hlen, hg⟩ := hKK _ _ _ _ hw
      have hlen : len = 1 := Nat.eq_of_beq_eq_true hlen
      subst hlen
      refine fun H locs ls hR hl hL => hz_alen hexec hb hR (hK.2.1 _ _ ht).1 hi hdg ?_
      rw [hz_n_nat]
      exact hg H locs ls hR hl hL
    · exact hw.elim
  | _ => exact hSS hw
set_option maxHeartbeats 1000000 in
theorem hz_w_ok (hexec : p.tables.exec = Jvm.exec) (hb : c.code = cc) (hK : hz_K cl KT G s) (hFT : hz_FT G s m args meth fld) (hCN : hz_CN s m args cn) (cuts : List Nat) : ∀ (f pc : Nat) (L : List (Option Value)) (st : List Value) (h : hz_H), hz_w cl KT fld cn cc cuts (hz_g cl G p l e R s m args below meth c nL Q n cells slots) f pc L st h → hz_g cl G p l e R s m args below meth c nL Q n cells slots pc L st h
  | 0, _, _, _, _, hw => hw
  | f + 1, pc, L, st, h, hw => by
    unfold hz_w at hw
    split at hw
    · rename_i ins len hdg
      refine hz_s_ok hexec hb hK hFT hCN hdg (fun pc' L' st' h' q => ?_) id hw
      obtain ⟨q1, q⟩ := hz_t_of q
      refine ⟨q1, ?_⟩
      split at q
      · exact q
      · exact hz_w_ok hexec hb hK hFT hCN cuts f pc' L' st' h' q
    · exact hw
end HZB
