/-! My own layer: a world by numbers. A cell is known by its distance from the heap's size at the law's start; an array is its kind, length and contents, an object its class's number and its fields. -/
abbrev hz_E : Type := (Nat × Nat × (Nat → Value)) ⊕ (Nat × List Value)
abbrev hz_H : Type := Nat → Option hz_E
abbrev hz_G : Type := va_G × (Nat → ClassId) × Heap
def hz_v (b : Nat) : Value → Value
  | .ref k => .ref (b + k)
  | v => v
def hz_set (h : hz_H) (i : Nat) (x : hz_E) : hz_H := fun j => if j = i then some x else h j
def hz_i (a : Nat → Int32) : Nat → Value := fun j => .int (a j)
def hz_l (a : Nat → Int64) : Nat → Value := fun j => .long (a j)
def hz_q (a : Nat → Option Nat) : Nat → Value := fun j => va_rf (a j)
def hz_at (cl : List vw_C) (G : hz_G) (i : Nat) (x : hz_E) (H : Heap) : Prop := match x with
  | .inl (t, len, f) => H[G.2.2.size + i]? = some (arrV (G.2.1 t) len (fun j => hz_v G.2.2.size (f j)))
  | .inr (ci, fs) => ∃ r : vw_C, cl[ci]? = some r ∧ fs.length = r.2.2 ∧ t_OB (G.2.2.size + i) (G.1.1 ci) r.2.2 (G.1.2 ci) H (fun k => hz_v G.2.2.size (fs.getD k .null))
def hz_R (cl : List vw_C) (G : hz_G) (h : hz_H) (n : Nat) (H : Heap) : Prop :=
  H.size = G.2.2.size + n ∧ (∀ q : Nat, q < G.2.2.size → H[q]? = G.2.2[q]?) ∧ ∀ (i : Nat) (x : hz_E), h i = some x → hz_at cl G i x H
theorem hz_at.kept {cl : List vw_C} {G : hz_G} {i : Nat} {x : hz_E} {H H1 : Heap} (h : hz_at cl G i x H) (hq : H1[G.2.2.size + i]? = H[G.2.2.size + i]?) : hz_at cl G i x H1 := by
  match x, h with
  | .inl (t, len, f), h => exact hq.trans h
  | .inr (ci, fs), ⟨r, h1, h2, ce, q1, q2⟩ => exact ⟨r, h1, h2, ce, hq.trans q1, q2⟩
theorem hz_at.lt {cl : List vw_C} {G : hz_G} {i : Nat} {x : hz_E} {H : Heap} (h : hz_at cl G i x H) : G.2.2.size + i < H.size := by
  match x, h with
  | .inl (t, len, f), h => exact (Array.getElem?_eq_some_iff.mp h).1
  | .inr (ci, fs), ⟨r, h1, h2, ce, q1, q2⟩ => exact (Array.getElem?_eq_some_iff.mp q1).1
theorem hz_R.set {cl : List vw_C} {G : hz_G} {h : hz_H} {n i : Nat} {x : hz_E} {H H1 : Heap} (hR : hz_R cl G h n H) (hz : H1.size = H.size) (ho : ∀ q : Nat, q ≠ G.2.2.size + i → H1[q]? = H[q]?) (hx : hz_at cl G i x H1) : hz_R cl G (hz_set h i x) n H1 := by
  obtain ⟨r1, r2, r3⟩ := hR
  refine ⟨hz.trans r1, fun q hq => (ho q (by omega)).trans (r2 q hq), fun j y hj => ?_⟩
  unfold hz_set at hj
  by_cases e : j = i
  · subst e
    rw [if_pos rfl] at hj
    cases hj
    exact hx
  · rw [if_neg e] at hj
    exact (r3 j y hj).kept (ho _ (by omega))
theorem hz_R.push {cl : List vw_C} {G : hz_G} {h : hz_H} {n : Nat} {x : hz_E} {H H1 : Heap} (hR : hz_R cl G h n H) (hz : H1.size = H.size + 1) (ho : ∀ q : Nat, q < H.size → H1[q]? = H[q]?) (hx : hz_at cl G n x H1) : hz_R cl G (hz_set h n x) (n + 1) H1 := by
  obtain ⟨r1, r2, r3⟩ := hR
  refine ⟨by omega, fun q hq => (ho q (by omega)).trans (r2 q hq), fun j y hj => ?_⟩
  unfold hz_set at hj
  by_cases e : j = n
  · subst e
    rw [if_pos rfl] at hj
    cases hj
    exact hx
  · rw [if_neg e] at hj
    exact (r3 j y hj).kept (ho _ (r3 j y hj).lt)
/-- what is known of the classes -/
def hz_K (cl : List vw_C) (KT : List FieldType) (G : hz_G) (U : State) : Prop :=
  (∀ (c : Nat) (q : vw_C), cl[c]? = some q → u_Kn U q.1 q.2.1 q.2.2 (G.1.1 c) (G.1.2 c)) ∧ (∀ (t : Nat) (ty : FieldType), KT[t]? = some ty → ArrOfT U (G.2.1 t) ty ∧ va_RA U (G.2.1 t) ty) ∧
  ∀ (c : Nat) (q : vw_C), cl[c]? = some q → ∀ x y : Nat, x < q.2.2 → y < q.2.2 → x ≠ y → G.1.2 c x ≠ G.1.2 c y
theorem hz_K.moved {cl : List vw_C} {KT : List FieldType} {G : hz_G} {u U : State} (hvm : u.vm.Alike U.vm) (h : hz_K cl KT G u) : hz_K cl KT G U :=
  ⟨fun c q hq => u_Kn_moved hvm (h.1 c q hq), fun t ty ht => ⟨arrOfT_moved hvm (h.2.1 t ty ht).1, (h.2.1 t ty ht).2.moved hvm⟩, h.2.2⟩
/-- a field's number in the constant pool, what it means -/
def hz_L (s : State) (m : MethodId) (args : Array Value) (idx : Nat) (ref name desc : String) : Prop :=
  ∃ own : String, s.vm.findClass own = some m.cls ∧ ((Jvm.Cond.fieldLink own idx ref name desc).before args s = true ∨ ∃ host : String, (Jvm.Cond.fieldLinkNest own idx ref name desc host).before args s = true)
def hz_F (G : hz_G) (s : State) (m : MethodId) (args : Array Value) (meth : Method) (idx ci k : Nat) (ty : FieldType) (wr : Bool) : Prop :=
  ∃ (ref name desc : String) (cf : ClassId) (kf : Class) (fi : Nat) (f : Field), hz_L s m args idx ref name desc ∧ s.fieldFound? ref name desc = some (cf, kf, fi, f) ∧ f.isStatic = false ∧ f.slot = G.1.2 ci k ∧
    (∀ v : Value, narrow ty v = v → fits ty v = true → narrow f.type v = v ∧ s.fitsSlot (G.1.1 ci) .none f.slot v = true) ∧ (wr = true → hasFlag f.accessFlags Acc.final = false ∨ (m.cls = cf ∧ meth.name = "<init>"))
theorem hz_nar {ty : FieldType} {v : Value} (b : Nat) (h : narrow ty v = v) : narrow ty (hz_v b v) = hz_v b v := by
  cases v <;> first | exact h | (cases ty <;> rfl)
theorem hz_fit {ty : FieldType} {v : Value} (b : Nat) (h : fits ty v = true) : fits ty (hz_v b v) = true := by
  cases v <;> first | exact h | (cases ty <;> first | exact h | rfl)
theorem hz_in {x : Int32} {len : Nat} (h : 0 ≤ x.toInt ∧ x.toInt.toNat < len) : ¬ (x < 0 ∨ len ≤ x.toNatClampNeg) := by
  intro q
  rcases q with q | q
  · rw [Int32.lt_iff_toInt_lt, Int32.toInt_zero] at q
    omega
  · have e : x.toNatClampNeg = x.toInt.toNat := rfl
    omega
theorem hz_lc {G : hz_G} {locs : List Loc} {i k : Nat} (hl : ∀ q ∈ locs, G.2.2.size ≤ q.base) : ∀ q ∈ locs ++ [(⟨G.2.2.size + i, k⟩ : Loc)], G.2.2.size ≤ q.base := by
  intro q hq
  rcases List.mem_append.mp hq with h | h
  · exact hl q h
  · rw [List.mem_singleton.mp h]
    exact Nat.le_add_right _ _
section HZA
variable {p : Program} {l : Launch} {e : Env} {R : Room} {s : State} {m : MethodId} {args : Array Value} {below : List Frame} {meth : Method} {c : Code} {H : Heap} {locs : List Loc} {cells slots : Nat} {Q : State → Prop}
variable {cl : List vw_C} {KT : List FieldType} {G : hz_G} {h : hz_H} {n : Nat} {cc : ByteArray} {pc : Nat} {ls : Array Slot} {rest : List Value}
theorem hz_get (hexec : p.tables.exec = Jvm.exec) (hb : c.code = cc) {i idx ci k : Nat} {ty : FieldType} {wr : Bool} {fs : List Value} {v : Value} (hR : hz_R cl G h n H) (hF : hz_F G s m args meth idx ci k ty wr) (hi : h i = some (.inr (ci, fs))) (hv : fs[k]? = some v) (hdg : decode cc pc = .ok (.getfield idx, 3))
    (kk : W p l e R s m args below meth c H locs cells slots Q (F0 m (pc + 3) ls (hz_v G.2.2.size v :: rest))) : W p l e R s m args below meth c H locs cells slots Q (F0 m pc ls (.ref (G.2.2.size + i) :: rest)) := by
  obtain ⟨r, h1, h2, cell, q1, q2, q3, q4⟩ := hR.2.2 i _ hi
  obtain ⟨ref, name, desc, cf, kf, fi, f, ⟨own, hown, hlink⟩, hfound, hst, hslot, -⟩ := hF
  have hk : k < r.2.2 := by
    rw [← h2]; exact (List.getElem?_eq_some_iff.mp hv).1
  have hs : cell.slots[f.slot]? = some (hz_v G.2.2.size v) := by
    rw [hslot, q4 k hk]
    simp [List.getD, hv]
  rcases hlink with hlink | ⟨host, hlink⟩
  · exact W.getf hexec hb hown hlink hfound hst q1 (by rw [q3]; exact fun z => by cases z) hs rfl rfl hdg kk
  · exact va_Wgetf hexec hb hown hlink hfound hst q1 (by rw [q3]; exact fun z => by cases z) hs rfl rfl hdg kk
theorem hz_put (hexec : p.tables.exec = Jvm.exec) (hb : c.code = cc) {i idx ci k : Nat} {ty : FieldType} {fs : List Value} {v : Value} (hR : hz_R cl G h n H) (hK : hz_K cl KT G s) (hF : hz_F G s m args meth idx ci k ty true) (hi : h i = some (.inr (ci, fs))) (hk : k < fs.length) (hn : narrow ty v = v) (hf : fits ty v = true) (hl : ∀ q ∈ locs, G.2.2.size ≤ q.base) (hdg : decode cc pc = .ok (.putfield idx, 3))
    (kk : ∀ (H1 : Heap) (locs1 : List Loc), hz_R cl G (hz_set h i (.inr (ci, fs.set k v))) n H1 → (∀ q ∈ locs1, G.2.2.size ≤ q.base) → W p l e R s m args below meth c H1 locs1 cells slots Q (F0 m (pc + 3) ls rest)) : W p l e R s m args below meth c H locs cells slots Q (F0 m pc ls (hz_v G.2.2.size v :: .ref (G.2.2.size + i) :: rest)) := by
  obtain ⟨r, h1, h2, cell, q1, q2, q3, q4⟩ := hR.2.2 i _ hi
  obtain ⟨ref, name, desc, cf, kf, fi, f, ⟨own, hown, hlink⟩, hfound, hst, hslot, hfits, hfin⟩ := hF
  have hkr : k < r.2.2 := by rw [← h2]; exact hk
  obtain ⟨hna, hfi⟩ := hfits _ (hz_nar G.2.2.size hn) (hz_fit G.2.2.size hf)
  have hap := hK.2.2 ci r h1
  have ha : G.2.2.size + i < H.size := (Array.getElem?_eq_some_iff.mp q1).1
  have hlt : f.slot < cell.slots.size := by
    rw [hslot]; exact (Array.getElem?_eq_some_iff.mp (q4 k hkr)).1
  have hfs : s.fitsSlot cell.cls cell.vm f.slot (hz_v G.2.2.size v) = true := by rw [q2, q3]; exact hfi
  have fin : W p l e R s m args below meth c (H.setIfInBounds (G.2.2.size + i) (cell.setSlot f.slot (hz_v G.2.2.size v))) (locs ++ [⟨G.2.2.size + i, f.slot⟩]) cells slots Q (F0 m (pc + 3) ls rest) := by
    refine kk _ _ (hR.set (by simp) (fun q hq => by simp [Array.getElem?_setIfInBounds, Ne.symm hq]) ?_) (hz_lc hl)
    refine ⟨r, h1, by rw [List.length_set]; exact h2, cell.setSlot f.slot (hz_v G.2.2.size v), by simp [Array.getElem?_setIfInBounds, ha], q2, q3, fun j hj => ?_⟩
    rw [hslot, t_set q4 hap hkr (hz_v G.2.2.size v) j hj]
    congr 1
    unfold updV
    by_cases e : j = k
    · subst e
      rw [if_pos rfl]
      simp [List.getD, hk]
    · rw [if_neg e]
      simp [List.getD, List.getElem?_set, Ne.symm e]
  rcases hlink with hlink | ⟨host, hlink⟩
  · exact W.putf hexec hb hown hlink hfound hst (hfin rfl) q1 (by rw [q3]; exact fun z => by cases z) hlt hna hfs rfl rfl hdg fin
  · exact va_Wputf hexec hb hown hlink hfound hst (hfin rfl) q1 (by rw [q3]; exact fun z => by cases z) hlt hna hfs rfl rfl hdg fin
theorem hz_iald (hexec : p.tables.exec = Jvm.exec) (hb : c.code = cc) {i t len : Nat} {f : Nat → Value} {x : Int32} (hR : hz_R cl G h n H) (hA : ArrOfT s (G.2.1 t) .int) (hi : h i = some (.inl (t, len, f))) (hx : 0 ≤ x.toInt ∧ x.toInt.toNat < len) (hdg : decode cc pc = .ok (.iaload, 1))
    (kk : W p l e R s m args below meth c H locs cells slots Q (F0 m (pc + 1) ls (hz_v G.2.2.size (f x.toInt.toNat) :: rest))) : W p l e R s m args below meth c H locs cells slots Q (F0 m pc ls (.int x :: .ref (G.2.2.size + i) :: rest)) :=
  W.iald hexec hb (hR.2.2 i _ hi) (hA len _) (fun q => by cases q) (by rw [arrV_size]; exact hz_in hx) (arrV_read _ _ hx.2) rfl rfl hdg kk
theorem hz_cald (hexec : p.tables.exec = Jvm.exec) (hb : c.code = cc) {i t len : Nat} {f : Nat → Value} {x : Int32} (hR : hz_R cl G h n H) (hA : ArrOfT s (G.2.1 t) .char) (hi : h i = some (.inl (t, len, f))) (hx : 0 ≤ x.toInt ∧ x.toInt.toNat < len) (hdg : decode cc pc = .ok (.caload, 1))
    (kk : W p l e R s m args below meth c H locs cells slots Q (F0 m (pc + 1) ls (hz_v G.2.2.size (f x.toInt.toNat) :: rest))) : W p l e R s m args below meth c H locs cells slots Q (F0 m pc ls (.int x :: .ref (G.2.2.size + i) :: rest)) :=
  W.cald hexec hb (hR.2.2 i _ hi) (hA len _) (fun q => by cases q) (by rw [arrV_size]; exact hz_in hx) (arrV_read _ _ hx.2) rfl rfl hdg kk
theorem hz_zald (hexec : p.tables.exec = Jvm.exec) (hb : c.code = cc) {i t len : Nat} {f : Nat → Value} {x : Int32} (hR : hz_R cl G h n H) (hA : ArrOfT s (G.2.1 t) .boolean) (hi : h i = some (.inl (t, len, f))) (hx : 0 ≤ x.toInt ∧ x.toInt.toNat < len) (hdg : decode cc pc = .ok (.baload, 1))
    (kk : W p l e R s m args below meth c H locs cells slots Q (F0 m (pc + 1) ls (hz_v G.2.2.size (f x.toInt.toNat) :: rest))) : W p l e R s m args below meth c H locs cells slots Q (F0 m pc ls (.int x :: .ref (G.2.2.size + i) :: rest)) :=
  W.zald hexec hb (hR.2.2 i _ hi) (hA len _) (fun q => by cases q) (by rw [arrV_size]; exact hz_in hx) (arrV_read _ _ hx.2) rfl rfl hdg kk
theorem hz_lald (hexec : p.tables.exec = Jvm.exec) (hb : c.code = cc) {i t len : Nat} {f : Nat → Value} {x : Int32} (hR : hz_R cl G h n H) (hA : ArrOfT s (G.2.1 t) .long) (hi : h i = some (.inl (t, len, f))) (hx : 0 ≤ x.toInt ∧ x.toInt.toNat < len) (hdg : decode cc pc = .ok (.laload, 1))
    (kk : W p l e R s m args below meth c H locs cells slots Q (F0 m (pc + 1) ls (hz_v G.2.2.size (f x.toInt.toNat) :: rest))) : W p l e R s m args below meth c H locs cells slots Q (F0 m pc ls (.int x :: .ref (G.2.2.size + i) :: rest)) :=
  W.lald hexec hb (hR.2.2 i _ hi) (hA len _) (fun q => by cases q) (by rw [arrV_size]; exact hz_in hx) (arrV_read _ _ hx.2) rfl rfl hdg kk
theorem hz_aald (hexec : p.tables.exec = Jvm.exec) (hb : c.code = cc) {i t len : Nat} {f : Nat → Value} {x : Int32} {C : String} (hR : hz_R cl G h n H) (hA : ArrOfT s (G.2.1 t) (.object C)) (hi : h i = some (.inl (t, len, f))) (hx : 0 ≤ x.toInt ∧ x.toInt.toNat < len) (hdg : decode cc pc = .ok (.aaload, 1))
    (kk : W p l e R s m args below meth c H locs cells slots Q (F0 m (pc + 1) ls (hz_v G.2.2.size (f x.toInt.toNat) :: rest))) : W p l e R s m args below meth c H locs cells slots Q (F0 m pc ls (.int x :: .ref (G.2.2.size + i) :: rest)) :=
  W.aald (ty := .object C) hexec hb (hR.2.2 i _ hi) (hA len _) rfl (fun q => by cases q) (by rw [arrV_size]; exact hz_in hx) (arrV_read _ _ hx.2) rfl rfl hdg kk
theorem hz_alen (hexec : p.tables.exec = Jvm.exec) (hb : c.code = cc) {i t len : Nat} {f : Nat → Value} {ty : FieldType} (hR : hz_R cl G h n H) (hA : ArrOfT s (G.2.1 t) ty) (hi : h i = some (.inl (t, len, f))) (hdg : decode cc pc = .ok (.arraylength, 1))
    (kk : W p l e R s m args below meth c H locs cells slots Q (F0 m (pc + 1) ls (.int (Int32.ofNat len) :: rest))) : W p l e R s m args below meth c H locs cells slots Q (F0 m pc ls (.ref (G.2.2.size + i) :: rest)) :=
  W.alen (n := Int32.ofNat len) hexec hb (hR.2.2 i _ hi) (hA len _) (by rw [arrV_size] <;> rfl) rfl rfl hdg kk
theorem hz_stored {i t len k : Nat} {f : Nat → Value} {v : Value} {H1 : Heap} (hR : hz_R cl G h n H) (hi : h i = some (.inl (t, len, f))) (e1 : H1[G.2.2.size + i]? = some ((arrV (G.2.1 t) len (fun j => hz_v G.2.2.size (f j))).setSlot k (hz_v G.2.2.size v))) (z : H1.size = H.size) (oq : ∀ q, q ≠ G.2.2.size + i → H1[q]? = H[q]?) : hz_R cl G (hz_set h i (.inl (t, len, updV f k v))) n H1 := by
  refine hR.set z oq ?_
  show H1[G.2.2.size + i]? = some (arrV (G.2.1 t) len (fun j => hz_v G.2.2.size (updV f k v j)))
  rw [e1, arrV_store]
  congr 2
  funext j
  unfold updV
  by_cases e : j = k
  · rw [if_pos e, if_pos e]
  · rw [if_neg e, if_neg e]
theorem hz_iast (hexec : p.tables.exec = Jvm.exec) (hb : c.code = cc) {i t len : Nat} {f : Nat → Value} {x y : Int32} (hR : hz_R cl G h n H) (hA : ArrOfT s (G.2.1 t) .int) (hi : h i = some (.inl (t, len, f))) (hx : 0 ≤ x.toInt ∧ x.toInt.toNat < len) (hl : ∀ q ∈ locs, G.2.2.size ≤ q.base) (hdg : decode cc pc = .ok (.iastore, 1))
    (kk : ∀ (H1 : Heap) (locs1 : List Loc), hz_R cl G (hz_set h i (.inl (t, len, updV f x.toInt.toNat (.int y)))) n H1 → (∀ q ∈ locs1, G.2.2.size ≤ q.base) → W p l e R s m args below meth c H1 locs1 cells slots Q (F0 m (pc + 1) ls rest)) : W p l e R s m args below meth c H locs cells slots Q (F0 m pc ls (.int y :: .int x :: .ref (G.2.2.size + i) :: rest)) :=
  W.iast hexec hb (hR.2.2 i _ hi) (hA len _) (fun q => by cases q) (by rw [arrV_size]; exact hz_in hx) rfl rfl hdg fun H1 e1 z oq => kk H1 _ (hz_stored hR hi e1 z oq) (hz_lc hl)
theorem hz_cast (hexec : p.tables.exec = Jvm.exec) (hb : c.code = cc) {i t len : Nat} {f : Nat → Value} {x y : Int32} (hR : hz_R cl G h n H) (hA : ArrOfT s (G.2.1 t) .char) (hi : h i = some (.inl (t, len, f))) (hx : 0 ≤ x.toInt ∧ x.toInt.toNat < len) (hy : narrow .char (.int y) = .int y) (hl : ∀ q ∈ locs, G.2.2.size ≤ q.base) (hdg : decode cc pc = .ok (.castore, 1))
    (kk : ∀ (H1 : Heap) (locs1 : List Loc), hz_R cl G (hz_set h i (.inl (t, len, updV f x.toInt.toNat (.int y)))) n H1 → (∀ q ∈ locs1, G.2.2.size ≤ q.base) → W p l e R s m args below meth c H1 locs1 cells slots Q (F0 m (pc + 1) ls rest)) : W p l e R s m args below meth c H locs cells slots Q (F0 m pc ls (.int y :: .int x :: .ref (G.2.2.size + i) :: rest)) :=
  W.cast hexec hb (hR.2.2 i _ hi) (hA len _) (fun q => by cases q) (by rw [arrV_size]; exact hz_in hx) rfl rfl hdg fun H1 e1 z oq => kk H1 _ (hz_stored (v := .int y) hR hi (by rw [e1, hy]; rfl) z oq) (hz_lc hl)
theorem hz_zast (hexec : p.tables.exec = Jvm.exec) (hb : c.code = cc) {i t len : Nat} {f : Nat → Value} {x y : Int32} (hR : hz_R cl G h n H) (hA : ArrOfT s (G.2.1 t) .boolean) (hi : h i = some (.inl (t, len, f))) (hx : 0 ≤ x.toInt ∧ x.toInt.toNat < len) (hy : narrow .boolean (.int y) = .int y) (hl : ∀ q ∈ locs, G.2.2.size ≤ q.base) (hdg : decode cc pc = .ok (.bastore, 1))
    (kk : ∀ (H1 : Heap) (locs1 : List Loc), hz_R cl G (hz_set h i (.inl (t, len, updV f x.toInt.toNat (.int y)))) n H1 → (∀ q ∈ locs1, G.2.2.size ≤ q.base) → W p l e R s m args below meth c H1 locs1 cells slots Q (F0 m (pc + 1) ls rest)) : W p l e R s m args below meth c H locs cells slots Q (F0 m pc ls (.int y :: .int x :: .ref (G.2.2.size + i) :: rest)) :=
  W.zast hexec hb (hR.2.2 i _ hi) (hA len _) (fun q => by cases q) (by rw [arrV_size]; exact hz_in hx) rfl rfl hdg fun H1 e1 z oq => kk H1 _ (hz_stored (v := .int y) hR hi (by rw [e1, hy]; rfl) z oq) (hz_lc hl)
theorem hz_last (hexec : p.tables.exec = Jvm.exec) (hb : c.code = cc) {i t len : Nat} {f : Nat → Value} {x : Int32} {y : Int64} (hR : hz_R cl G h n H) (hA : ArrOfT s (G.2.1 t) .long) (hi : h i = some (.inl (t, len, f))) (hx : 0 ≤ x.toInt ∧ x.toInt.toNat < len) (hl : ∀ q ∈ locs, G.2.2.size ≤ q.base) (hdg : decode cc pc = .ok (.lastore, 1))
    (kk : ∀ (H1 : Heap) (locs1 : List Loc), hz_R cl G (hz_set h i (.inl (t, len, updV f x.toInt.toNat (.long y)))) n H1 → (∀ q ∈ locs1, G.2.2.size ≤ q.base) → W p l e R s m args below meth c H1 locs1 cells slots Q (F0 m (pc + 1) ls rest)) : W p l e R s m args below meth c H locs cells slots Q (F0 m pc ls (.long y :: .int x :: .ref (G.2.2.size + i) :: rest)) :=
  W.last hexec hb (hR.2.2 i _ hi) (hA len _) (fun q => by cases q) (by rw [arrV_size]; exact hz_in hx) rfl rfl hdg fun H1 e1 z oq => kk H1 _ (hz_stored (v := .long y) hR hi e1 z oq) (hz_lc hl)
theorem hz_aastN (hexec : p.tables.exec = Jvm.exec) (hb : c.code = cc) {i t len : Nat} {f : Nat → Value} {x : Int32} {C : String} (hR : hz_R cl G h n H) (hA : ArrOfT s (G.2.1 t) (.object C)) (hi : h i = some (.inl (t, len, f))) (hx : 0 ≤ x.toInt ∧ x.toInt.toNat < len) (hl : ∀ q ∈ locs, G.2.2.size ≤ q.base) (hdg : decode cc pc = .ok (.aastore, 1))
    (kk : ∀ (H1 : Heap) (locs1 : List Loc), hz_R cl G (hz_set h i (.inl (t, len, updV f x.toInt.toNat .null))) n H1 → (∀ q ∈ locs1, G.2.2.size ≤ q.base) → W p l e R s m args below meth c H1 locs1 cells slots Q (F0 m (pc + 1) ls rest)) : W p l e R s m args below meth c H locs cells slots Q (F0 m pc ls (.null :: .int x :: .ref (G.2.2.size + i) :: rest)) :=
  va_WaastN (C := C) hexec hb (hR.2.2 i _ hi) (hA len _) (fun q => by cases q) (by rw [arrV_size]; exact hz_in hx) rfl rfl hdg fun H1 e1 z oq => kk H1 _ (hz_stored (v := .null) hR hi e1 z oq) (hz_lc hl)
theorem hz_aast (hexec : p.tables.exec = Jvm.exec) (hb : c.code = cc) {i t len j ci : Nat} {f : Nat → Value} {fs : List Value} {x : Int32} {r : vw_C} (hR : hz_R cl G h n H) (hK : hz_K cl KT G s) (ht : KT[t]? = some (.object r.1)) (hc : cl[ci]? = some r) (hi : h i = some (.inl (t, len, f))) (hj : h j = some (.inr (ci, fs))) (hx : 0 ≤ x.toInt ∧ x.toInt.toNat < len) (hl : ∀ q ∈ locs, G.2.2.size ≤ q.base) (hdg : decode cc pc = .ok (.aastore, 1))
    (kk : ∀ (H1 : Heap) (locs1 : List Loc), hz_R cl G (hz_set h i (.inl (t, len, updV f x.toInt.toNat (.ref j)))) n H1 → (∀ q ∈ locs1, G.2.2.size ≤ q.base) → W p l e R s m args below meth c H1 locs1 cells slots Q (F0 m (pc + 1) ls rest)) : W p l e R s m args below meth c H locs cells slots Q (F0 m pc ls (.ref (G.2.2.size + j) :: .int x :: .ref (G.2.2.size + i) :: rest)) := by
  have h0 : ¬ x < 0 := fun q => hz_in hx (Or.inl q)
  obtain ⟨r', hr', -, cellV, g1, g2, g3, -⟩ := hR.2.2 j _ hj
  have hcls := (hK.1 ci r hc).2
  obtain ⟨kA, comp, k1, k2, k3, -⟩ := (hK.2.1 t _ ht).2
  have hcomp : comp = G.1.1 ci := Option.some.inj (k3.symm.trans hcls.1)
  subst hcomp
  obtain ⟨kC, hkC, -⟩ := hcls.2
  exact W.aast hexec hb (hR.2.2 i _ hi) (fun q z => by cases z) (fun z => by cases z) k1 k2 rfl hkC ⟨h0, by rw [arrV_size]; exact hx.2⟩ g1 (fun q z => by rw [g3] at z; cases z) (by rw [g2]; exact hkC) (by rw [g2]; exact va_assign hcls) rfl rfl hdg fun H1 e1 z oq => kk H1 _ (hz_stored (v := .ref j) hR hi e1 z oq) (hz_lc hl)
end HZA
