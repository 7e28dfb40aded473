/-! One instruction on such a world, as a condition on what comes behind it. All is written so that it computes. -/
def hz_n (k : Int) : Int32 := Int32.ofInt k
theorem hz_n_toInt {k : Int} (h : -2147483648 ≤ k ∧ k ≤ 2147483647) : (hz_n k).toInt = k := by
  unfold hz_n
  rw [Int32.toInt_ofInt]
  show Int.bmod k 4294967296 = k
  unfold Int.bmod
  simp only []
  split <;> omega
theorem hz_n8 {k : Int} (h : -128 ≤ k ∧ k ≤ 127) : (Int8.ofInt k).toInt32 = hz_n k := by
  apply Int32.toInt_inj.mp
  rw [Int8.toInt_toInt32, hz_n_toInt (by omega), Int8.toInt_ofInt]
  show Int.bmod k 256 = k
  unfold Int.bmod
  simp only []
  split <;> omega
theorem hz_n16 {k : Int} (h : -32768 ≤ k ∧ k ≤ 32767) : (Int16.ofInt k).toInt32 = hz_n k := by
  apply Int32.toInt_inj.mp
  rw [Int16.toInt_toInt32, hz_n_toInt (by omega), Int16.toInt_ofInt]
  show Int.bmod k 65536 = k
  unfold Int.bmod
  simp only []
  split <;> omega
/-- what is left of an int as a char -/
def hz_ch (x : Int32) : Int32 := (x.toUInt32 % 65536).toInt32
/-- the locals: no long among them -/
def hz_lo (b : Nat) (ls : Array Slot) (nL : Nat) (L : List (Option Value)) : Prop := L.length = nL ∧ ls.size = nL ∧ lv_wf ls ∧ ∀ (i : Nat) (v : Value), L[i]? = some (some v) → v.category = 1 ∧ ls[i]? = some (.val (hz_v b v))
def hz_as (b : Nat) (L : List (Option Value)) : List (Nat × Value) := (List.range L.length).filterMap fun i => match L[i]? with
  | some (some v) => some (i, hz_v b v)
  | _ => none
theorem hz_as_in {b : Nat} {L : List (Option Value)} {i : Nat} {v : Value} (h : L[i]? = some (some v)) : (i, hz_v b v) ∈ hz_as b L := by
  refine List.mem_filterMap.mpr ⟨i, List.mem_range.mpr (List.getElem?_eq_some_iff.mp h).1, ?_⟩
  rw [h]
theorem hz_lo.has {b nL : Nat} {ls : Array Slot} {L : List (Option Value)} (h : hz_lo b ls nL L) : lv_has ls nL (hz_as b L) := by
  refine ⟨h.2.1, h.2.2.1, fun q hq => ?_⟩
  obtain ⟨i, -, hi⟩ := List.mem_filterMap.mp hq
  split at hi
  · rename_i v hv
    cases hi
    exact (h.2.2.2 i v hv).2
  · cases hi
theorem hz_v_cat (b : Nat) (v : Value) : (hz_v b v).category = v.category := by cases v <;> rfl
theorem hz_lo.st1 {b nL i : Nat} {ls ls' : Array Slot} {L : List (Option Value)} {v : Value} (h : hz_lo b ls nL L) (hi : i < nL) (hv : v.category = 1)
    (h' : lv_has ls' nL ((i, hz_v b v) :: (hz_as b L).filter (fun q => !(q.1 == i) && !(q.1 + 1 == i && q.2.category == 2)))) : hz_lo b ls' nL (L.set i (some v)) := by
  refine ⟨by rw [List.length_set]; exact h.1, h'.1, h'.2.1, fun j w hj => ?_⟩
  rw [List.getElem?_set] at hj
  by_cases e : i = j
  · subst e
    rw [if_pos rfl, if_pos (by rw [h.1]; exact hi)] at hj
    cases hj
    exact ⟨hv, h'.2.2 (i, hz_v b v) List.mem_cons_self⟩
  · rw [if_neg e] at hj
    have hw := (h.2.2.2 j w hj).1
    refine ⟨hw, h'.2.2 (j, hz_v b w) (List.mem_cons_of_mem _ (List.mem_filter.mpr ⟨hz_as_in hj, ?_⟩))⟩
    have e1 : (j == i) = false := by simp; omega
    simp [e1, hz_v_cat, hw]
def hz_c (q : Jvm.ClassFile.Cond) (x y : Int) : Prop := match q with
  | .eq => x = y
  | .ne => ¬ x = y
  | .lt => x < y
  | .ge => y ≤ x
  | .gt => y < x
  | .le => x ≤ y
def hz_j (pc : Nat) (off : Int) (K : Nat → Prop) : Prop := match (pc : Int) + off with
  | .ofNat t => K t
  | .negSucc _ => False
def hz_tb (x : Int) : Int → List Int → (Int → Prop) → Prop
  | _, [], _ => True
  | lo, o :: os, K => (x = lo → K o) ∧ hz_tb x (lo + 1) os K
def hz_lk (x : Int) (d : Int) : List (Int × Int) → (Int → Prop) → Prop
  | [], K => K d
  | (a, o) :: r, K => (x = a → K o) ∧ (¬ x = a → hz_lk x d r K)
theorem hz_tb_at {x : Int} {K : Int → Prop} : ∀ {os : List Int} {lo : Int} {j : Nat} {o : Int}, hz_tb x lo os K → os[j]? = some o → x = lo + (j : Int) → K o
  | [], _, _, _, _, h, _ => by simp at h
  | o' :: os, lo, 0, o, h, h1, h2 => by
    simp at h1
    subst h1
    exact h.1 (by omega)
  | o' :: os, lo, j + 1, o, h, h1, h2 => by
    have h1' : os[j]? = some o := by simpa using h1
    exact hz_tb_at (lo := lo + 1) h.2 h1' (by omega)
theorem hz_lk_at {x d : Int} {K : Int → Prop} : ∀ {ps : List (Int × Int)}, hz_lk x d ps K → K (Op.lookupswitch.offset ps d x)
  | [], h => h
  | (a, o) :: r, h => by
    rw [Op.lookupswitch.offset_cons]
    by_cases e : a = x
    · rw [if_pos e]
      exact h.1 e.symm
    · rw [if_neg e]
      exact hz_lk_at (h.2 (fun q => e q.symm))
theorem hz_j_at {pc : Nat} {off : Int} {K : Nat → Prop} (h : hz_j pc off K) : ∃ t : Nat, (pc : Int) + off = (t : Int) ∧ K t := by
  unfold hz_j at h
  split at h
  · rename_i t e
    exact ⟨t, e, h⟩
  · exact h.elim
/-- the places that an instruction takes (but a switch) -/
def hz_w1 (ins : Instr) (len : Nat) : Bool := match ins with
  | .tableswitch _ _ _ _ => true
  | .lookupswitch _ _ => true
  | .bipush _ | .iload _ | .istore _ | .aload _ | .astore _ | .ldc _ => Nat.beq len 2
  | .sipush _ | .iinc _ _ | .ifCond _ _ | .if_icmp _ _ | .ifnull _ | .ifnonnull _ | .goto _ | .getfield _ | .putfield _ => Nat.beq len 3
  | _ => Nat.beq len 1
def hz_t (b : Bool) (K : Prop) : Prop := match b with
  | true => K
  | false => False
theorem hz_t_of {b : Bool} {K : Prop} (h : hz_t b K) : b = true ∧ K := by
  cases b
  · exact h.elim
  · exact ⟨rfl, h⟩
def hz_ldi (L : List (Option Value)) (i : Nat) (K : Value → Prop) : Prop := match L[i]? with
  | some (some (.int x)) => K (.int x)
  | _ => False
def hz_lda (L : List (Option Value)) (i : Nat) (K : Value → Prop) : Prop := match L[i]? with
  | some (some (.ref x)) => K (.ref x)
  | some (some .null) => K .null
  | _ => False
def hz_sti (L : List (Option Value)) (st : List Value) (i : Nat) (K : List (Option Value) → List Value → Prop) : Prop := match st with
  | .int x :: r => hz_t (Nat.blt i L.length) (K (L.set i (some (.int x))) r)
  | _ => False
def hz_sta (L : List (Option Value)) (st : List Value) (i : Nat) (K : List (Option Value) → List Value → Prop) : Prop := match st with
  | .ref x :: r => hz_t (Nat.blt i L.length) (K (L.set i (some (.ref x))) r)
  | .null :: r => hz_t (Nat.blt i L.length) (K (L.set i (some .null)) r)
  | _ => False
def hz_i1 (st : List Value) (K : Int32 → List Value → Prop) : Prop := match st with
  | .int x :: r => K x r
  | _ => False
def hz_i2 (st : List Value) (K : Int32 → Int32 → List Value → Prop) : Prop := match st with
  | .int y :: .int x :: r => K x y r
  | _ => False
def hz_l1 (st : List Value) (K : Int64 → List Value → Prop) : Prop := match st with
  | .long x :: r => K x r
  | _ => False
def hz_l2 (st : List Value) (K : Int64 → Int64 → List Value → Prop) : Prop := match st with
  | .long y :: .long x :: r => K x y r
  | _ => False
def hz_kI : FieldType → Bool
  | .int => true
  | _ => false
def hz_kC : FieldType → Bool
  | .char => true
  | _ => false
def hz_kZ : FieldType → Bool
  | .boolean => true
  | _ => false
def hz_kJ : FieldType → Bool
  | .long => true
  | _ => false
def hz_kA : FieldType → Bool
  | .object _ => true
  | _ => false
/-- an array's element -/
def hz_ea (KT : List FieldType) (ok : FieldType → Bool) (h : hz_H) (i : Nat) (x : Int32) (K : Value → Prop) : Prop := match h i with
  | some (.inl (t, len, f)) => (match KT[t]? with
    | some ty => hz_t (ok ty) ((0 ≤ x.toInt ∧ x.toInt.toNat < len) ∧ K (f x.toInt.toNat))
    | none => False)
  | _ => False
/-- .. and what is stored there -/
def hz_es (KT : List FieldType) (ok : FieldType → Bool) (h : hz_H) (i : Nat) (x : Int32) (v : Value) (K : hz_H → Prop) : Prop := match h i with
  | some (.inl (t, len, f)) => (match KT[t]? with
    | some ty => hz_t (ok ty) ((0 ≤ x.toInt ∧ x.toInt.toNat < len) ∧ K (hz_set h i (.inl (t, len, updV f x.toInt.toNat v))))
    | none => False)
  | _ => False
def hz_al (KT : List FieldType) (h : hz_H) (i : Nat) (K : Value → Prop) : Prop := match h i with
  | some (.inl (t, len, _)) => (match KT[t]? with
    | some _ => K (.int (hz_n len))
    | none => False)
  | _ => False
/-- a field -/
def hz_rd (h : hz_H) (i ci k : Nat) (K : Value → Prop) : Prop := match h i with
  | some (.inr (cj, fs)) => hz_t (Nat.beq cj ci) (match fs[k]? with
    | some v => K v
    | none => False)
  | _ => False
def hz_okf (ty : FieldType) (v : Value) (K : Prop) : Prop := match ty, v with
  | .int, .int _ => K
  | .object _, .ref _ => K
  | .object _, .null => K
  | .array _, .ref _ => K
  | .array _, .null => K
  | ty, v => (narrow ty v = v ∧ fits ty v = true) ∧ K
def hz_wr (h : hz_H) (i ci k : Nat) (v : Value) (K : hz_H → Prop) : Prop := match h i with
  | some (.inr (cj, fs)) => hz_t (Nat.beq cj ci && Nat.blt k fs.length) (K (hz_set h i (.inr (cj, fs.set k v))))
  | _ => False
/-- one instruction -/
def hz_s (cl : List vw_C) (KT : List FieldType) (fld : Nat → Option (Nat × Nat × FieldType × Bool)) (cn : Nat → Option Int32) (ins : Instr) (pc : Nat) (L : List (Option Value)) (st : List Value) (h : hz_H) (K S : Nat → List (Option Value) → List Value → hz_H → Prop) : Prop := match ins with
  | .iconst k => K (pc + 1) L (.int (hz_n k) :: st) h
  | .bipush k => hz_t (decide (-128 ≤ k ∧ k ≤ 127)) (K (pc + 2) L (.int (hz_n k) :: st) h)
  | .sipush k => hz_t (decide (-32768 ≤ k ∧ k ≤ 32767)) (K (pc + 3) L (.int (hz_n k) :: st) h)
  | .lconst k => K (pc + 1) L (.long (Int64.ofNat k) :: st) h
  | .aconst_null => K (pc + 1) L (.null :: st) h
  | .ldc i => (match cn i with
    | some v => K (pc + 2) L (.int v :: st) h
    | none => S pc L st h)
  | .iload_n i => hz_ldi L i fun v => K (pc + 1) L (v :: st) h
  | .iload i => hz_ldi L i fun v => K (pc + 2) L (v :: st) h
  | .aload_n i => hz_lda L i fun v => K (pc + 1) L (v :: st) h
  | .aload i => hz_lda L i fun v => K (pc + 2) L (v :: st) h
  | .istore_n i => hz_sti L st i fun L' r => K (pc + 1) L' r h
  | .istore i => hz_sti L st i fun L' r => K (pc + 2) L' r h
  | .astore_n i => hz_sta L st i fun L' r => K (pc + 1) L' r h
  | .astore i => hz_sta L st i fun L' r => K (pc + 2) L' r h
  | .iinc i k => (match L[i]? with
    | some (some (.int x)) => hz_t (Nat.blt i L.length) (K (pc + 3) (L.set i (some (.int (x + hz_n k)))) st h)
    | _ => False)
  | .iadd => hz_i2 st fun x y r => K (pc + 1) L (.int (x + y) :: r) h
  | .isub => hz_i2 st fun x y r => K (pc + 1) L (.int (x - y) :: r) h
  | .imul => hz_i2 st fun x y r => K (pc + 1) L (.int (x * y) :: r) h
  | .iand => hz_i2 st fun x y r => K (pc + 1) L (.int (x &&& y) :: r) h
  | .idiv => hz_i2 st fun x y r => ¬ y.toInt = 0 ∧ K (pc + 1) L (.int (x / y) :: r) h
  | .irem => hz_i2 st fun x y r => ¬ y.toInt = 0 ∧ K (pc + 1) L (.int (x - x / y * y) :: r) h
  | .ineg => hz_i1 st fun x r => K (pc + 1) L (.int (-x) :: r) h
  | .i2c => hz_i1 st fun x r => K (pc + 1) L (.int (hz_ch x) :: r) h
  | .i2l => hz_i1 st fun x r => K (pc + 1) L (.long x.toInt64 :: r) h
  | .l2i => hz_l1 st fun x r => K (pc + 1) L (.int x.toInt32 :: r) h
  | .lcmp => hz_l2 st fun x y r => K (pc + 1) L (.int (lg_cmp x y) :: r) h
  | .dup => (match st with
    | .ref v :: r => K (pc + 1) L (.ref v :: .ref v :: r) h
    | .int v :: r => K (pc + 1) L (.int v :: .int v :: r) h
    | _ => False)
  | .pop => (match st with
    | .ref _ :: r => K (pc + 1) L r h
    | .int _ :: r => K (pc + 1) L r h
    | _ => False)
  | .dup_x1 => (match st with
    | .int v :: .ref w :: r => K (pc + 1) L (.int v :: .ref w :: .int v :: r) h
    | _ => False)
  | .dup_x2 => (match st with
    | .int v :: .int w :: .ref u :: r => K (pc + 1) L (.int v :: .int w :: .ref u :: .int v :: r) h
    | _ => False)
  | .dup2 => (match st with
    | .int v :: .ref w :: r => K (pc + 1) L (.int v :: .ref w :: .int v :: .ref w :: r) h
    | _ => False)
  | .ifCond q off => hz_i1 st fun x r => hz_j pc off fun t => (hz_c q x.toInt 0 → K t L r h) ∧ (¬ hz_c q x.toInt 0 → K (pc + 3) L r h)
  | .if_icmp q off => hz_i2 st fun x y r => hz_j pc off fun t => (hz_c q x.toInt y.toInt → K t L r h) ∧ (¬ hz_c q x.toInt y.toInt → K (pc + 3) L r h)
  | .ifnull off => (match st with
    | .ref _ :: r => K (pc + 3) L r h
    | .null :: r => hz_j pc off fun t => K t L r h
    | _ => False)
  | .ifnonnull off => (match st with
    | .ref _ :: r => hz_j pc off fun t => K t L r h
    | .null :: r => K (pc + 3) L r h
    | _ => False)
  | .goto off => hz_j pc off fun t => K t L st h
  | .tableswitch d lo hi offs => hz_i1 st fun x r => hz_t (Nat.beq offs.size (hi - lo + 1).toNat) (((x.toInt < lo ∨ hi < x.toInt) → hz_j pc d fun t => K t L r h) ∧ hz_tb x.toInt lo offs.toList fun o => hz_j pc o fun t => K t L r h)
  | .lookupswitch d ps => hz_i1 st fun x r => hz_t ((ps.toList.zip (ps.toList.drop 1)).all (fun (a, next) => a.1 < next.1)) (hz_lk x.toInt d ps.toList fun o => hz_j pc o fun t => K t L r h)
  | .getfield i => (match st, fld i with
    | .ref a :: r, some (ci, k, _, _) => hz_rd h a ci k fun v => K (pc + 3) L (v :: r) h
    | _, _ => False)
  | .putfield i => (match st, fld i with
    | v :: .ref a :: r, some (ci, k, ty, true) => hz_okf ty v (hz_wr h a ci k v fun h' => K (pc + 3) L r h')
    | _, _ => False)
  | .iaload => (match st with
    | .int x :: .ref i :: r => hz_ea KT hz_kI h i x fun v => K (pc + 1) L (v :: r) h
    | _ => False)
  | .caload => (match st with
    | .int x :: .ref i :: r => hz_ea KT hz_kC h i x fun v => K (pc + 1) L (v :: r) h
    | _ => False)
  | .baload => (match st with
    | .int x :: .ref i :: r => hz_ea KT hz_kZ h i x fun v => K (pc + 1) L (v :: r) h
    | _ => False)
  | .laload => (match st with
    | .int x :: .ref i :: r => hz_ea KT hz_kJ h i x fun v => K (pc + 1) L (v :: r) h
    | _ => False)
  | .aaload => (match st with
    | .int x :: .ref i :: r => hz_ea KT hz_kA h i x fun v => K (pc + 1) L (v :: r) h
    | _ => False)
  | .iastore => (match st with
    | .int y :: .int x :: .ref i :: r => hz_es KT hz_kI h i x (.int y) fun h' => K (pc + 1) L r h'
    | _ => False)
  | .castore => (match st with
    | .int y :: .int x :: .ref i :: r => narrow .char (.int y) = .int y ∧ hz_es KT hz_kC h i x (.int y) fun h' => K (pc + 1) L r h'
    | _ => False)
  | .bastore => (match st with
    | .int y :: .int x :: .ref i :: r => narrow .boolean (.int y) = .int y ∧ hz_es KT hz_kZ h i x (.int y) fun h' => K (pc + 1) L r h'
    | _ => False)
  | .lastore => (match st with
    | .long y :: .int x :: .ref i :: r => hz_es KT hz_kJ h i x (.long y) fun h' => K (pc + 1) L r h'
    | _ => False)
  | .arraylength => (match st with
    | .ref i :: r => hz_al KT h i fun v => K (pc + 1) L (v :: r) h
    | _ => False)
  | _ => S pc L st h
/-- many -/
def hz_w (cl : List vw_C) (KT : List FieldType) (fld : Nat → Option (Nat × Nat × FieldType × Bool)) (cn : Nat → Option Int32) (cc : ByteArray) (cuts : List Nat) (S : Nat → List (Option Value) → List Value → hz_H → Prop) : Nat → Nat → List (Option Value) → List Value → hz_H → Prop
  | 0, pc, L, st, h => S pc L st h
  | f + 1, pc, L, st, h => match decode cc pc with
    | .ok (ins, len) => hz_s cl KT fld cn ins pc L st h (fun pc' L' st' h' => hz_t (hz_w1 ins len) (match cuts.contains pc' with
      | true => S pc' L' st' h'
      | false => hz_w cl KT fld cn cc cuts S f pc' L' st' h')) S
    | _ => S pc L st h
theorem hz_w_at {cl : List vw_C} {KT : List FieldType} {fld : Nat → Option (Nat × Nat × FieldType × Bool)} {cn : Nat → Option Int32} {cc : ByteArray} {cuts : List Nat} {S : Nat → List (Option Value) → List Value → hz_H → Prop} {f pc : Nat} {L : List (Option Value)} {st : List Value} {h : hz_H} {ins : Instr} {len : Nat} (hd : decode cc pc = .ok (ins, len)) :
    hz_w cl KT fld cn cc cuts S (f + 1) pc L st h = hz_s cl KT fld cn ins pc L st h (fun pc' L' st' h' => hz_t (hz_w1 ins len) (match cuts.contains pc' with
      | true => S pc' L' st' h'
      | false => hz_w cl KT fld cn cc cuts S f pc' L' st' h')) S := by
  rw [hz_w, hd]
