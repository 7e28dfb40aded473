/-! Tables of fields by their numbers in the constant pools, and the words of the calls. Printed by wip/genparts.py. -/
def f_F : Nat → Option (Nat × Nat × FieldType × Bool) := fun k => match k with
  | 9 => some (4, 0, .array .char, false)
  | 13 => some (4, 1, .int, true)
  | 20 => some (4, 2, .object "LazyGraphs$Graph", false)
  | 27 => some (4, 3, .object "LazyGraphs$Writer", false)
  | 49 => some (1, 0, .array (.object "LazyGraphs$Definition"), false)
  | 80 => some (1, 13, .int, true)
  | 83 => some (3, 1, .int, true)
  | 86 => some (1, 12, .int, true)
  | 89 => some (3, 0, .array .char, false)
  | _ => none
set_option maxHeartbeats 1000000 in
theorem ft_F {G : hz_G} {y : MethodName} {cc : ByteArray} {nL : Nat} {ret : Option FieldType} {p : Program} {s : State} {m : MethodId} {args : Array Value} {meth : Method} {c : Code} (B : hz_B lw_tbl zAO zCl zKT G y cc nL ret p s m args meth c) (hy : y.cls = R_F) : hz_FT G s m args meth f_F := by
  intro idx ci k ty wr h
  unfold f_F at h
  split at h
  · cases h
    exact hz_Fof (C := R_F) (T := T_F) (N := 4) B rfl in_F (by decide) (Or.inl (by rw [hy]; exact hz_T_in 179 (by decide +kernel) (by decide +kernel))) (by decide +kernel) (fun z => nomatch z)
  · cases h
    exact hz_Fof (C := R_F) (T := T_F) (N := 4) B rfl in_F (by decide) (Or.inl (by rw [hy]; exact hz_T_in 180 (by decide +kernel) (by decide +kernel))) (by decide +kernel) (fun _ => Or.inl rfl)
  · cases h
    exact hz_Fof (C := R_F) (T := T_F) (N := 4) B rfl in_F (by decide) (Or.inl (by rw [hy]; exact hz_T_in 181 (by decide +kernel) (by decide +kernel))) (by decide +kernel) (fun z => nomatch z)
  · cases h
    exact hz_Fof (C := R_F) (T := T_F) (N := 4) B rfl in_F (by decide) (Or.inl (by rw [hy]; exact hz_T_in 182 (by decide +kernel) (by decide +kernel))) (by decide +kernel) (fun z => nomatch z)
  · cases h
    exact hz_Fof (C := R_G) (T := T_G) (N := 14) B rfl in_G (by decide) (Or.inr ⟨"LazyGraphs", by rw [hy]; exact List.mem_of_getElem? (i := 102) (by decide +kernel)⟩) (by decide +kernel) (fun z => nomatch z)
  · cases h
    exact hz_Fof (C := R_G) (T := T_G) (N := 14) B rfl in_G (by decide) (Or.inr ⟨"LazyGraphs", by rw [hy]; exact List.mem_of_getElem? (i := 120) (by decide +kernel)⟩) (by decide +kernel) (fun _ => Or.inl rfl)
  · cases h
    exact hz_Fof (C := R_W) (T := T_W) (N := 6) B rfl in_W (by decide) (Or.inr ⟨"LazyGraphs", by rw [hy]; exact List.mem_of_getElem? (i := 161) (by decide +kernel)⟩) (by decide +kernel) (fun _ => Or.inl rfl)
  · cases h
    exact hz_Fof (C := R_G) (T := T_G) (N := 14) B rfl in_G (by decide) (Or.inr ⟨"LazyGraphs", by rw [hy]; exact List.mem_of_getElem? (i := 117) (by decide +kernel)⟩) (by decide +kernel) (fun _ => Or.inl rfl)
  · cases h
    exact hz_Fof (C := R_W) (T := T_W) (N := 6) B rfl in_W (by decide) (Or.inr ⟨"LazyGraphs", by rw [hy]; exact List.mem_of_getElem? (i := 159) (by decide +kernel)⟩) (by decide +kernel) (fun z => nomatch z)
  · cases h
def f_Fi : Nat → Option (Nat × Nat × FieldType × Bool) := fun k => match k with
  | 9 => some (4, 0, .array .char, true)
  | 13 => some (4, 1, .int, true)
  | 20 => some (4, 2, .object "LazyGraphs$Graph", true)
  | 27 => some (4, 3, .object "LazyGraphs$Writer", true)
  | 49 => some (1, 0, .array (.object "LazyGraphs$Definition"), false)
  | 80 => some (1, 13, .int, true)
  | 83 => some (3, 1, .int, true)
  | 86 => some (1, 12, .int, true)
  | 89 => some (3, 0, .array .char, false)
  | _ => none
set_option maxHeartbeats 1000000 in
theorem ft_Fi {G : hz_G} {y : MethodName} {cc : ByteArray} {nL : Nat} {ret : Option FieldType} {p : Program} {s : State} {m : MethodId} {args : Array Value} {meth : Method} {c : Code} (B : hz_B lw_tbl zAO zCl zKT G y cc nL ret p s m args meth c) (hy : y.cls = R_F) (hi : y.name = "<init>") : hz_FT G s m args meth f_Fi := by
  intro idx ci k ty wr h
  unfold f_Fi at h
  split at h
  · cases h
    exact hz_Fof (C := R_F) (T := T_F) (N := 4) B rfl in_F (by decide) (Or.inl (by rw [hy]; exact hz_T_in 179 (by decide +kernel) (by decide +kernel))) (by decide +kernel) (fun _ => Or.inr ⟨rfl, by rw [hy]; rfl, hi⟩)
  · cases h
    exact hz_Fof (C := R_F) (T := T_F) (N := 4) B rfl in_F (by decide) (Or.inl (by rw [hy]; exact hz_T_in 180 (by decide +kernel) (by decide +kernel))) (by decide +kernel) (fun _ => Or.inl rfl)
  · cases h
    exact hz_Fof (C := R_F) (T := T_F) (N := 4) B rfl in_F (by decide) (Or.inl (by rw [hy]; exact hz_T_in 181 (by decide +kernel) (by decide +kernel))) (by decide +kernel) (fun _ => Or.inr ⟨rfl, by rw [hy]; rfl, hi⟩)
  · cases h
    exact hz_Fof (C := R_F) (T := T_F) (N := 4) B rfl in_F (by decide) (Or.inl (by rw [hy]; exact hz_T_in 182 (by decide +kernel) (by decide +kernel))) (by decide +kernel) (fun _ => Or.inr ⟨rfl, by rw [hy]; rfl, hi⟩)
  · cases h
    exact hz_Fof (C := R_G) (T := T_G) (N := 14) B rfl in_G (by decide) (Or.inr ⟨"LazyGraphs", by rw [hy]; exact List.mem_of_getElem? (i := 102) (by decide +kernel)⟩) (by decide +kernel) (fun z => nomatch z)
  · cases h
    exact hz_Fof (C := R_G) (T := T_G) (N := 14) B rfl in_G (by decide) (Or.inr ⟨"LazyGraphs", by rw [hy]; exact List.mem_of_getElem? (i := 120) (by decide +kernel)⟩) (by decide +kernel) (fun _ => Or.inl rfl)
  · cases h
    exact hz_Fof (C := R_W) (T := T_W) (N := 6) B rfl in_W (by decide) (Or.inr ⟨"LazyGraphs", by rw [hy]; exact List.mem_of_getElem? (i := 161) (by decide +kernel)⟩) (by decide +kernel) (fun _ => Or.inl rfl)
  · cases h
    exact hz_Fof (C := R_G) (T := T_G) (N := 14) B rfl in_G (by decide) (Or.inr ⟨"LazyGraphs", by rw [hy]; exact List.mem_of_getElem? (i := 117) (by decide +kernel)⟩) (by decide +kernel) (fun _ => Or.inl rfl)
  · cases h
    exact hz_Fof (C := R_W) (T := T_W) (N := 6) B rfl in_W (by decide) (Or.inr ⟨"LazyGraphs", by rw [hy]; exact List.mem_of_getElem? (i := 159) (by decide +kernel)⟩) (by decide +kernel) (fun z => nomatch z)
  · cases h
def n_F : Nat → Option Int32 := fun k => match k with
  | _ => none
theorem cn_F {G : hz_G} {y : MethodName} {cc : ByteArray} {nL : Nat} {ret : Option FieldType} {p : Program} {s : State} {m : MethodId} {args : Array Value} {meth : Method} {c : Code} (B : hz_B lw_tbl zAO zCl zKT G y cc nL ret p s m args meth c) (hy : y.cls = R_F) : hz_CN s m args n_F := by
  intro idx v h
  unfold n_F at h
  cases h
def f_D : Nat → Option (Nat × Nat × FieldType × Bool) := fun k => match k with
  | 7 => some (0, 3, .int, true)
  | 13 => some (0, 0, .array .char, false)
  | 17 => some (0, 1, .array .int, false)
  | 21 => some (0, 2, .array .int, false)
  | _ => none
set_option maxHeartbeats 1000000 in
theorem ft_D {G : hz_G} {y : MethodName} {cc : ByteArray} {nL : Nat} {ret : Option FieldType} {p : Program} {s : State} {m : MethodId} {args : Array Value} {meth : Method} {c : Code} (B : hz_B lw_tbl zAO zCl zKT G y cc nL ret p s m args meth c) (hy : y.cls = R_D) : hz_FT G s m args meth f_D := by
  intro idx ci k ty wr h
  unfold f_D at h
  split at h
  · cases h
    exact hz_Fof (C := R_D) (T := T_D) (N := 4) B rfl in_D (by decide) (Or.inl (by rw [hy]; exact hz_T_in 319 (by decide +kernel) (by decide +kernel))) (by decide +kernel) (fun _ => Or.inl rfl)
  · cases h
    exact hz_Fof (C := R_D) (T := T_D) (N := 4) B rfl in_D (by decide) (Or.inl (by rw [hy]; exact hz_T_in 310 (by decide +kernel) (by decide +kernel))) (by decide +kernel) (fun z => nomatch z)
  · cases h
    exact hz_Fof (C := R_D) (T := T_D) (N := 4) B rfl in_D (by decide) (Or.inl (by rw [hy]; exact hz_T_in 313 (by decide +kernel) (by decide +kernel))) (by decide +kernel) (fun z => nomatch z)
  · cases h
    exact hz_Fof (C := R_D) (T := T_D) (N := 4) B rfl in_D (by decide) (Or.inl (by rw [hy]; exact hz_T_in 316 (by decide +kernel) (by decide +kernel))) (by decide +kernel) (fun z => nomatch z)
  · cases h
def f_Di : Nat → Option (Nat × Nat × FieldType × Bool) := fun k => match k with
  | 7 => some (0, 3, .int, true)
  | 13 => some (0, 0, .array .char, true)
  | 17 => some (0, 1, .array .int, true)
  | 21 => some (0, 2, .array .int, true)
  | _ => none
set_option maxHeartbeats 1000000 in
theorem ft_Di {G : hz_G} {y : MethodName} {cc : ByteArray} {nL : Nat} {ret : Option FieldType} {p : Program} {s : State} {m : MethodId} {args : Array Value} {meth : Method} {c : Code} (B : hz_B lw_tbl zAO zCl zKT G y cc nL ret p s m args meth c) (hy : y.cls = R_D) (hi : y.name = "<init>") : hz_FT G s m args meth f_Di := by
  intro idx ci k ty wr h
  unfold f_Di at h
  split at h
  · cases h
    exact hz_Fof (C := R_D) (T := T_D) (N := 4) B rfl in_D (by decide) (Or.inl (by rw [hy]; exact hz_T_in 319 (by decide +kernel) (by decide +kernel))) (by decide +kernel) (fun _ => Or.inl rfl)
  · cases h
    exact hz_Fof (C := R_D) (T := T_D) (N := 4) B rfl in_D (by decide) (Or.inl (by rw [hy]; exact hz_T_in 310 (by decide +kernel) (by decide +kernel))) (by decide +kernel) (fun _ => Or.inr ⟨rfl, by rw [hy]; rfl, hi⟩)
  · cases h
    exact hz_Fof (C := R_D) (T := T_D) (N := 4) B rfl in_D (by decide) (Or.inl (by rw [hy]; exact hz_T_in 313 (by decide +kernel) (by decide +kernel))) (by decide +kernel) (fun _ => Or.inr ⟨rfl, by rw [hy]; rfl, hi⟩)
  · cases h
    exact hz_Fof (C := R_D) (T := T_D) (N := 4) B rfl in_D (by decide) (Or.inl (by rw [hy]; exact hz_T_in 316 (by decide +kernel) (by decide +kernel))) (by decide +kernel) (fun _ => Or.inr ⟨rfl, by rw [hy]; rfl, hi⟩)
  · cases h
def n_D : Nat → Option Int32 := fun k => match k with
  | _ => none
theorem cn_D {G : hz_G} {y : MethodName} {cc : ByteArray} {nL : Nat} {ret : Option FieldType} {p : Program} {s : State} {m : MethodId} {args : Array Value} {meth : Method} {c : Code} (B : hz_B lw_tbl zAO zCl zKT G y cc nL ret p s m args meth c) (hy : y.cls = R_D) : hz_CN s m args n_D := by
  intro idx v h
  unfold n_D at h
  cases h
def f_G : Nat → Option (Nat × Nat × FieldType × Bool) := fun k => match k with
  | 11 => some (1, 0, .array (.object "LazyGraphs$Definition"), false)
  | 17 => some (1, 1, .array (.object "LazyGraphs$Definition"), false)
  | 20 => some (1, 2, .array .int, false)
  | 24 => some (1, 3, .array .int, false)
  | 27 => some (1, 4, .array .int, false)
  | 30 => some (1, 5, .array .int, false)
  | 33 => some (1, 6, .array .int, false)
  | 36 => some (1, 7, .array .int, false)
  | 39 => some (1, 8, .array .int, false)
  | 42 => some (1, 9, .int, true)
  | 46 => some (1, 10, .int, true)
  | 49 => some (1, 11, .int, true)
  | 52 => some (1, 12, .int, true)
  | 55 => some (1, 13, .int, true)
  | 58 => some (0, 3, .int, true)
  | 82 => some (0, 0, .array .char, false)
  | 93 => some (0, 2, .array .int, false)
  | 142 => some (0, 1, .array .int, false)
  | _ => none
set_option maxHeartbeats 1000000 in
theorem ft_G {G : hz_G} {y : MethodName} {cc : ByteArray} {nL : Nat} {ret : Option FieldType} {p : Program} {s : State} {m : MethodId} {args : Array Value} {meth : Method} {c : Code} (B : hz_B lw_tbl zAO zCl zKT G y cc nL ret p s m args meth c) (hy : y.cls = R_G) : hz_FT G s m args meth f_G := by
  intro idx ci k ty wr h
  unfold f_G at h
  split at h
  · cases h
    exact hz_Fof (C := R_G) (T := T_G) (N := 14) B rfl in_G (by decide) (Or.inl (by rw [hy]; exact hz_T_in 101 (by decide +kernel) (by decide +kernel))) (by decide +kernel) (fun z => nomatch z)
  · cases h
    exact hz_Fof (C := R_G) (T := T_G) (N := 14) B rfl in_G (by decide) (Or.inl (by rw [hy]; exact hz_T_in 103 (by decide +kernel) (by decide +kernel))) (by decide +kernel) (fun z => nomatch z)
  · cases h
    exact hz_Fof (C := R_G) (T := T_G) (N := 14) B rfl in_G (by decide) (Or.inl (by rw [hy]; exact hz_T_in 104 (by decide +kernel) (by decide +kernel))) (by decide +kernel) (fun z => nomatch z)
  · cases h
    exact hz_Fof (C := R_G) (T := T_G) (N := 14) B rfl in_G (by decide) (Or.inl (by rw [hy]; exact hz_T_in 105 (by decide +kernel) (by decide +kernel))) (by decide +kernel) (fun z => nomatch z)
  · cases h
    exact hz_Fof (C := R_G) (T := T_G) (N := 14) B rfl in_G (by decide) (Or.inl (by rw [hy]; exact hz_T_in 107 (by decide +kernel) (by decide +kernel))) (by decide +kernel) (fun z => nomatch z)
  · cases h
    exact hz_Fof (C := R_G) (T := T_G) (N := 14) B rfl in_G (by decide) (Or.inl (by rw [hy]; exact hz_T_in 109 (by decide +kernel) (by decide +kernel))) (by decide +kernel) (fun z => nomatch z)
  · cases h
    exact hz_Fof (C := R_G) (T := T_G) (N := 14) B rfl in_G (by decide) (Or.inl (by rw [hy]; exact hz_T_in 110 (by decide +kernel) (by decide +kernel))) (by decide +kernel) (fun z => nomatch z)
  · cases h
    exact hz_Fof (C := R_G) (T := T_G) (N := 14) B rfl in_G (by decide) (Or.inl (by rw [hy]; exact hz_T_in 111 (by decide +kernel) (by decide +kernel))) (by decide +kernel) (fun z => nomatch z)
  · cases h
    exact hz_Fof (C := R_G) (T := T_G) (N := 14) B rfl in_G (by decide) (Or.inl (by rw [hy]; exact hz_T_in 112 (by decide +kernel) (by decide +kernel))) (by decide +kernel) (fun z => nomatch z)
  · cases h
    exact hz_Fof (C := R_G) (T := T_G) (N := 14) B rfl in_G (by decide) (Or.inl (by rw [hy]; exact hz_T_in 113 (by decide +kernel) (by decide +kernel))) (by decide +kernel) (fun _ => Or.inl rfl)
  · cases h
    exact hz_Fof (C := R_G) (T := T_G) (N := 14) B rfl in_G (by decide) (Or.inl (by rw [hy]; exact hz_T_in 114 (by decide +kernel) (by decide +kernel))) (by decide +kernel) (fun _ => Or.inl rfl)
  · cases h
    exact hz_Fof (C := R_G) (T := T_G) (N := 14) B rfl in_G (by decide) (Or.inl (by rw [hy]; exact hz_T_in 115 (by decide +kernel) (by decide +kernel))) (by decide +kernel) (fun _ => Or.inl rfl)
  · cases h
    exact hz_Fof (C := R_G) (T := T_G) (N := 14) B rfl in_G (by decide) (Or.inl (by rw [hy]; exact hz_T_in 116 (by decide +kernel) (by decide +kernel))) (by decide +kernel) (fun _ => Or.inl rfl)
  · cases h
    exact hz_Fof (C := R_G) (T := T_G) (N := 14) B rfl in_G (by decide) (Or.inl (by rw [hy]; exact hz_T_in 118 (by decide +kernel) (by decide +kernel))) (by decide +kernel) (fun _ => Or.inl rfl)
  · cases h
    exact hz_Fof (C := R_D) (T := T_D) (N := 4) B rfl in_D (by decide) (Or.inr ⟨"LazyGraphs", by rw [hy]; exact List.mem_of_getElem? (i := 320) (by decide +kernel)⟩) (by decide +kernel) (fun _ => Or.inl rfl)
  · cases h
    exact hz_Fof (C := R_D) (T := T_D) (N := 4) B rfl in_D (by decide) (Or.inr ⟨"LazyGraphs", by rw [hy]; exact List.mem_of_getElem? (i := 312) (by decide +kernel)⟩) (by decide +kernel) (fun z => nomatch z)
  · cases h
    exact hz_Fof (C := R_D) (T := T_D) (N := 4) B rfl in_D (by decide) (Or.inr ⟨"LazyGraphs", by rw [hy]; exact List.mem_of_getElem? (i := 318) (by decide +kernel)⟩) (by decide +kernel) (fun z => nomatch z)
  · cases h
    exact hz_Fof (C := R_D) (T := T_D) (N := 4) B rfl in_D (by decide) (Or.inr ⟨"LazyGraphs", by rw [hy]; exact List.mem_of_getElem? (i := 315) (by decide +kernel)⟩) (by decide +kernel) (fun z => nomatch z)
  · cases h
def f_Gi : Nat → Option (Nat × Nat × FieldType × Bool) := fun k => match k with
  | 11 => some (1, 0, .array (.object "LazyGraphs$Definition"), true)
  | 17 => some (1, 1, .array (.object "LazyGraphs$Definition"), true)
  | 20 => some (1, 2, .array .int, true)
  | 24 => some (1, 3, .array .int, true)
  | 27 => some (1, 4, .array .int, true)
  | 30 => some (1, 5, .array .int, true)
  | 33 => some (1, 6, .array .int, true)
  | 36 => some (1, 7, .array .int, true)
  | 39 => some (1, 8, .array .int, true)
  | 42 => some (1, 9, .int, true)
  | 46 => some (1, 10, .int, true)
  | 49 => some (1, 11, .int, true)
  | 52 => some (1, 12, .int, true)
  | 55 => some (1, 13, .int, true)
  | 58 => some (0, 3, .int, true)
  | 82 => some (0, 0, .array .char, false)
  | 93 => some (0, 2, .array .int, false)
  | 142 => some (0, 1, .array .int, false)
  | _ => none
set_option maxHeartbeats 1000000 in
theorem ft_Gi {G : hz_G} {y : MethodName} {cc : ByteArray} {nL : Nat} {ret : Option FieldType} {p : Program} {s : State} {m : MethodId} {args : Array Value} {meth : Method} {c : Code} (B : hz_B lw_tbl zAO zCl zKT G y cc nL ret p s m args meth c) (hy : y.cls = R_G) (hi : y.name = "<init>") : hz_FT G s m args meth f_Gi := by
  intro idx ci k ty wr h
  unfold f_Gi at h
  split at h
  · cases h
    exact hz_Fof (C := R_G) (T := T_G) (N := 14) B rfl in_G (by decide) (Or.inl (by rw [hy]; exact hz_T_in 101 (by decide +kernel) (by decide +kernel))) (by decide +kernel) (fun _ => Or.inr ⟨rfl, by rw [hy]; rfl, hi⟩)
  · cases h
    exact hz_Fof (C := R_G) (T := T_G) (N := 14) B rfl in_G (by decide) (Or.inl (by rw [hy]; exact hz_T_in 103 (by decide +kernel) (by decide +kernel))) (by decide +kernel) (fun _ => Or.inr ⟨rfl, by rw [hy]; rfl, hi⟩)
  · cases h
    exact hz_Fof (C := R_G) (T := T_G) (N := 14) B rfl in_G (by decide) (Or.inl (by rw [hy]; exact hz_T_in 104 (by decide +kernel) (by decide +kernel))) (by decide +kernel) (fun _ => Or.inr ⟨rfl, by rw [hy]; rfl, hi⟩)
  · cases h
    exact hz_Fof (C := R_G) (T := T_G) (N := 14) B rfl in_G (by decide) (Or.inl (by rw [hy]; exact hz_T_in 105 (by decide +kernel) (by decide +kernel))) (by decide +kernel) (fun _ => Or.inr ⟨rfl, by rw [hy]; rfl, hi⟩)
  · cases h
    exact hz_Fof (C := R_G) (T := T_G) (N := 14) B rfl in_G (by decide) (Or.inl (by rw [hy]; exact hz_T_in 107 (by decide +kernel) (by decide +kernel))) (by decide +kernel) (fun _ => Or.inr ⟨rfl, by rw [hy]; rfl, hi⟩)
  · cases h
    exact hz_Fof (C := R_G) (T := T_G) (N := 14) B rfl in_G (by decide) (Or.inl (by rw [hy]; exact hz_T_in 109 (by decide +kernel) (by decide +kernel))) (by decide +kernel) (fun _ => Or.inr ⟨rfl, by rw [hy]; rfl, hi⟩)
  · cases h
    exact hz_Fof (C := R_G) (T := T_G) (N := 14) B rfl in_G (by decide) (Or.inl (by rw [hy]; exact hz_T_in 110 (by decide +kernel) (by decide +kernel))) (by decide +kernel) (fun _ => Or.inr ⟨rfl, by rw [hy]; rfl, hi⟩)
  · cases h
    exact hz_Fof (C := R_G) (T := T_G) (N := 14) B rfl in_G (by decide) (Or.inl (by rw [hy]; exact hz_T_in 111 (by decide +kernel) (by decide +kernel))) (by decide +kernel) (fun _ => Or.inr ⟨rfl, by rw [hy]; rfl, hi⟩)
  · cases h
    exact hz_Fof (C := R_G) (T := T_G) (N := 14) B rfl in_G (by decide) (Or.inl (by rw [hy]; exact hz_T_in 112 (by decide +kernel) (by decide +kernel))) (by decide +kernel) (fun _ => Or.inr ⟨rfl, by rw [hy]; rfl, hi⟩)
  · cases h
    exact hz_Fof (C := R_G) (T := T_G) (N := 14) B rfl in_G (by decide) (Or.inl (by rw [hy]; exact hz_T_in 113 (by decide +kernel) (by decide +kernel))) (by decide +kernel) (fun _ => Or.inl rfl)
  · cases h
    exact hz_Fof (C := R_G) (T := T_G) (N := 14) B rfl in_G (by decide) (Or.inl (by rw [hy]; exact hz_T_in 114 (by decide +kernel) (by decide +kernel))) (by decide +kernel) (fun _ => Or.inl rfl)
  · cases h
    exact hz_Fof (C := R_G) (T := T_G) (N := 14) B rfl in_G (by decide) (Or.inl (by rw [hy]; exact hz_T_in 115 (by decide +kernel) (by decide +kernel))) (by decide +kernel) (fun _ => Or.inl rfl)
  · cases h
    exact hz_Fof (C := R_G) (T := T_G) (N := 14) B rfl in_G (by decide) (Or.inl (by rw [hy]; exact hz_T_in 116 (by decide +kernel) (by decide +kernel))) (by decide +kernel) (fun _ => Or.inl rfl)
  · cases h
    exact hz_Fof (C := R_G) (T := T_G) (N := 14) B rfl in_G (by decide) (Or.inl (by rw [hy]; exact hz_T_in 118 (by decide +kernel) (by decide +kernel))) (by decide +kernel) (fun _ => Or.inl rfl)
  · cases h
    exact hz_Fof (C := R_D) (T := T_D) (N := 4) B rfl in_D (by decide) (Or.inr ⟨"LazyGraphs", by rw [hy]; exact List.mem_of_getElem? (i := 320) (by decide +kernel)⟩) (by decide +kernel) (fun _ => Or.inl rfl)
  · cases h
    exact hz_Fof (C := R_D) (T := T_D) (N := 4) B rfl in_D (by decide) (Or.inr ⟨"LazyGraphs", by rw [hy]; exact List.mem_of_getElem? (i := 312) (by decide +kernel)⟩) (by decide +kernel) (fun z => nomatch z)
  · cases h
    exact hz_Fof (C := R_D) (T := T_D) (N := 4) B rfl in_D (by decide) (Or.inr ⟨"LazyGraphs", by rw [hy]; exact List.mem_of_getElem? (i := 318) (by decide +kernel)⟩) (by decide +kernel) (fun z => nomatch z)
  · cases h
    exact hz_Fof (C := R_D) (T := T_D) (N := 4) B rfl in_D (by decide) (Or.inr ⟨"LazyGraphs", by rw [hy]; exact List.mem_of_getElem? (i := 315) (by decide +kernel)⟩) (by decide +kernel) (fun z => nomatch z)
  · cases h
def n_G : Nat → Option Int32 := fun k => match k with
  | 65 => some (1000000 : Int32)
  | _ => none
theorem cn_G {G : hz_G} {y : MethodName} {cc : ByteArray} {nL : Nat} {ret : Option FieldType} {p : Program} {s : State} {m : MethodId} {args : Array Value} {meth : Method} {c : Code} (B : hz_B lw_tbl zAO zCl zKT G y cc nL ret p s m args meth c) (hy : y.cls = R_G) : hz_CN s m args n_G := by
  intro idx v h
  unfold n_G at h
  split at h
  · cases h
    exact ⟨y.cls, B.2.2.2.2.2.2.1, B.2.2.2.2.2.1 _ (by rw [hy]; exact hz_T_in 469 (by decide +kernel) (by decide +kernel))⟩
  · cases h
def f_R : Nat → Option (Nat × Nat × FieldType × Bool) := fun k => match k with
  | 9 => some (2, 1, .array .int, false)
  | 15 => some (2, 2, .int, true)
  | 19 => some (2, 3, .boolean, true)
  | 23 => some (2, 4, .int, true)
  | 26 => some (2, 0, .object "LazyGraphs$Definition", false)
  | 37 => some (0, 0, .array .char, false)
  | 43 => some (0, 3, .int, true)
  | 62 => some (0, 1, .array .int, false)
  | 78 => some (0, 2, .array .int, false)
  | _ => none
set_option maxHeartbeats 1000000 in
theorem ft_R {G : hz_G} {y : MethodName} {cc : ByteArray} {nL : Nat} {ret : Option FieldType} {p : Program} {s : State} {m : MethodId} {args : Array Value} {meth : Method} {c : Code} (B : hz_B lw_tbl zAO zCl zKT G y cc nL ret p s m args meth c) (hy : y.cls = R_R) : hz_FT G s m args meth f_R := by
  intro idx ci k ty wr h
  unfold f_R at h
  split at h
  · cases h
    exact hz_Fof (C := R_R) (T := T_R) (N := 5) B rfl in_R (by decide) (Or.inl (by rw [hy]; exact hz_T_in 338 (by decide +kernel) (by decide +kernel))) (by decide +kernel) (fun z => nomatch z)
  · cases h
    exact hz_Fof (C := R_R) (T := T_R) (N := 5) B rfl in_R (by decide) (Or.inl (by rw [hy]; exact hz_T_in 339 (by decide +kernel) (by decide +kernel))) (by decide +kernel) (fun _ => Or.inl rfl)
  · cases h
    exact hz_Fof (C := R_R) (T := T_R) (N := 5) B rfl in_R (by decide) (Or.inl (by rw [hy]; exact hz_T_in 340 (by decide +kernel) (by decide +kernel))) (by decide +kernel) (fun _ => Or.inl rfl)
  · cases h
    exact hz_Fof (C := R_R) (T := T_R) (N := 5) B rfl in_R (by decide) (Or.inl (by rw [hy]; exact hz_T_in 341 (by decide +kernel) (by decide +kernel))) (by decide +kernel) (fun _ => Or.inl rfl)
  · cases h
    exact hz_Fof (C := R_R) (T := T_R) (N := 5) B rfl in_R (by decide) (Or.inl (by rw [hy]; exact hz_T_in 337 (by decide +kernel) (by decide +kernel))) (by decide +kernel) (fun z => nomatch z)
  · cases h
    exact hz_Fof (C := R_D) (T := T_D) (N := 4) B rfl in_D (by decide) (Or.inr ⟨"LazyGraphs", by rw [hy]; exact List.mem_of_getElem? (i := 311) (by decide +kernel)⟩) (by decide +kernel) (fun z => nomatch z)
  · cases h
    exact hz_Fof (C := R_D) (T := T_D) (N := 4) B rfl in_D (by decide) (Or.inr ⟨"LazyGraphs", by rw [hy]; exact List.mem_of_getElem? (i := 321) (by decide +kernel)⟩) (by decide +kernel) (fun _ => Or.inl rfl)
  · cases h
    exact hz_Fof (C := R_D) (T := T_D) (N := 4) B rfl in_D (by decide) (Or.inr ⟨"LazyGraphs", by rw [hy]; exact List.mem_of_getElem? (i := 314) (by decide +kernel)⟩) (by decide +kernel) (fun z => nomatch z)
  · cases h
    exact hz_Fof (C := R_D) (T := T_D) (N := 4) B rfl in_D (by decide) (Or.inr ⟨"LazyGraphs", by rw [hy]; exact List.mem_of_getElem? (i := 317) (by decide +kernel)⟩) (by decide +kernel) (fun z => nomatch z)
  · cases h
def f_Ri : Nat → Option (Nat × Nat × FieldType × Bool) := fun k => match k with
  | 9 => some (2, 1, .array .int, true)
  | 15 => some (2, 2, .int, true)
  | 19 => some (2, 3, .boolean, true)
  | 23 => some (2, 4, .int, true)
  | 26 => some (2, 0, .object "LazyGraphs$Definition", true)
  | 37 => some (0, 0, .array .char, false)
  | 43 => some (0, 3, .int, true)
  | 62 => some (0, 1, .array .int, false)
  | 78 => some (0, 2, .array .int, false)
  | _ => none
set_option maxHeartbeats 1000000 in
theorem ft_Ri {G : hz_G} {y : MethodName} {cc : ByteArray} {nL : Nat} {ret : Option FieldType} {p : Program} {s : State} {m : MethodId} {args : Array Value} {meth : Method} {c : Code} (B : hz_B lw_tbl zAO zCl zKT G y cc nL ret p s m args meth c) (hy : y.cls = R_R) (hi : y.name = "<init>") : hz_FT G s m args meth f_Ri := by
  intro idx ci k ty wr h
  unfold f_Ri at h
  split at h
  · cases h
    exact hz_Fof (C := R_R) (T := T_R) (N := 5) B rfl in_R (by decide) (Or.inl (by rw [hy]; exact hz_T_in 338 (by decide +kernel) (by decide +kernel))) (by decide +kernel) (fun _ => Or.inr ⟨rfl, by rw [hy]; rfl, hi⟩)
  · cases h
    exact hz_Fof (C := R_R) (T := T_R) (N := 5) B rfl in_R (by decide) (Or.inl (by rw [hy]; exact hz_T_in 339 (by decide +kernel) (by decide +kernel))) (by decide +kernel) (fun _ => Or.inl rfl)
  · cases h
    exact hz_Fof (C := R_R) (T := T_R) (N := 5) B rfl in_R (by decide) (Or.inl (by rw [hy]; exact hz_T_in 340 (by decide +kernel) (by decide +kernel))) (by decide +kernel) (fun _ => Or.inl rfl)
  · cases h
    exact hz_Fof (C := R_R) (T := T_R) (N := 5) B rfl in_R (by decide) (Or.inl (by rw [hy]; exact hz_T_in 341 (by decide +kernel) (by decide +kernel))) (by decide +kernel) (fun _ => Or.inl rfl)
  · cases h
    exact hz_Fof (C := R_R) (T := T_R) (N := 5) B rfl in_R (by decide) (Or.inl (by rw [hy]; exact hz_T_in 337 (by decide +kernel) (by decide +kernel))) (by decide +kernel) (fun _ => Or.inr ⟨rfl, by rw [hy]; rfl, hi⟩)
  · cases h
    exact hz_Fof (C := R_D) (T := T_D) (N := 4) B rfl in_D (by decide) (Or.inr ⟨"LazyGraphs", by rw [hy]; exact List.mem_of_getElem? (i := 311) (by decide +kernel)⟩) (by decide +kernel) (fun z => nomatch z)
  · cases h
    exact hz_Fof (C := R_D) (T := T_D) (N := 4) B rfl in_D (by decide) (Or.inr ⟨"LazyGraphs", by rw [hy]; exact List.mem_of_getElem? (i := 321) (by decide +kernel)⟩) (by decide +kernel) (fun _ => Or.inl rfl)
  · cases h
    exact hz_Fof (C := R_D) (T := T_D) (N := 4) B rfl in_D (by decide) (Or.inr ⟨"LazyGraphs", by rw [hy]; exact List.mem_of_getElem? (i := 314) (by decide +kernel)⟩) (by decide +kernel) (fun z => nomatch z)
  · cases h
    exact hz_Fof (C := R_D) (T := T_D) (N := 4) B rfl in_D (by decide) (Or.inr ⟨"LazyGraphs", by rw [hy]; exact List.mem_of_getElem? (i := 317) (by decide +kernel)⟩) (by decide +kernel) (fun z => nomatch z)
  · cases h
def n_R : Nat → Option Int32 := fun k => match k with
  | _ => none
theorem cn_R {G : hz_G} {y : MethodName} {cc : ByteArray} {nL : Nat} {ret : Option FieldType} {p : Program} {s : State} {m : MethodId} {args : Array Value} {meth : Method} {c : Code} (B : hz_B lw_tbl zAO zCl zKT G y cc nL ret p s m args meth c) (hy : y.cls = R_R) : hz_CN s m args n_R := by
  intro idx v h
  unfold n_R at h
  cases h
def f_W : Nat → Option (Nat × Nat × FieldType × Bool) := fun k => match k with
  | 9 => some (3, 0, .array .char, false)
  | 15 => some (3, 1, .int, true)
  | 19 => some (3, 2, .array .int, false)
  | 23 => some (3, 3, .int, true)
  | 26 => some (3, 4, .int, true)
  | 29 => some (3, 5, .boolean, true)
  | 40 => some (1, 3, .array .int, false)
  | 43 => some (1, 4, .array .int, false)
  | 69 => some (1, 13, .int, true)
  | _ => none
set_option maxHeartbeats 1000000 in
theorem ft_W {G : hz_G} {y : MethodName} {cc : ByteArray} {nL : Nat} {ret : Option FieldType} {p : Program} {s : State} {m : MethodId} {args : Array Value} {meth : Method} {c : Code} (B : hz_B lw_tbl zAO zCl zKT G y cc nL ret p s m args meth c) (hy : y.cls = R_W) : hz_FT G s m args meth f_W := by
  intro idx ci k ty wr h
  unfold f_W at h
  split at h
  · cases h
    exact hz_Fof (C := R_W) (T := T_W) (N := 6) B rfl in_W (by decide) (Or.inl (by rw [hy]; exact hz_T_in 158 (by decide +kernel) (by decide +kernel))) (by decide +kernel) (fun z => nomatch z)
  · cases h
    exact hz_Fof (C := R_W) (T := T_W) (N := 6) B rfl in_W (by decide) (Or.inl (by rw [hy]; exact hz_T_in 160 (by decide +kernel) (by decide +kernel))) (by decide +kernel) (fun _ => Or.inl rfl)
  · cases h
    exact hz_Fof (C := R_W) (T := T_W) (N := 6) B rfl in_W (by decide) (Or.inl (by rw [hy]; exact hz_T_in 162 (by decide +kernel) (by decide +kernel))) (by decide +kernel) (fun z => nomatch z)
  · cases h
    exact hz_Fof (C := R_W) (T := T_W) (N := 6) B rfl in_W (by decide) (Or.inl (by rw [hy]; exact hz_T_in 163 (by decide +kernel) (by decide +kernel))) (by decide +kernel) (fun _ => Or.inl rfl)
  · cases h
    exact hz_Fof (C := R_W) (T := T_W) (N := 6) B rfl in_W (by decide) (Or.inl (by rw [hy]; exact hz_T_in 164 (by decide +kernel) (by decide +kernel))) (by decide +kernel) (fun _ => Or.inl rfl)
  · cases h
    exact hz_Fof (C := R_W) (T := T_W) (N := 6) B rfl in_W (by decide) (Or.inl (by rw [hy]; exact hz_T_in 165 (by decide +kernel) (by decide +kernel))) (by decide +kernel) (fun _ => Or.inl rfl)
  · cases h
    exact hz_Fof (C := R_G) (T := T_G) (N := 14) B rfl in_G (by decide) (Or.inr ⟨"LazyGraphs", by rw [hy]; exact List.mem_of_getElem? (i := 106) (by decide +kernel)⟩) (by decide +kernel) (fun z => nomatch z)
  · cases h
    exact hz_Fof (C := R_G) (T := T_G) (N := 14) B rfl in_G (by decide) (Or.inr ⟨"LazyGraphs", by rw [hy]; exact List.mem_of_getElem? (i := 108) (by decide +kernel)⟩) (by decide +kernel) (fun z => nomatch z)
  · cases h
    exact hz_Fof (C := R_G) (T := T_G) (N := 14) B rfl in_G (by decide) (Or.inr ⟨"LazyGraphs", by rw [hy]; exact List.mem_of_getElem? (i := 119) (by decide +kernel)⟩) (by decide +kernel) (fun _ => Or.inl rfl)
  · cases h
def f_Wi : Nat → Option (Nat × Nat × FieldType × Bool) := fun k => match k with
  | 9 => some (3, 0, .array .char, true)
  | 15 => some (3, 1, .int, true)
  | 19 => some (3, 2, .array .int, true)
  | 23 => some (3, 3, .int, true)
  | 26 => some (3, 4, .int, true)
  | 29 => some (3, 5, .boolean, true)
  | 40 => some (1, 3, .array .int, false)
  | 43 => some (1, 4, .array .int, false)
  | 69 => some (1, 13, .int, true)
  | _ => none
set_option maxHeartbeats 1000000 in
theorem ft_Wi {G : hz_G} {y : MethodName} {cc : ByteArray} {nL : Nat} {ret : Option FieldType} {p : Program} {s : State} {m : MethodId} {args : Array Value} {meth : Method} {c : Code} (B : hz_B lw_tbl zAO zCl zKT G y cc nL ret p s m args meth c) (hy : y.cls = R_W) (hi : y.name = "<init>") : hz_FT G s m args meth f_Wi := by
  intro idx ci k ty wr h
  unfold f_Wi at h
  split at h
  · cases h
    exact hz_Fof (C := R_W) (T := T_W) (N := 6) B rfl in_W (by decide) (Or.inl (by rw [hy]; exact hz_T_in 158 (by decide +kernel) (by decide +kernel))) (by decide +kernel) (fun _ => Or.inr ⟨rfl, by rw [hy]; rfl, hi⟩)
  · cases h
    exact hz_Fof (C := R_W) (T := T_W) (N := 6) B rfl in_W (by decide) (Or.inl (by rw [hy]; exact hz_T_in 160 (by decide +kernel) (by decide +kernel))) (by decide +kernel) (fun _ => Or.inl rfl)
  · cases h
    exact hz_Fof (C := R_W) (T := T_W) (N := 6) B rfl in_W (by decide) (Or.inl (by rw [hy]; exact hz_T_in 162 (by decide +kernel) (by decide +kernel))) (by decide +kernel) (fun _ => Or.inr ⟨rfl, by rw [hy]; rfl, hi⟩)
  · cases h
    exact hz_Fof (C := R_W) (T := T_W) (N := 6) B rfl in_W (by decide) (Or.inl (by rw [hy]; exact hz_T_in 163 (by decide +kernel) (by decide +kernel))) (by decide +kernel) (fun _ => Or.inl rfl)
  · cases h
    exact hz_Fof (C := R_W) (T := T_W) (N := 6) B rfl in_W (by decide) (Or.inl (by rw [hy]; exact hz_T_in 164 (by decide +kernel) (by decide +kernel))) (by decide +kernel) (fun _ => Or.inl rfl)
  · cases h
    exact hz_Fof (C := R_W) (T := T_W) (N := 6) B rfl in_W (by decide) (Or.inl (by rw [hy]; exact hz_T_in 165 (by decide +kernel) (by decide +kernel))) (by decide +kernel) (fun _ => Or.inl rfl)
  · cases h
    exact hz_Fof (C := R_G) (T := T_G) (N := 14) B rfl in_G (by decide) (Or.inr ⟨"LazyGraphs", by rw [hy]; exact List.mem_of_getElem? (i := 106) (by decide +kernel)⟩) (by decide +kernel) (fun z => nomatch z)
  · cases h
    exact hz_Fof (C := R_G) (T := T_G) (N := 14) B rfl in_G (by decide) (Or.inr ⟨"LazyGraphs", by rw [hy]; exact List.mem_of_getElem? (i := 108) (by decide +kernel)⟩) (by decide +kernel) (fun z => nomatch z)
  · cases h
    exact hz_Fof (C := R_G) (T := T_G) (N := 14) B rfl in_G (by decide) (Or.inr ⟨"LazyGraphs", by rw [hy]; exact List.mem_of_getElem? (i := 119) (by decide +kernel)⟩) (by decide +kernel) (fun _ => Or.inl rfl)
  · cases h
def n_W : Nat → Option Int32 := fun k => match k with
  | 35 => some (1000000 : Int32)
  | _ => none
theorem cn_W {G : hz_G} {y : MethodName} {cc : ByteArray} {nL : Nat} {ret : Option FieldType} {p : Program} {s : State} {m : MethodId} {args : Array Value} {meth : Method} {c : Code} (B : hz_B lw_tbl zAO zCl zKT G y cc nL ret p s m args meth c) (hy : y.cls = R_W) : hz_CN s m args n_W := by
  intro idx v h
  unfold n_W at h
  split at h
  · cases h
    exact ⟨y.cls, B.2.2.2.2.2.2.1, B.2.2.2.2.2.1 _ (by rw [hy]; exact hz_T_in 460 (by decide +kernel) (by decide +kernel))⟩
  · cases h
def f_M : Nat → Option (Nat × Nat × FieldType × Bool) := fun k => match k with
  | 7 => some (5, 2, .array .int, false)
  | 13 => some (5, 4, .array .int, false)
  | 16 => some (5, 5, .array .boolean, false)
  | 20 => some (5, 6, .array .int, false)
  | 23 => some (5, 7, .array .int, false)
  | 26 => some (5, 8, .array .int, false)
  | 29 => some (5, 9, .array .int, false)
  | 32 => some (5, 10, .array .int, false)
  | 35 => some (5, 11, .array .int, false)
  | 38 => some (5, 14, .array .int, false)
  | 41 => some (5, 15, .array .int, false)
  | 44 => some (5, 16, .array .int, false)
  | 47 => some (5, 18, .array .int, false)
  | 50 => some (5, 19, .array .int, false)
  | 53 => some (5, 20, .array .int, false)
  | 56 => some (5, 21, .array .int, false)
  | 59 => some (5, 22, .array .int, false)
  | 62 => some (5, 24, .array .int, false)
  | 65 => some (5, 26, .array .int, false)
  | 68 => some (5, 27, .array .int, false)
  | 71 => some (5, 28, .array .int, false)
  | 74 => some (5, 30, .array .int, false)
  | 77 => some (5, 31, .array .int, false)
  | 80 => some (5, 0, .int, true)
  | 84 => some (5, 1, .int, true)
  | 87 => some (5, 13, .int, true)
  | 90 => some (5, 12, .int, true)
  | 141 => some (5, 17, .int, true)
  | 150 => some (5, 25, .int, true)
  | 153 => some (5, 23, .int, true)
  | 156 => some (5, 29, .int, true)
  | 159 => some (5, 35, .int, true)
  | 162 => some (5, 36, .int, true)
  | 165 => some (5, 37, .int, true)
  | 168 => some (5, 38, .int, true)
  | 171 => some (5, 33, .int, true)
  | 174 => some (5, 32, .int, true)
  | 177 => some (5, 34, .int, true)
  | 224 => some (5, 3, .int, true)
  | _ => none
set_option maxHeartbeats 1000000 in
theorem ft_M {G : hz_G} {y : MethodName} {cc : ByteArray} {nL : Nat} {ret : Option FieldType} {p : Program} {s : State} {m : MethodId} {args : Array Value} {meth : Method} {c : Code} (B : hz_B lw_tbl zAO zCl zKT G y cc nL ret p s m args meth c) (hy : y.cls = R_M) : hz_FT G s m args meth f_M := by
  intro idx ci k ty wr h
  unfold f_M at h
  split at h
  · cases h
    exact hz_Fof (C := R_M) (T := T_M) (N := 39) B rfl in_M (by decide) (Or.inl (by rw [hy]; exact hz_T_in 573 (by decide +kernel) (by decide +kernel))) (by decide +kernel) (fun z => nomatch z)
  · cases h
    exact hz_Fof (C := R_M) (T := T_M) (N := 39) B rfl in_M (by decide) (Or.inl (by rw [hy]; exact hz_T_in 575 (by decide +kernel) (by decide +kernel))) (by decide +kernel) (fun z => nomatch z)
  · cases h
    exact hz_Fof (C := R_M) (T := T_M) (N := 39) B rfl in_M (by decide) (Or.inl (by rw [hy]; exact hz_T_in 576 (by decide +kernel) (by decide +kernel))) (by decide +kernel) (fun z => nomatch z)
  · cases h
    exact hz_Fof (C := R_M) (T := T_M) (N := 39) B rfl in_M (by decide) (Or.inl (by rw [hy]; exact hz_T_in 577 (by decide +kernel) (by decide +kernel))) (by decide +kernel) (fun z => nomatch z)
  · cases h
    exact hz_Fof (C := R_M) (T := T_M) (N := 39) B rfl in_M (by decide) (Or.inl (by rw [hy]; exact hz_T_in 578 (by decide +kernel) (by decide +kernel))) (by decide +kernel) (fun z => nomatch z)
  · cases h
    exact hz_Fof (C := R_M) (T := T_M) (N := 39) B rfl in_M (by decide) (Or.inl (by rw [hy]; exact hz_T_in 579 (by decide +kernel) (by decide +kernel))) (by decide +kernel) (fun z => nomatch z)
  · cases h
    exact hz_Fof (C := R_M) (T := T_M) (N := 39) B rfl in_M (by decide) (Or.inl (by rw [hy]; exact hz_T_in 580 (by decide +kernel) (by decide +kernel))) (by decide +kernel) (fun z => nomatch z)
  · cases h
    exact hz_Fof (C := R_M) (T := T_M) (N := 39) B rfl in_M (by decide) (Or.inl (by rw [hy]; exact hz_T_in 581 (by decide +kernel) (by decide +kernel))) (by decide +kernel) (fun z => nomatch z)
  · cases h
    exact hz_Fof (C := R_M) (T := T_M) (N := 39) B rfl in_M (by decide) (Or.inl (by rw [hy]; exact hz_T_in 582 (by decide +kernel) (by decide +kernel))) (by decide +kernel) (fun z => nomatch z)
  · cases h
    exact hz_Fof (C := R_M) (T := T_M) (N := 39) B rfl in_M (by decide) (Or.inl (by rw [hy]; exact hz_T_in 585 (by decide +kernel) (by decide +kernel))) (by decide +kernel) (fun z => nomatch z)
  · cases h
    exact hz_Fof (C := R_M) (T := T_M) (N := 39) B rfl in_M (by decide) (Or.inl (by rw [hy]; exact hz_T_in 586 (by decide +kernel) (by decide +kernel))) (by decide +kernel) (fun z => nomatch z)
  · cases h
    exact hz_Fof (C := R_M) (T := T_M) (N := 39) B rfl in_M (by decide) (Or.inl (by rw [hy]; exact hz_T_in 587 (by decide +kernel) (by decide +kernel))) (by decide +kernel) (fun z => nomatch z)
  · cases h
    exact hz_Fof (C := R_M) (T := T_M) (N := 39) B rfl in_M (by decide) (Or.inl (by rw [hy]; exact hz_T_in 589 (by decide +kernel) (by decide +kernel))) (by decide +kernel) (fun z => nomatch z)
  · cases h
    exact hz_Fof (C := R_M) (T := T_M) (N := 39) B rfl in_M (by decide) (Or.inl (by rw [hy]; exact hz_T_in 590 (by decide +kernel) (by decide +kernel))) (by decide +kernel) (fun z => nomatch z)
  · cases h
    exact hz_Fof (C := R_M) (T := T_M) (N := 39) B rfl in_M (by decide) (Or.inl (by rw [hy]; exact hz_T_in 591 (by decide +kernel) (by decide +kernel))) (by decide +kernel) (fun z => nomatch z)
  · cases h
    exact hz_Fof (C := R_M) (T := T_M) (N := 39) B rfl in_M (by decide) (Or.inl (by rw [hy]; exact hz_T_in 592 (by decide +kernel) (by decide +kernel))) (by decide +kernel) (fun z => nomatch z)
  · cases h
    exact hz_Fof (C := R_M) (T := T_M) (N := 39) B rfl in_M (by decide) (Or.inl (by rw [hy]; exact hz_T_in 593 (by decide +kernel) (by decide +kernel))) (by decide +kernel) (fun z => nomatch z)
  · cases h
    exact hz_Fof (C := R_M) (T := T_M) (N := 39) B rfl in_M (by decide) (Or.inl (by rw [hy]; exact hz_T_in 595 (by decide +kernel) (by decide +kernel))) (by decide +kernel) (fun z => nomatch z)
  · cases h
    exact hz_Fof (C := R_M) (T := T_M) (N := 39) B rfl in_M (by decide) (Or.inl (by rw [hy]; exact hz_T_in 597 (by decide +kernel) (by decide +kernel))) (by decide +kernel) (fun z => nomatch z)
  · cases h
    exact hz_Fof (C := R_M) (T := T_M) (N := 39) B rfl in_M (by decide) (Or.inl (by rw [hy]; exact hz_T_in 598 (by decide +kernel) (by decide +kernel))) (by decide +kernel) (fun z => nomatch z)
  · cases h
    exact hz_Fof (C := R_M) (T := T_M) (N := 39) B rfl in_M (by decide) (Or.inl (by rw [hy]; exact hz_T_in 599 (by decide +kernel) (by decide +kernel))) (by decide +kernel) (fun z => nomatch z)
  · cases h
    exact hz_Fof (C := R_M) (T := T_M) (N := 39) B rfl in_M (by decide) (Or.inl (by rw [hy]; exact hz_T_in 601 (by decide +kernel) (by decide +kernel))) (by decide +kernel) (fun z => nomatch z)
  · cases h
    exact hz_Fof (C := R_M) (T := T_M) (N := 39) B rfl in_M (by decide) (Or.inl (by rw [hy]; exact hz_T_in 602 (by decide +kernel) (by decide +kernel))) (by decide +kernel) (fun z => nomatch z)
  · cases h
    exact hz_Fof (C := R_M) (T := T_M) (N := 39) B rfl in_M (by decide) (Or.inl (by rw [hy]; exact hz_T_in 571 (by decide +kernel) (by decide +kernel))) (by decide +kernel) (fun _ => Or.inl rfl)
  · cases h
    exact hz_Fof (C := R_M) (T := T_M) (N := 39) B rfl in_M (by decide) (Or.inl (by rw [hy]; exact hz_T_in 572 (by decide +kernel) (by decide +kernel))) (by decide +kernel) (fun _ => Or.inl rfl)
  · cases h
    exact hz_Fof (C := R_M) (T := T_M) (N := 39) B rfl in_M (by decide) (Or.inl (by rw [hy]; exact hz_T_in 584 (by decide +kernel) (by decide +kernel))) (by decide +kernel) (fun _ => Or.inl rfl)
  · cases h
    exact hz_Fof (C := R_M) (T := T_M) (N := 39) B rfl in_M (by decide) (Or.inl (by rw [hy]; exact hz_T_in 583 (by decide +kernel) (by decide +kernel))) (by decide +kernel) (fun _ => Or.inl rfl)
  · cases h
    exact hz_Fof (C := R_M) (T := T_M) (N := 39) B rfl in_M (by decide) (Or.inl (by rw [hy]; exact hz_T_in 588 (by decide +kernel) (by decide +kernel))) (by decide +kernel) (fun _ => Or.inl rfl)
  · cases h
    exact hz_Fof (C := R_M) (T := T_M) (N := 39) B rfl in_M (by decide) (Or.inl (by rw [hy]; exact hz_T_in 596 (by decide +kernel) (by decide +kernel))) (by decide +kernel) (fun _ => Or.inl rfl)
  · cases h
    exact hz_Fof (C := R_M) (T := T_M) (N := 39) B rfl in_M (by decide) (Or.inl (by rw [hy]; exact hz_T_in 594 (by decide +kernel) (by decide +kernel))) (by decide +kernel) (fun _ => Or.inl rfl)
  · cases h
    exact hz_Fof (C := R_M) (T := T_M) (N := 39) B rfl in_M (by decide) (Or.inl (by rw [hy]; exact hz_T_in 600 (by decide +kernel) (by decide +kernel))) (by decide +kernel) (fun _ => Or.inl rfl)
  · cases h
    exact hz_Fof (C := R_M) (T := T_M) (N := 39) B rfl in_M (by decide) (Or.inl (by rw [hy]; exact hz_T_in 606 (by decide +kernel) (by decide +kernel))) (by decide +kernel) (fun _ => Or.inl rfl)
  · cases h
    exact hz_Fof (C := R_M) (T := T_M) (N := 39) B rfl in_M (by decide) (Or.inl (by rw [hy]; exact hz_T_in 607 (by decide +kernel) (by decide +kernel))) (by decide +kernel) (fun _ => Or.inl rfl)
  · cases h
    exact hz_Fof (C := R_M) (T := T_M) (N := 39) B rfl in_M (by decide) (Or.inl (by rw [hy]; exact hz_T_in 608 (by decide +kernel) (by decide +kernel))) (by decide +kernel) (fun _ => Or.inl rfl)
  · cases h
    exact hz_Fof (C := R_M) (T := T_M) (N := 39) B rfl in_M (by decide) (Or.inl (by rw [hy]; exact hz_T_in 609 (by decide +kernel) (by decide +kernel))) (by decide +kernel) (fun _ => Or.inl rfl)
  · cases h
    exact hz_Fof (C := R_M) (T := T_M) (N := 39) B rfl in_M (by decide) (Or.inl (by rw [hy]; exact hz_T_in 604 (by decide +kernel) (by decide +kernel))) (by decide +kernel) (fun _ => Or.inl rfl)
  · cases h
    exact hz_Fof (C := R_M) (T := T_M) (N := 39) B rfl in_M (by decide) (Or.inl (by rw [hy]; exact hz_T_in 603 (by decide +kernel) (by decide +kernel))) (by decide +kernel) (fun _ => Or.inl rfl)
  · cases h
    exact hz_Fof (C := R_M) (T := T_M) (N := 39) B rfl in_M (by decide) (Or.inl (by rw [hy]; exact hz_T_in 605 (by decide +kernel) (by decide +kernel))) (by decide +kernel) (fun _ => Or.inl rfl)
  · cases h
    exact hz_Fof (C := R_M) (T := T_M) (N := 39) B rfl in_M (by decide) (Or.inl (by rw [hy]; exact hz_T_in 574 (by decide +kernel) (by decide +kernel))) (by decide +kernel) (fun _ => Or.inl rfl)
  · cases h
def f_Mi : Nat → Option (Nat × Nat × FieldType × Bool) := fun k => match k with
  | 7 => some (5, 2, .array .int, true)
  | 13 => some (5, 4, .array .int, true)
  | 16 => some (5, 5, .array .boolean, true)
  | 20 => some (5, 6, .array .int, true)
  | 23 => some (5, 7, .array .int, true)
  | 26 => some (5, 8, .array .int, true)
  | 29 => some (5, 9, .array .int, true)
  | 32 => some (5, 10, .array .int, true)
  | 35 => some (5, 11, .array .int, true)
  | 38 => some (5, 14, .array .int, true)
  | 41 => some (5, 15, .array .int, true)
  | 44 => some (5, 16, .array .int, true)
  | 47 => some (5, 18, .array .int, true)
  | 50 => some (5, 19, .array .int, true)
  | 53 => some (5, 20, .array .int, true)
  | 56 => some (5, 21, .array .int, true)
  | 59 => some (5, 22, .array .int, true)
  | 62 => some (5, 24, .array .int, true)
  | 65 => some (5, 26, .array .int, true)
  | 68 => some (5, 27, .array .int, true)
  | 71 => some (5, 28, .array .int, true)
  | 74 => some (5, 30, .array .int, true)
  | 77 => some (5, 31, .array .int, true)
  | 80 => some (5, 0, .int, true)
  | 84 => some (5, 1, .int, true)
  | 87 => some (5, 13, .int, true)
  | 90 => some (5, 12, .int, true)
  | 141 => some (5, 17, .int, true)
  | 150 => some (5, 25, .int, true)
  | 153 => some (5, 23, .int, true)
  | 156 => some (5, 29, .int, true)
  | 159 => some (5, 35, .int, true)
  | 162 => some (5, 36, .int, true)
  | 165 => some (5, 37, .int, true)
  | 168 => some (5, 38, .int, true)
  | 171 => some (5, 33, .int, true)
  | 174 => some (5, 32, .int, true)
  | 177 => some (5, 34, .int, true)
  | 224 => some (5, 3, .int, true)
  | _ => none
set_option maxHeartbeats 1000000 in
theorem ft_Mi {G : hz_G} {y : MethodName} {cc : ByteArray} {nL : Nat} {ret : Option FieldType} {p : Program} {s : State} {m : MethodId} {args : Array Value} {meth : Method} {c : Code} (B : hz_B lw_tbl zAO zCl zKT G y cc nL ret p s m args meth c) (hy : y.cls = R_M) (hi : y.name = "<init>") : hz_FT G s m args meth f_Mi := by
  intro idx ci k ty wr h
  unfold f_Mi at h
  split at h
  · cases h
    exact hz_Fof (C := R_M) (T := T_M) (N := 39) B rfl in_M (by decide) (Or.inl (by rw [hy]; exact hz_T_in 573 (by decide +kernel) (by decide +kernel))) (by decide +kernel) (fun _ => Or.inr ⟨rfl, by rw [hy]; rfl, hi⟩)
  · cases h
    exact hz_Fof (C := R_M) (T := T_M) (N := 39) B rfl in_M (by decide) (Or.inl (by rw [hy]; exact hz_T_in 575 (by decide +kernel) (by decide +kernel))) (by decide +kernel) (fun _ => Or.inr ⟨rfl, by rw [hy]; rfl, hi⟩)
  · cases h
    exact hz_Fof (C := R_M) (T := T_M) (N := 39) B rfl in_M (by decide) (Or.inl (by rw [hy]; exact hz_T_in 576 (by decide +kernel) (by decide +kernel))) (by decide +kernel) (fun _ => Or.inr ⟨rfl, by rw [hy]; rfl, hi⟩)
  · cases h
    exact hz_Fof (C := R_M) (T := T_M) (N := 39) B rfl in_M (by decide) (Or.inl (by rw [hy]; exact hz_T_in 577 (by decide +kernel) (by decide +kernel))) (by decide +kernel) (fun _ => Or.inr ⟨rfl, by rw [hy]; rfl, hi⟩)
  · cases h
    exact hz_Fof (C := R_M) (T := T_M) (N := 39) B rfl in_M (by decide) (Or.inl (by rw [hy]; exact hz_T_in 578 (by decide +kernel) (by decide +kernel))) (by decide +kernel) (fun _ => Or.inr ⟨rfl, by rw [hy]; rfl, hi⟩)
  · cases h
    exact hz_Fof (C := R_M) (T := T_M) (N := 39) B rfl in_M (by decide) (Or.inl (by rw [hy]; exact hz_T_in 579 (by decide +kernel) (by decide +kernel))) (by decide +kernel) (fun _ => Or.inr ⟨rfl, by rw [hy]; rfl, hi⟩)
  · cases h
    exact hz_Fof (C := R_M) (T := T_M) (N := 39) B rfl in_M (by decide) (Or.inl (by rw [hy]; exact hz_T_in 580 (by decide +kernel) (by decide +kernel))) (by decide +kernel) (fun _ => Or.inr ⟨rfl, by rw [hy]; rfl, hi⟩)
  · cases h
    exact hz_Fof (C := R_M) (T := T_M) (N := 39) B rfl in_M (by decide) (Or.inl (by rw [hy]; exact hz_T_in 581 (by decide +kernel) (by decide +kernel))) (by decide +kernel) (fun _ => Or.inr ⟨rfl, by rw [hy]; rfl, hi⟩)
  · cases h
    exact hz_Fof (C := R_M) (T := T_M) (N := 39) B rfl in_M (by decide) (Or.inl (by rw [hy]; exact hz_T_in 582 (by decide +kernel) (by decide +kernel))) (by decide +kernel) (fun _ => Or.inr ⟨rfl, by rw [hy]; rfl, hi⟩)
  · cases h
    exact hz_Fof (C := R_M) (T := T_M) (N := 39) B rfl in_M (by decide) (Or.inl (by rw [hy]; exact hz_T_in 585 (by decide +kernel) (by decide +kernel))) (by decide +kernel) (fun _ => Or.inr ⟨rfl, by rw [hy]; rfl, hi⟩)
  · cases h
    exact hz_Fof (C := R_M) (T := T_M) (N := 39) B rfl in_M (by decide) (Or.inl (by rw [hy]; exact hz_T_in 586 (by decide +kernel) (by decide +kernel))) (by decide +kernel) (fun _ => Or.inr ⟨rfl, by rw [hy]; rfl, hi⟩)
  · cases h
    exact hz_Fof (C := R_M) (T := T_M) (N := 39) B rfl in_M (by decide) (Or.inl (by rw [hy]; exact hz_T_in 587 (by decide +kernel) (by decide +kernel))) (by decide +kernel) (fun _ => Or.inr ⟨rfl, by rw [hy]; rfl, hi⟩)
  · cases h
    exact hz_Fof (C := R_M) (T := T_M) (N := 39) B rfl in_M (by decide) (Or.inl (by rw [hy]; exact hz_T_in 589 (by decide +kernel) (by decide +kernel))) (by decide +kernel) (fun _ => Or.inr ⟨rfl, by rw [hy]; rfl, hi⟩)
  · cases h
    exact hz_Fof (C := R_M) (T := T_M) (N := 39) B rfl in_M (by decide) (Or.inl (by rw [hy]; exact hz_T_in 590 (by decide +kernel) (by decide +kernel))) (by decide +kernel) (fun _ => Or.inr ⟨rfl, by rw [hy]; rfl, hi⟩)
  · cases h
    exact hz_Fof (C := R_M) (T := T_M) (N := 39) B rfl in_M (by decide) (Or.inl (by rw [hy]; exact hz_T_in 591 (by decide +kernel) (by decide +kernel))) (by decide +kernel) (fun _ => Or.inr ⟨rfl, by rw [hy]; rfl, hi⟩)
  · cases h
    exact hz_Fof (C := R_M) (T := T_M) (N := 39) B rfl in_M (by decide) (Or.inl (by rw [hy]; exact hz_T_in 592 (by decide +kernel) (by decide +kernel))) (by decide +kernel) (fun _ => Or.inr ⟨rfl, by rw [hy]; rfl, hi⟩)
  · cases h
    exact hz_Fof (C := R_M) (T := T_M) (N := 39) B rfl in_M (by decide) (Or.inl (by rw [hy]; exact hz_T_in 593 (by decide +kernel) (by decide +kernel))) (by decide +kernel) (fun _ => Or.inr ⟨rfl, by rw [hy]; rfl, hi⟩)
  · cases h
    exact hz_Fof (C := R_M) (T := T_M) (N := 39) B rfl in_M (by decide) (Or.inl (by rw [hy]; exact hz_T_in 595 (by decide +kernel) (by decide +kernel))) (by decide +kernel) (fun _ => Or.inr ⟨rfl, by rw [hy]; rfl, hi⟩)
  · cases h
    exact hz_Fof (C := R_M) (T := T_M) (N := 39) B rfl in_M (by decide) (Or.inl (by rw [hy]; exact hz_T_in 597 (by decide +kernel) (by decide +kernel))) (by decide +kernel) (fun _ => Or.inr ⟨rfl, by rw [hy]; rfl, hi⟩)
  · cases h
    exact hz_Fof (C := R_M) (T := T_M) (N := 39) B rfl in_M (by decide) (Or.inl (by rw [hy]; exact hz_T_in 598 (by decide +kernel) (by decide +kernel))) (by decide +kernel) (fun _ => Or.inr ⟨rfl, by rw [hy]; rfl, hi⟩)
  · cases h
    exact hz_Fof (C := R_M) (T := T_M) (N := 39) B rfl in_M (by decide) (Or.inl (by rw [hy]; exact hz_T_in 599 (by decide +kernel) (by decide +kernel))) (by decide +kernel) (fun _ => Or.inr ⟨rfl, by rw [hy]; rfl, hi⟩)
  · cases h
    exact hz_Fof (C := R_M) (T := T_M) (N := 39) B rfl in_M (by decide) (Or.inl (by rw [hy]; exact hz_T_in 601 (by decide +kernel) (by decide +kernel))) (by decide +kernel) (fun _ => Or.inr ⟨rfl, by rw [hy]; rfl, hi⟩)
  · cases h
    exact hz_Fof (C := R_M) (T := T_M) (N := 39) B rfl in_M (by decide) (Or.inl (by rw [hy]; exact hz_T_in 602 (by decide +kernel) (by decide +kernel))) (by decide +kernel) (fun _ => Or.inr ⟨rfl, by rw [hy]; rfl, hi⟩)
  · cases h
    exact hz_Fof (C := R_M) (T := T_M) (N := 39) B rfl in_M (by decide) (Or.inl (by rw [hy]; exact hz_T_in 571 (by decide +kernel) (by decide +kernel))) (by decide +kernel) (fun _ => Or.inl rfl)
  · cases h
    exact hz_Fof (C := R_M) (T := T_M) (N := 39) B rfl in_M (by decide) (Or.inl (by rw [hy]; exact hz_T_in 572 (by decide +kernel) (by decide +kernel))) (by decide +kernel) (fun _ => Or.inl rfl)
  · cases h
    exact hz_Fof (C := R_M) (T := T_M) (N := 39) B rfl in_M (by decide) (Or.inl (by rw [hy]; exact hz_T_in 584 (by decide +kernel) (by decide +kernel))) (by decide +kernel) (fun _ => Or.inl rfl)
  · cases h
    exact hz_Fof (C := R_M) (T := T_M) (N := 39) B rfl in_M (by decide) (Or.inl (by rw [hy]; exact hz_T_in 583 (by decide +kernel) (by decide +kernel))) (by decide +kernel) (fun _ => Or.inl rfl)
  · cases h
    exact hz_Fof (C := R_M) (T := T_M) (N := 39) B rfl in_M (by decide) (Or.inl (by rw [hy]; exact hz_T_in 588 (by decide +kernel) (by decide +kernel))) (by decide +kernel) (fun _ => Or.inl rfl)
  · cases h
    exact hz_Fof (C := R_M) (T := T_M) (N := 39) B rfl in_M (by decide) (Or.inl (by rw [hy]; exact hz_T_in 596 (by decide +kernel) (by decide +kernel))) (by decide +kernel) (fun _ => Or.inl rfl)
  · cases h
    exact hz_Fof (C := R_M) (T := T_M) (N := 39) B rfl in_M (by decide) (Or.inl (by rw [hy]; exact hz_T_in 594 (by decide +kernel) (by decide +kernel))) (by decide +kernel) (fun _ => Or.inl rfl)
  · cases h
    exact hz_Fof (C := R_M) (T := T_M) (N := 39) B rfl in_M (by decide) (Or.inl (by rw [hy]; exact hz_T_in 600 (by decide +kernel) (by decide +kernel))) (by decide +kernel) (fun _ => Or.inl rfl)
  · cases h
    exact hz_Fof (C := R_M) (T := T_M) (N := 39) B rfl in_M (by decide) (Or.inl (by rw [hy]; exact hz_T_in 606 (by decide +kernel) (by decide +kernel))) (by decide +kernel) (fun _ => Or.inl rfl)
  · cases h
    exact hz_Fof (C := R_M) (T := T_M) (N := 39) B rfl in_M (by decide) (Or.inl (by rw [hy]; exact hz_T_in 607 (by decide +kernel) (by decide +kernel))) (by decide +kernel) (fun _ => Or.inl rfl)
  · cases h
    exact hz_Fof (C := R_M) (T := T_M) (N := 39) B rfl in_M (by decide) (Or.inl (by rw [hy]; exact hz_T_in 608 (by decide +kernel) (by decide +kernel))) (by decide +kernel) (fun _ => Or.inl rfl)
  · cases h
    exact hz_Fof (C := R_M) (T := T_M) (N := 39) B rfl in_M (by decide) (Or.inl (by rw [hy]; exact hz_T_in 609 (by decide +kernel) (by decide +kernel))) (by decide +kernel) (fun _ => Or.inl rfl)
  · cases h
    exact hz_Fof (C := R_M) (T := T_M) (N := 39) B rfl in_M (by decide) (Or.inl (by rw [hy]; exact hz_T_in 604 (by decide +kernel) (by decide +kernel))) (by decide +kernel) (fun _ => Or.inl rfl)
  · cases h
    exact hz_Fof (C := R_M) (T := T_M) (N := 39) B rfl in_M (by decide) (Or.inl (by rw [hy]; exact hz_T_in 603 (by decide +kernel) (by decide +kernel))) (by decide +kernel) (fun _ => Or.inl rfl)
  · cases h
    exact hz_Fof (C := R_M) (T := T_M) (N := 39) B rfl in_M (by decide) (Or.inl (by rw [hy]; exact hz_T_in 605 (by decide +kernel) (by decide +kernel))) (by decide +kernel) (fun _ => Or.inl rfl)
  · cases h
    exact hz_Fof (C := R_M) (T := T_M) (N := 39) B rfl in_M (by decide) (Or.inl (by rw [hy]; exact hz_T_in 574 (by decide +kernel) (by decide +kernel))) (by decide +kernel) (fun _ => Or.inl rfl)
  · cases h
def n_M : Nat → Option Int32 := fun k => match k with
  | _ => none
theorem cn_M {G : hz_G} {y : MethodName} {cc : ByteArray} {nL : Nat} {ret : Option FieldType} {p : Program} {s : State} {m : MethodId} {args : Array Value} {meth : Method} {c : Code} (B : hz_B lw_tbl zAO zCl zKT G y cc nL ret p s m args meth c) (hy : y.cls = R_M) : hz_CN s m args n_M := by
  intro idx v h
  unfold n_M at h
  cases h
def f_L : Nat → Option (Nat × Nat × FieldType × Bool) := fun k => match k with
  | _ => none
theorem ft_L {G : hz_G} {s : State} {m : MethodId} {args : Array Value} {meth : Method} : hz_FT G s m args meth f_L := fun _ _ _ _ _ h => nomatch h
def f_Li : Nat → Option (Nat × Nat × FieldType × Bool) := fun k => match k with
  | _ => none
theorem ft_Li {G : hz_G} {s : State} {m : MethodId} {args : Array Value} {meth : Method} : hz_FT G s m args meth f_Li := fun _ _ _ _ _ h => nomatch h
def n_L : Nat → Option Int32 := fun k => match k with
  | _ => none
theorem cn_L {G : hz_G} {y : MethodName} {cc : ByteArray} {nL : Nat} {ret : Option FieldType} {p : Program} {s : State} {m : MethodId} {args : Array Value} {meth : Method} {c : Code} (B : hz_B lw_tbl zAO zCl zKT G y cc nL ret p s m args meth c) (hy : y.cls = R_L) : hz_CN s m args n_L := by
  intro idx v h
  unfold n_L at h
  cases h
set_option maxRecDepth 100000 in
theorem cw_F_init : Cond.code y_F_init c_F_init 1 none ∈ hz_T lw_tbl := hz_T_in 89 rfl rfl
set_option maxRecDepth 100000 in
theorem cw_F_type : Cond.code y_F_type c_F_type 2 (some .boolean) ∈ hz_T lw_tbl := hz_T_in 195 rfl rfl
set_option maxRecDepth 100000 in
theorem cw_F_wipe : Cond.code y_F_wipe c_F_wipe 2 (some .int) ∈ hz_T lw_tbl := hz_T_in 199 rfl rfl
set_option maxRecDepth 100000 in
theorem cw_F_define : Cond.code y_F_define c_F_define 5 (some .int) ∈ hz_T lw_tbl := hz_T_in 230 rfl rfl
set_option maxRecDepth 100000 in
theorem cw_F_forget : Cond.code y_F_forget c_F_forget 3 none ∈ hz_T lw_tbl := hz_T_in 423 rfl rfl
set_option maxRecDepth 100000 in
theorem cw_F_parameters : Cond.code y_F_parameters c_F_parameters 2 (some .int) ∈ hz_T lw_tbl := hz_T_in 203 rfl rfl
set_option maxRecDepth 100000 in
theorem cw_F_run : Cond.code y_F_run c_F_run 4 (some .int) ∈ hz_T lw_tbl := hz_T_in 450 rfl rfl
set_option maxRecDepth 100000 in
theorem cw_F_entries : Cond.code y_F_entries c_F_entries 1 (some .int) ∈ hz_T lw_tbl := hz_T_in 214 rfl rfl
set_option maxRecDepth 100000 in
theorem cw_F_length : Cond.code y_F_length c_F_length 1 (some .int) ∈ hz_T lw_tbl := hz_T_in 218 rfl rfl
set_option maxRecDepth 100000 in
theorem cw_F_charAt : Cond.code y_F_charAt c_F_charAt 2 (some .char) ∈ hz_T lw_tbl := hz_T_in 222 rfl rfl
set_option maxRecDepth 100000 in
theorem cw_F_letterNumber : Cond.code y_F_letterNumber c_F_letterNumber 1 (some .int) ∈ hz_T lw_tbl := hz_T_in 233 rfl rfl
set_option maxRecDepth 100000 in
theorem cw_F_checkDefined : Cond.code y_F_checkDefined c_F_checkDefined 2 none ∈ hz_T lw_tbl := hz_T_in 427 rfl rfl
set_option maxRecDepth 100000 in
theorem cw_F_isLetter : Cond.code y_F_isLetter c_F_isLetter 1 (some .boolean) ∈ hz_T lw_tbl := hz_T_in 206 rfl rfl
set_option maxRecDepth 100000 in
theorem cw_F_isVariable : Cond.code y_F_isVariable c_F_isVariable 1 (some .boolean) ∈ hz_T lw_tbl := hz_T_in 367 rfl rfl
set_option maxRecDepth 100000 in
theorem cw_F_isDigit : Cond.code y_F_isDigit c_F_isDigit 1 (some .boolean) ∈ hz_T lw_tbl := hz_T_in 386 rfl rfl
set_option maxRecDepth 100000 in
theorem cw_M_init : Cond.code y_M_init c_M_init 1 none ∈ hz_T lw_tbl := hz_T_in 569 rfl rfl
set_option maxRecDepth 100000 in
theorem cw_M_thrown : Cond.code y_M_thrown c_M_thrown 1 (some .int) ∈ hz_T lw_tbl := hz_T_in 693 rfl rfl
set_option maxRecDepth 100000 in
theorem cw_M_isVariable : Cond.code y_M_isVariable c_M_isVariable 1 (some .boolean) ∈ hz_T lw_tbl := hz_T_in 723 rfl rfl
set_option maxRecDepth 100000 in
theorem cw_M_isLetter : Cond.code y_M_isLetter c_M_isLetter 1 (some .boolean) ∈ hz_T lw_tbl := hz_T_in 708 rfl rfl
set_option maxRecDepth 100000 in
theorem cw_M_type : Cond.code y_M_type c_M_type 2 (some .boolean) ∈ hz_T lw_tbl := hz_T_in 697 rfl rfl
set_option maxRecDepth 100000 in
theorem cw_M_wipe : Cond.code y_M_wipe c_M_wipe 2 (some .int) ∈ hz_T lw_tbl := hz_T_in 701 rfl rfl
set_option maxRecDepth 100000 in
theorem cw_M_push : Cond.code y_M_push c_M_push 4 none ∈ hz_T lw_tbl := hz_T_in 716 rfl rfl
set_option maxRecDepth 100000 in
theorem cw_M_add : Cond.code y_M_add c_M_add 4 (some .int) ∈ hz_T lw_tbl := hz_T_in 731 rfl rfl
set_option maxRecDepth 100000 in
theorem cw_M_pushExpressions : Cond.code y_M_pushExpressions c_M_pushExpressions 4 none ∈ hz_T lw_tbl := hz_T_in 735 rfl rfl
set_option maxRecDepth 100000 in
theorem cw_M_isOperator : Cond.code y_M_isOperator c_M_isOperator 1 (some .boolean) ∈ hz_T lw_tbl := hz_T_in 738 rfl rfl
set_option maxRecDepth 100000 in
theorem cw_M_begin : Cond.code y_M_begin c_M_begin 6 (some .boolean) ∈ hz_T lw_tbl := hz_T_in 727 rfl rfl
set_option maxRecDepth 100000 in
theorem cw_M_take : Cond.code y_M_take c_M_take 5 (some .boolean) ∈ hz_T lw_tbl := hz_T_in 720 rfl rfl
set_option maxRecDepth 100000 in
theorem cw_M_below : Cond.code y_M_below c_M_below 2 (some .int) ∈ hz_T lw_tbl := hz_T_in 750 rfl rfl
set_option maxRecDepth 100000 in
theorem cw_M_behind : Cond.code y_M_behind c_M_behind 4 (some .int) ∈ hz_T lw_tbl := hz_T_in 746 rfl rfl
set_option maxRecDepth 100000 in
theorem cw_M_child : Cond.code y_M_child c_M_child 5 (some .int) ∈ hz_T lw_tbl := hz_T_in 754 rfl rfl
set_option maxRecDepth 100000 in
theorem cw_M_isBound : Cond.code y_M_isBound c_M_isBound 5 (some .boolean) ∈ hz_T lw_tbl := hz_T_in 742 rfl rfl
set_option maxRecDepth 100000 in
theorem cw_M_read : Cond.code y_M_read c_M_read 3 (some .int) ∈ hz_T lw_tbl := hz_T_in 712 rfl rfl
set_option maxRecDepth 100000 in
theorem cw_M_define : Cond.code y_M_define c_M_define 5 (some .int) ∈ hz_T lw_tbl := hz_T_in 705 rfl rfl
set_option maxRecDepth 100000 in
theorem cw_M_forget : Cond.code y_M_forget c_M_forget 2 none ∈ hz_T lw_tbl := hz_T_in 758 rfl rfl
set_option maxRecDepth 100000 in
theorem cw_M_parameters : Cond.code y_M_parameters c_M_parameters 2 (some .int) ∈ hz_T lw_tbl := hz_T_in 762 rfl rfl
set_option maxRecDepth 100000 in
theorem cw_M_newPromise : Cond.code y_M_newPromise c_M_newPromise 3 (some .int) ∈ hz_T lw_tbl := hz_T_in 790 rfl rfl
set_option maxRecDepth 100000 in
theorem cw_M_promise : Cond.code y_M_promise c_M_promise 3 (some .int) ∈ hz_T lw_tbl := hz_T_in 818 rfl rfl
set_option maxRecDepth 100000 in
theorem cw_M_looked : Cond.code y_M_looked c_M_looked 4 (some .int) ∈ hz_T lw_tbl := hz_T_in 806 rfl rfl
set_option maxRecDepth 100000 in
theorem cw_M_bind : Cond.code y_M_bind c_M_bind 4 (some .int) ∈ hz_T lw_tbl := hz_T_in 830 rfl rfl
set_option maxRecDepth 100000 in
theorem cw_M_store : Cond.code y_M_store c_M_store 2 (some .int) ∈ hz_T lw_tbl := hz_T_in 822 rfl rfl
set_option maxRecDepth 100000 in
theorem cw_M_stack : Cond.code y_M_stack c_M_stack 4 none ∈ hz_T lw_tbl := hz_T_in 774 rfl rfl
set_option maxRecDepth 100000 in
theorem cw_M_evaluate : Cond.code y_M_evaluate c_M_evaluate 3 none ∈ hz_T lw_tbl := hz_T_in 798 rfl rfl
set_option maxRecDepth 100000 in
theorem cw_M_found : Cond.code y_M_found c_M_found 3 none ∈ hz_T lw_tbl := hz_T_in 782 rfl rfl
set_option maxRecDepth 100000 in
theorem cw_M_nothing : Cond.code y_M_nothing c_M_nothing 1 none ∈ hz_T lw_tbl := hz_T_in 770 rfl rfl
set_option maxRecDepth 100000 in
theorem cw_M_enter : Cond.code y_M_enter c_M_enter 3 none ∈ hz_T lw_tbl := hz_T_in 794 rfl rfl
set_option maxRecDepth 100000 in
theorem cw_M_need : Cond.code y_M_need c_M_need 2 none ∈ hz_T lw_tbl := hz_T_in 810 rfl rfl
set_option maxRecDepth 100000 in
theorem cw_M_letter : Cond.code y_M_letter c_M_letter 2 none ∈ hz_T lw_tbl := hz_T_in 778 rfl rfl
set_option maxRecDepth 100000 in
theorem cw_M_body : Cond.code y_M_body c_M_body 3 none ∈ hz_T lw_tbl := hz_T_in 786 rfl rfl
set_option maxRecDepth 100000 in
theorem cw_M_pair : Cond.code y_M_pair c_M_pair 5 none ∈ hz_T lw_tbl := hz_T_in 814 rfl rfl
set_option maxRecDepth 100000 in
theorem cw_M_let : Cond.code y_M_let c_M_let 5 none ∈ hz_T lw_tbl := hz_T_in 826 rfl rfl
set_option maxRecDepth 100000 in
theorem cw_M_step : Cond.code y_M_step c_M_step 3 none ∈ hz_T lw_tbl := hz_T_in 802 rfl rfl
set_option maxRecDepth 100000 in
theorem cw_M_feed : Cond.code y_M_feed c_M_feed 10 none ∈ hz_T lw_tbl := hz_T_in 838 rfl rfl
set_option maxRecDepth 100000 in
theorem cw_M_extend : Cond.code y_M_extend c_M_extend 9 none ∈ hz_T lw_tbl := hz_T_in 842 rfl rfl
set_option maxRecDepth 100000 in
theorem cw_M_rekon : Cond.code y_M_rekon c_M_rekon 4 (some .int) ∈ hz_T lw_tbl := hz_T_in 875 rfl rfl
set_option maxRecDepth 100000 in
theorem cw_M_counted : Cond.code y_M_counted c_M_counted 4 none ∈ hz_T lw_tbl := hz_T_in 871 rfl rfl
set_option maxRecDepth 100000 in
theorem cw_M_part : Cond.code y_M_part c_M_part 4 none ∈ hz_T lw_tbl := hz_T_in 846 rfl rfl
set_option maxRecDepth 100000 in
theorem cw_M_put : Cond.code y_M_put c_M_put 2 none ∈ hz_T lw_tbl := hz_T_in 858 rfl rfl
set_option maxRecDepth 100000 in
theorem cw_M_putNumber : Cond.code y_M_putNumber c_M_putNumber 6 none ∈ hz_T lw_tbl := hz_T_in 854 rfl rfl
set_option maxRecDepth 100000 in
theorem cw_M_writePair : Cond.code y_M_writePair c_M_writePair 2 none ∈ hz_T lw_tbl := hz_T_in 863 rfl rfl
set_option maxRecDepth 100000 in
theorem cw_M_write : Cond.code y_M_write c_M_write 3 none ∈ hz_T lw_tbl := hz_T_in 850 rfl rfl
set_option maxRecDepth 100000 in
theorem cw_M_tail : Cond.code y_M_tail c_M_tail 3 none ∈ hz_T lw_tbl := hz_T_in 867 rfl rfl
set_option maxRecDepth 100000 in
theorem cw_M_goOn : Cond.code y_M_goOn c_M_goOn 4 none ∈ hz_T lw_tbl := hz_T_in 834 rfl rfl
set_option maxRecDepth 100000 in
theorem cw_M_run : Cond.code y_M_run c_M_run 4 (some .int) ∈ hz_T lw_tbl := hz_T_in 766 rfl rfl
set_option maxRecDepth 100000 in
theorem cw_M_entries : Cond.code y_M_entries c_M_entries 1 (some .int) ∈ hz_T lw_tbl := hz_T_in 879 rfl rfl
set_option maxRecDepth 100000 in
theorem cw_M_length : Cond.code y_M_length c_M_length 1 (some .int) ∈ hz_T lw_tbl := hz_T_in 883 rfl rfl
set_option maxRecDepth 100000 in
theorem cw_M_charAt : Cond.code y_M_charAt c_M_charAt 2 (some .char) ∈ hz_T lw_tbl := hz_T_in 887 rfl rfl
set_option maxRecDepth 100000 in
theorem cw_D_init : Cond.code y_D_init c_D_init 3 none ∈ hz_T lw_tbl := hz_T_in 305 rfl rfl
set_option maxRecDepth 100000 in
theorem cw_G_init : Cond.code y_G_init c_G_init 1 none ∈ hz_T lw_tbl := hz_T_in 97 rfl rfl
set_option maxRecDepth 100000 in
theorem cw_G_parameterCount : Cond.code y_G_parameterCount c_G_parameterCount 3 (some .int) ∈ hz_T lw_tbl := hz_T_in 210 rfl rfl
set_option maxRecDepth 100000 in
theorem cw_G_begin : Cond.code y_G_begin c_G_begin 4 none ∈ hz_T lw_tbl := hz_T_in 455 rfl rfl
set_option maxRecDepth 100000 in
theorem cw_G_need : Cond.code y_G_need c_G_need 3 (some .boolean) ∈ hz_T lw_tbl := hz_T_in 464 rfl rfl
set_option maxRecDepth 100000 in
theorem cw_G_head : Cond.code y_G_head c_G_head 2 (some .int) ∈ hz_T lw_tbl := hz_T_in 529 rfl rfl
set_option maxRecDepth 100000 in
theorem cw_G_tail : Cond.code y_G_tail c_G_tail 2 (some .int) ∈ hz_T lw_tbl := hz_T_in 533 rfl rfl
set_option maxRecDepth 100000 in
theorem cw_G_request : Cond.code y_G_request c_G_request 2 (some .boolean) ∈ hz_T lw_tbl := hz_T_in 468 rfl rfl
set_option maxRecDepth 100000 in
theorem cw_G_keep : Cond.code y_G_keep c_G_keep 4 none ∈ hz_T lw_tbl := hz_T_in 482 rfl rfl
set_option maxRecDepth 100000 in
theorem cw_G_keepAs : Cond.code y_G_keepAs c_G_keepAs 3 none ∈ hz_T lw_tbl := hz_T_in 490 rfl rfl
set_option maxRecDepth 100000 in
theorem cw_G_lookAt : Cond.code y_G_lookAt c_G_lookAt 5 none ∈ hz_T lw_tbl := hz_T_in 473 rfl rfl
set_option maxRecDepth 100000 in
theorem cw_G_lookAtLetter : Cond.code y_G_lookAtLetter c_G_lookAtLetter 4 none ∈ hz_T lw_tbl := hz_T_in 477 rfl rfl
set_option maxRecDepth 100000 in
theorem cw_G_lookAtApplication : Cond.code y_G_lookAtApplication c_G_lookAtApplication 3 none ∈ hz_T lw_tbl := hz_T_in 497 rfl rfl
set_option maxRecDepth 100000 in
theorem cw_G_takeArguments : Cond.code y_G_takeArguments c_G_takeArguments 7 none ∈ hz_T lw_tbl := hz_T_in 505 rfl rfl
set_option maxRecDepth 100000 in
theorem cw_G_promiseCount : Cond.code y_G_promiseCount c_G_promiseCount 4 (some .int) ∈ hz_T lw_tbl := hz_T_in 513 rfl rfl
set_option maxRecDepth 100000 in
theorem cw_G_letterOf : Cond.code y_G_letterOf c_G_letterOf 4 (some .int) ∈ hz_T lw_tbl := hz_T_in 509 rfl rfl
set_option maxRecDepth 100000 in
theorem cw_G_enter : Cond.code y_G_enter c_G_enter 7 (some .int) ∈ hz_T lw_tbl := hz_T_in 486 rfl rfl
set_option maxRecDepth 100000 in
theorem cw_G_lookAtChoice : Cond.code y_G_lookAtChoice c_G_lookAtChoice 4 none ∈ hz_T lw_tbl := hz_T_in 517 rfl rfl
set_option maxRecDepth 100000 in
theorem cw_G_lookAtSplit : Cond.code y_G_lookAtSplit c_G_lookAtSplit 5 none ∈ hz_T lw_tbl := hz_T_in 525 rfl rfl
set_option maxRecDepth 100000 in
theorem cw_G_lookAtArithmetic : Cond.code y_G_lookAtArithmetic c_G_lookAtArithmetic 5 none ∈ hz_T lw_tbl := hz_T_in 537 rfl rfl
set_option maxRecDepth 100000 in
theorem cw_G_requestNumber : Cond.code y_G_requestNumber c_G_requestNumber 2 (some .boolean) ∈ hz_T lw_tbl := hz_T_in 521 rfl rfl
set_option maxRecDepth 100000 in
theorem cw_G_calculate : Cond.code y_G_calculate c_G_calculate 3 (some .int) ∈ hz_T lw_tbl := hz_T_in 540 rfl rfl
set_option maxRecDepth 100000 in
theorem cw_G_nextPart : Cond.code y_G_nextPart c_G_nextPart 4 (some .int) ∈ hz_T lw_tbl := hz_T_in 501 rfl rfl
set_option maxRecDepth 100000 in
theorem cw_R_init : Cond.code y_R_init c_R_init 3 none ∈ hz_T lw_tbl := hz_T_in 335 rfl rfl
set_option maxRecDepth 100000 in
theorem cw_R_read : Cond.code y_R_read c_R_read 1 (some .int) ∈ hz_T lw_tbl := hz_T_in 356 rfl rfl
set_option maxRecDepth 100000 in
theorem cw_R_readParameters : Cond.code y_R_readParameters c_R_readParameters 1 none ∈ hz_T lw_tbl := hz_T_in 360 rfl rfl
set_option maxRecDepth 100000 in
theorem cw_R_readPart : Cond.code y_R_readPart c_R_readPart 5 (some .int) ∈ hz_T lw_tbl := hz_T_in 379 rfl rfl
set_option maxRecDepth 100000 in
theorem cw_R_useVariable : Cond.code y_R_useVariable c_R_useVariable 3 none ∈ hz_T lw_tbl := hz_T_in 383 rfl rfl
set_option maxRecDepth 100000 in
theorem cw_R_readWhole : Cond.code y_R_readWhole c_R_readWhole 3 none ∈ hz_T lw_tbl := hz_T_in 391 rfl rfl
set_option maxRecDepth 100000 in
theorem cw_R_readParts : Cond.code y_R_readParts c_R_readParts 5 (some .int) ∈ hz_T lw_tbl := hz_T_in 395 rfl rfl
set_option maxRecDepth 100000 in
theorem cw_R_readApplication : Cond.code y_R_readApplication c_R_readApplication 4 none ∈ hz_T lw_tbl := hz_T_in 399 rfl rfl
set_option maxRecDepth 100000 in
theorem cw_R_readSplit : Cond.code y_R_readSplit c_R_readSplit 7 none ∈ hz_T lw_tbl := hz_T_in 403 rfl rfl
set_option maxRecDepth 100000 in
theorem cw_R_readBinding : Cond.code y_R_readBinding c_R_readBinding 4 none ∈ hz_T lw_tbl := hz_T_in 415 rfl rfl
set_option maxRecDepth 100000 in
theorem cw_R_readVariable : Cond.code y_R_readVariable c_R_readVariable 2 (some .int) ∈ hz_T lw_tbl := hz_T_in 407 rfl rfl
set_option maxRecDepth 100000 in
theorem cw_R_readSign : Cond.code y_R_readSign c_R_readSign 2 none ∈ hz_T lw_tbl := hz_T_in 375 rfl rfl
set_option maxRecDepth 100000 in
theorem cw_R_sign : Cond.code y_R_sign c_R_sign 1 (some .char) ∈ hz_T lw_tbl := hz_T_in 364 rfl rfl
set_option maxRecDepth 100000 in
theorem cw_R_bind : Cond.code y_R_bind c_R_bind 4 (some .int) ∈ hz_T lw_tbl := hz_T_in 371 rfl rfl
set_option maxRecDepth 100000 in
theorem cw_R_unbind : Cond.code y_R_unbind c_R_unbind 3 none ∈ hz_T lw_tbl := hz_T_in 411 rfl rfl
set_option maxRecDepth 100000 in
theorem cw_W_init : Cond.code y_W_init c_W_init 1 none ∈ hz_T lw_tbl := hz_T_in 156 rfl rfl
set_option maxRecDepth 100000 in
theorem cw_W_write : Cond.code y_W_write c_W_write 3 none ∈ hz_T lw_tbl := hz_T_in 459 rfl rfl
set_option maxRecDepth 100000 in
theorem cw_W_writeValue : Cond.code y_W_writeValue c_W_writeValue 4 none ∈ hz_T lw_tbl := hz_T_in 558 rfl rfl
set_option maxRecDepth 100000 in
theorem cw_W_writeRest : Cond.code y_W_writeRest c_W_writeRest 4 none ∈ hz_T lw_tbl := hz_T_in 544 rfl rfl
set_option maxRecDepth 100000 in
theorem cw_W_goOn : Cond.code y_W_goOn c_W_goOn 2 none ∈ hz_T lw_tbl := hz_T_in 553 rfl rfl
set_option maxRecDepth 100000 in
theorem cw_W_putNumber : Cond.code y_W_putNumber c_W_putNumber 7 none ∈ hz_T lw_tbl := hz_T_in 562 rfl rfl
set_option maxRecDepth 100000 in
theorem cw_W_put : Cond.code y_W_put c_W_put 3 (some .boolean) ∈ hz_T lw_tbl := hz_T_in 548 rfl rfl
set_option maxRecDepth 100000 in
theorem cb_F_19 : hz_cN lw_tbl R_F 19 y_G_init c_G_init 1 none 0 := ⟨⟨"LazyGraphs", List.mem_of_getElem? (i := 95) (by decide +kernel)⟩, hz_T_in 74 (by decide +kernel) (by decide +kernel), cw_G_init, ⟨by decide +kernel, by decide +kernel, by decide +kernel⟩⟩
set_option maxRecDepth 100000 in
theorem cb_F_26 : hz_cN lw_tbl R_F 26 y_W_init c_W_init 1 none 0 := ⟨⟨"LazyGraphs", List.mem_of_getElem? (i := 154) (by decide +kernel)⟩, hz_T_in 75 (by decide +kernel) (by decide +kernel), cw_W_init, ⟨by decide +kernel, by decide +kernel, by decide +kernel⟩⟩
set_option maxRecDepth 100000 in
theorem cb_F_31 : hz_cB lw_tbl R_F 31 y_F_letterNumber c_F_letterNumber 1 (some .int) 1 := ⟨hz_T_in 231 (by decide +kernel) (by decide +kernel), hz_T_in 73 (by decide +kernel) (by decide +kernel), cw_F_letterNumber, ⟨by decide +kernel, by decide +kernel, by decide +kernel⟩⟩
set_option maxRecDepth 100000 in
theorem cb_F_37 : hz_cB lw_tbl R_F 37 y_D_init c_D_init 3 none 2 := ⟨hz_T_in 303 (by decide +kernel) (by decide +kernel), hz_T_in 81 (by decide +kernel) (by decide +kernel), cw_D_init, ⟨by decide +kernel, by decide +kernel, by decide +kernel⟩⟩
set_option maxRecDepth 100000 in
theorem cb_F_42 : hz_cB lw_tbl R_F 42 y_R_init c_R_init 3 none 1 := ⟨hz_T_in 333 (by decide +kernel) (by decide +kernel), hz_T_in 83 (by decide +kernel) (by decide +kernel), cw_R_init, ⟨by decide +kernel, by decide +kernel, by decide +kernel⟩⟩
set_option maxRecDepth 100000 in
theorem cb_F_45 : hz_cB lw_tbl R_F 45 y_R_read c_R_read 1 (some .int) 0 := ⟨hz_T_in 353 (by decide +kernel) (by decide +kernel), hz_T_in 83 (by decide +kernel) (by decide +kernel), cw_R_read, ⟨by decide +kernel, by decide +kernel, by decide +kernel⟩⟩
set_option maxRecDepth 100000 in
theorem cb_F_53 : hz_cB lw_tbl R_F 53 y_F_checkDefined c_F_checkDefined 2 none 1 := ⟨hz_T_in 424 (by decide +kernel) (by decide +kernel), hz_T_in 73 (by decide +kernel) (by decide +kernel), cw_F_checkDefined, ⟨by decide +kernel, by decide +kernel, by decide +kernel⟩⟩
set_option maxRecDepth 100000 in
theorem cb_F_57 : hz_cB lw_tbl R_F 57 y_F_isLetter c_F_isLetter 1 (some .boolean) 1 := ⟨hz_T_in 204 (by decide +kernel) (by decide +kernel), hz_T_in 73 (by decide +kernel) (by decide +kernel), cw_F_isLetter, ⟨by decide +kernel, by decide +kernel, by decide +kernel⟩⟩
set_option maxRecDepth 100000 in
theorem cb_F_61 : hz_cB lw_tbl R_F 61 y_G_parameterCount c_G_parameterCount 3 (some .int) 1 := ⟨hz_T_in 207 (by decide +kernel) (by decide +kernel), hz_T_in 74 (by decide +kernel) (by decide +kernel), cw_G_parameterCount, ⟨by decide +kernel, by decide +kernel, by decide +kernel⟩⟩
set_option maxRecDepth 100000 in
theorem cb_F_72 : hz_cB lw_tbl R_F 72 y_G_begin c_G_begin 4 none 2 := ⟨hz_T_in 452 (by decide +kernel) (by decide +kernel), hz_T_in 74 (by decide +kernel) (by decide +kernel), cw_G_begin, ⟨by decide +kernel, by decide +kernel, by decide +kernel⟩⟩
set_option maxRecDepth 100000 in
theorem cb_F_76 : hz_cB lw_tbl R_F 76 y_W_write c_W_write 3 none 1 := ⟨hz_T_in 456 (by decide +kernel) (by decide +kernel), hz_T_in 75 (by decide +kernel) (by decide +kernel), cw_W_write, ⟨by decide +kernel, by decide +kernel, by decide +kernel⟩⟩
set_option maxRecDepth 100000 in
theorem cb_M_93 : hz_cB lw_tbl R_M 93 y_M_push c_M_push 4 none 3 := ⟨hz_T_in 713 (by decide +kernel) (by decide +kernel), hz_T_in 76 (by decide +kernel) (by decide +kernel), cw_M_push, ⟨by decide +kernel, by decide +kernel, by decide +kernel⟩⟩
set_option maxRecDepth 100000 in
theorem cb_M_97 : hz_cB lw_tbl R_M 97 y_M_isVariable c_M_isVariable 1 (some .boolean) 1 := ⟨hz_T_in 721 (by decide +kernel) (by decide +kernel), hz_T_in 76 (by decide +kernel) (by decide +kernel), cw_M_isVariable, ⟨by decide +kernel, by decide +kernel, by decide +kernel⟩⟩
set_option maxRecDepth 100000 in
theorem cb_M_101 : hz_cB lw_tbl R_M 101 y_M_isLetter c_M_isLetter 1 (some .boolean) 1 := ⟨hz_T_in 706 (by decide +kernel) (by decide +kernel), hz_T_in 76 (by decide +kernel) (by decide +kernel), cw_M_isLetter, ⟨by decide +kernel, by decide +kernel, by decide +kernel⟩⟩
set_option maxRecDepth 100000 in
theorem cb_M_104 : hz_cB lw_tbl R_M 104 y_M_add c_M_add 4 (some .int) 3 := ⟨hz_T_in 728 (by decide +kernel) (by decide +kernel), hz_T_in 76 (by decide +kernel) (by decide +kernel), cw_M_add, ⟨by decide +kernel, by decide +kernel, by decide +kernel⟩⟩
set_option maxRecDepth 100000 in
theorem cb_M_108 : hz_cB lw_tbl R_M 108 y_M_pushExpressions c_M_pushExpressions 4 none 2 := ⟨hz_T_in 732 (by decide +kernel) (by decide +kernel), hz_T_in 76 (by decide +kernel) (by decide +kernel), cw_M_pushExpressions, ⟨by decide +kernel, by decide +kernel, by decide +kernel⟩⟩
set_option maxRecDepth 100000 in
theorem cb_M_112 : hz_cB lw_tbl R_M 112 y_M_isOperator c_M_isOperator 1 (some .boolean) 1 := ⟨hz_T_in 736 (by decide +kernel) (by decide +kernel), hz_T_in 76 (by decide +kernel) (by decide +kernel), cw_M_isOperator, ⟨by decide +kernel, by decide +kernel, by decide +kernel⟩⟩
set_option maxRecDepth 100000 in
theorem cb_M_115 : hz_cB lw_tbl R_M 115 y_M_begin c_M_begin 6 (some .boolean) 3 := ⟨hz_T_in 724 (by decide +kernel) (by decide +kernel), hz_T_in 76 (by decide +kernel) (by decide +kernel), cw_M_begin, ⟨by decide +kernel, by decide +kernel, by decide +kernel⟩⟩
set_option maxRecDepth 100000 in
theorem cb_M_119 : hz_cB lw_tbl R_M 119 y_M_below c_M_below 2 (some .int) 1 := ⟨hz_T_in 747 (by decide +kernel) (by decide +kernel), hz_T_in 76 (by decide +kernel) (by decide +kernel), cw_M_below, ⟨by decide +kernel, by decide +kernel, by decide +kernel⟩⟩
set_option maxRecDepth 100000 in
theorem cb_M_123 : hz_cB lw_tbl R_M 123 y_M_behind c_M_behind 4 (some .int) 1 := ⟨hz_T_in 743 (by decide +kernel) (by decide +kernel), hz_T_in 76 (by decide +kernel) (by decide +kernel), cw_M_behind, ⟨by decide +kernel, by decide +kernel, by decide +kernel⟩⟩
set_option maxRecDepth 100000 in
theorem cb_M_126 : hz_cB lw_tbl R_M 126 y_M_child c_M_child 5 (some .int) 2 := ⟨hz_T_in 751 (by decide +kernel) (by decide +kernel), hz_T_in 76 (by decide +kernel) (by decide +kernel), cw_M_child, ⟨by decide +kernel, by decide +kernel, by decide +kernel⟩⟩
set_option maxRecDepth 100000 in
theorem cb_M_130 : hz_cB lw_tbl R_M 130 y_M_take c_M_take 5 (some .boolean) 2 := ⟨hz_T_in 717 (by decide +kernel) (by decide +kernel), hz_T_in 76 (by decide +kernel) (by decide +kernel), cw_M_take, ⟨by decide +kernel, by decide +kernel, by decide +kernel⟩⟩
set_option maxRecDepth 100000 in
theorem cb_M_134 : hz_cB lw_tbl R_M 134 y_M_isBound c_M_isBound 5 (some .boolean) 1 := ⟨hz_T_in 739 (by decide +kernel) (by decide +kernel), hz_T_in 76 (by decide +kernel) (by decide +kernel), cw_M_isBound, ⟨by decide +kernel, by decide +kernel, by decide +kernel⟩⟩
set_option maxRecDepth 100000 in
theorem cb_M_137 : hz_cB lw_tbl R_M 137 y_M_read c_M_read 3 (some .int) 0 := ⟨hz_T_in 709 (by decide +kernel) (by decide +kernel), hz_T_in 76 (by decide +kernel) (by decide +kernel), cw_M_read, ⟨by decide +kernel, by decide +kernel, by decide +kernel⟩⟩
set_option maxRecDepth 100000 in
theorem cb_M_144 : hz_cB lw_tbl R_M 144 y_M_looked c_M_looked 4 (some .int) 2 := ⟨hz_T_in 803 (by decide +kernel) (by decide +kernel), hz_T_in 76 (by decide +kernel) (by decide +kernel), cw_M_looked, ⟨by decide +kernel, by decide +kernel, by decide +kernel⟩⟩
set_option maxRecDepth 100000 in
theorem cb_M_147 : hz_cB lw_tbl R_M 147 y_M_newPromise c_M_newPromise 3 (some .int) 2 := ⟨hz_T_in 787 (by decide +kernel) (by decide +kernel), hz_T_in 76 (by decide +kernel) (by decide +kernel), cw_M_newPromise, ⟨by decide +kernel, by decide +kernel, by decide +kernel⟩⟩
set_option maxRecDepth 100000 in
theorem cb_M_180 : hz_cB lw_tbl R_M 180 y_M_evaluate c_M_evaluate 3 none 2 := ⟨hz_T_in 795 (by decide +kernel) (by decide +kernel), hz_T_in 76 (by decide +kernel) (by decide +kernel), cw_M_evaluate, ⟨by decide +kernel, by decide +kernel, by decide +kernel⟩⟩
set_option maxRecDepth 100000 in
theorem cb_M_183 : hz_cB lw_tbl R_M 183 y_M_letter c_M_letter 2 none 1 := ⟨hz_T_in 775 (by decide +kernel) (by decide +kernel), hz_T_in 76 (by decide +kernel) (by decide +kernel), cw_M_letter, ⟨by decide +kernel, by decide +kernel, by decide +kernel⟩⟩
set_option maxRecDepth 100000 in
theorem cb_M_187 : hz_cB lw_tbl R_M 187 y_M_found c_M_found 3 none 2 := ⟨hz_T_in 779 (by decide +kernel) (by decide +kernel), hz_T_in 76 (by decide +kernel) (by decide +kernel), cw_M_found, ⟨by decide +kernel, by decide +kernel, by decide +kernel⟩⟩
set_option maxRecDepth 100000 in
theorem cb_M_190 : hz_cB lw_tbl R_M 190 y_M_stack c_M_stack 4 none 3 := ⟨hz_T_in 771 (by decide +kernel) (by decide +kernel), hz_T_in 76 (by decide +kernel) (by decide +kernel), cw_M_stack, ⟨by decide +kernel, by decide +kernel, by decide +kernel⟩⟩
set_option maxRecDepth 100000 in
theorem cb_M_193 : hz_cB lw_tbl R_M 193 y_M_body c_M_body 3 none 1 := ⟨hz_T_in 783 (by decide +kernel) (by decide +kernel), hz_T_in 76 (by decide +kernel) (by decide +kernel), cw_M_body, ⟨by decide +kernel, by decide +kernel, by decide +kernel⟩⟩
set_option maxRecDepth 100000 in
theorem cb_M_196 : hz_cB lw_tbl R_M 196 y_M_enter c_M_enter 3 none 2 := ⟨hz_T_in 791 (by decide +kernel) (by decide +kernel), hz_T_in 76 (by decide +kernel) (by decide +kernel), cw_M_enter, ⟨by decide +kernel, by decide +kernel, by decide +kernel⟩⟩
set_option maxRecDepth 100000 in
theorem cb_M_199 : hz_cB lw_tbl R_M 199 y_M_promise c_M_promise 3 (some .int) 2 := ⟨hz_T_in 815 (by decide +kernel) (by decide +kernel), hz_T_in 76 (by decide +kernel) (by decide +kernel), cw_M_promise, ⟨by decide +kernel, by decide +kernel, by decide +kernel⟩⟩
set_option maxRecDepth 100000 in
theorem cb_M_202 : hz_cB lw_tbl R_M 202 y_M_store c_M_store 2 (some .int) 1 := ⟨hz_T_in 819 (by decide +kernel) (by decide +kernel), hz_T_in 76 (by decide +kernel) (by decide +kernel), cw_M_store, ⟨by decide +kernel, by decide +kernel, by decide +kernel⟩⟩
set_option maxRecDepth 100000 in
theorem cb_M_205 : hz_cB lw_tbl R_M 205 y_M_bind c_M_bind 4 (some .int) 3 := ⟨hz_T_in 827 (by decide +kernel) (by decide +kernel), hz_T_in 76 (by decide +kernel) (by decide +kernel), cw_M_bind, ⟨by decide +kernel, by decide +kernel, by decide +kernel⟩⟩
set_option maxRecDepth 100000 in
theorem cb_M_208 : hz_cB lw_tbl R_M 208 y_M_need c_M_need 2 none 1 := ⟨hz_T_in 807 (by decide +kernel) (by decide +kernel), hz_T_in 76 (by decide +kernel) (by decide +kernel), cw_M_need, ⟨by decide +kernel, by decide +kernel, by decide +kernel⟩⟩
set_option maxRecDepth 100000 in
theorem cb_M_211 : hz_cB lw_tbl R_M 211 y_M_pair c_M_pair 5 none 2 := ⟨hz_T_in 811 (by decide +kernel) (by decide +kernel), hz_T_in 76 (by decide +kernel) (by decide +kernel), cw_M_pair, ⟨by decide +kernel, by decide +kernel, by decide +kernel⟩⟩
set_option maxRecDepth 100000 in
theorem cb_M_214 : hz_cB lw_tbl R_M 214 y_M_let c_M_let 5 none 2 := ⟨hz_T_in 823 (by decide +kernel) (by decide +kernel), hz_T_in 76 (by decide +kernel) (by decide +kernel), cw_M_let, ⟨by decide +kernel, by decide +kernel, by decide +kernel⟩⟩
set_option maxRecDepth 100000 in
theorem cb_M_217 : hz_cB lw_tbl R_M 217 y_M_extend c_M_extend 9 none 4 := ⟨hz_T_in 839 (by decide +kernel) (by decide +kernel), hz_T_in 76 (by decide +kernel) (by decide +kernel), cw_M_extend, ⟨by decide +kernel, by decide +kernel, by decide +kernel⟩⟩
set_option maxRecDepth 100000 in
theorem cb_M_221 : hz_cB lw_tbl R_M 221 y_M_rekon c_M_rekon 4 (some .int) 3 := ⟨hz_T_in 872 (by decide +kernel) (by decide +kernel), hz_T_in 76 (by decide +kernel) (by decide +kernel), cw_M_rekon, ⟨by decide +kernel, by decide +kernel, by decide +kernel⟩⟩
set_option maxRecDepth 100000 in
theorem cb_M_227 : hz_cB lw_tbl R_M 227 y_M_put c_M_put 2 none 1 := ⟨hz_T_in 855 (by decide +kernel) (by decide +kernel), hz_T_in 76 (by decide +kernel) (by decide +kernel), cw_M_put, ⟨by decide +kernel, by decide +kernel, by decide +kernel⟩⟩
set_option maxRecDepth 100000 in
theorem cb_M_232 : hz_cB lw_tbl R_M 232 y_M_nothing c_M_nothing 1 none 0 := ⟨hz_T_in 767 (by decide +kernel) (by decide +kernel), hz_T_in 76 (by decide +kernel) (by decide +kernel), cw_M_nothing, ⟨by decide +kernel, by decide +kernel, by decide +kernel⟩⟩
set_option maxRecDepth 100000 in
theorem cb_M_235 : hz_cB lw_tbl R_M 235 y_M_putNumber c_M_putNumber 6 none 1 := ⟨hz_T_in 851 (by decide +kernel) (by decide +kernel), hz_T_in 76 (by decide +kernel) (by decide +kernel), cw_M_putNumber, ⟨by decide +kernel, by decide +kernel, by decide +kernel⟩⟩
set_option maxRecDepth 100000 in
theorem cb_M_238 : hz_cB lw_tbl R_M 238 y_M_writePair c_M_writePair 2 none 1 := ⟨hz_T_in 860 (by decide +kernel) (by decide +kernel), hz_T_in 76 (by decide +kernel) (by decide +kernel), cw_M_writePair, ⟨by decide +kernel, by decide +kernel, by decide +kernel⟩⟩
set_option maxRecDepth 100000 in
theorem cb_M_241 : hz_cB lw_tbl R_M 241 y_M_feed c_M_feed 10 none 3 := ⟨hz_T_in 835 (by decide +kernel) (by decide +kernel), hz_T_in 76 (by decide +kernel) (by decide +kernel), cw_M_feed, ⟨by decide +kernel, by decide +kernel, by decide +kernel⟩⟩
set_option maxRecDepth 100000 in
theorem cb_M_244 : hz_cB lw_tbl R_M 244 y_M_part c_M_part 4 none 2 := ⟨hz_T_in 843 (by decide +kernel) (by decide +kernel), hz_T_in 76 (by decide +kernel) (by decide +kernel), cw_M_part, ⟨by decide +kernel, by decide +kernel, by decide +kernel⟩⟩
set_option maxRecDepth 100000 in
theorem cb_M_247 : hz_cB lw_tbl R_M 247 y_M_write c_M_write 3 none 0 := ⟨hz_T_in 847 (by decide +kernel) (by decide +kernel), hz_T_in 76 (by decide +kernel) (by decide +kernel), cw_M_write, ⟨by decide +kernel, by decide +kernel, by decide +kernel⟩⟩
set_option maxRecDepth 100000 in
theorem cb_M_250 : hz_cB lw_tbl R_M 250 y_M_tail c_M_tail 3 none 0 := ⟨hz_T_in 864 (by decide +kernel) (by decide +kernel), hz_T_in 76 (by decide +kernel) (by decide +kernel), cw_M_tail, ⟨by decide +kernel, by decide +kernel, by decide +kernel⟩⟩
set_option maxRecDepth 100000 in
theorem cb_M_253 : hz_cB lw_tbl R_M 253 y_M_counted c_M_counted 4 none 3 := ⟨hz_T_in 868 (by decide +kernel) (by decide +kernel), hz_T_in 76 (by decide +kernel) (by decide +kernel), cw_M_counted, ⟨by decide +kernel, by decide +kernel, by decide +kernel⟩⟩
set_option maxRecDepth 100000 in
theorem cb_M_256 : hz_cB lw_tbl R_M 256 y_M_step c_M_step 3 none 0 := ⟨hz_T_in 799 (by decide +kernel) (by decide +kernel), hz_T_in 76 (by decide +kernel) (by decide +kernel), cw_M_step, ⟨by decide +kernel, by decide +kernel, by decide +kernel⟩⟩
set_option maxRecDepth 100000 in
theorem cb_M_259 : hz_cB lw_tbl R_M 259 y_M_goOn c_M_goOn 4 none 0 := ⟨hz_T_in 831 (by decide +kernel) (by decide +kernel), hz_T_in 76 (by decide +kernel) (by decide +kernel), cw_M_goOn, ⟨by decide +kernel, by decide +kernel, by decide +kernel⟩⟩
set_option maxRecDepth 100000 in
theorem cb_G_61 : hz_cB lw_tbl R_G 61 y_G_request c_G_request 2 (some .boolean) 1 := ⟨hz_T_in 465 (by decide +kernel) (by decide +kernel), hz_T_in 74 (by decide +kernel) (by decide +kernel), cw_G_request, ⟨by decide +kernel, by decide +kernel, by decide +kernel⟩⟩
set_option maxRecDepth 100000 in
theorem cb_G_66 : hz_cB lw_tbl R_G 66 y_G_lookAt c_G_lookAt 5 none 1 := ⟨hz_T_in 470 (by decide +kernel) (by decide +kernel), hz_T_in 74 (by decide +kernel) (by decide +kernel), cw_G_lookAt, ⟨by decide +kernel, by decide +kernel, by decide +kernel⟩⟩
set_option maxRecDepth 100000 in
theorem cb_G_70 : hz_cB lw_tbl R_G 70 y_G_nextPart c_G_nextPart 4 (some .int) 1 := ⟨hz_T_in 498 (by decide +kernel) (by decide +kernel), hz_T_in 74 (by decide +kernel) (by decide +kernel), cw_G_nextPart, ⟨by decide +kernel, by decide +kernel, by decide +kernel⟩⟩
set_option maxRecDepth 100000 in
theorem cb_G_74 : hz_cB lw_tbl R_G 74 y_G_keep c_G_keep 4 none 3 := ⟨hz_T_in 479 (by decide +kernel) (by decide +kernel), hz_T_in 74 (by decide +kernel) (by decide +kernel), cw_G_keep, ⟨by decide +kernel, by decide +kernel, by decide +kernel⟩⟩
set_option maxRecDepth 100000 in
theorem cb_G_78 : hz_cB lw_tbl R_G 78 y_G_lookAtLetter c_G_lookAtLetter 4 none 2 := ⟨hz_T_in 474 (by decide +kernel) (by decide +kernel), hz_T_in 74 (by decide +kernel) (by decide +kernel), cw_G_lookAtLetter, ⟨by decide +kernel, by decide +kernel, by decide +kernel⟩⟩
set_option maxRecDepth 100000 in
theorem cb_G_86 : hz_cN lw_tbl R_G 86 y_F_isDigit c_F_isDigit 1 (some .boolean) 1 := ⟨⟨"LazyGraphs", List.mem_of_getElem? (i := 491) (by decide +kernel)⟩, hz_T_in 73 (by decide +kernel) (by decide +kernel), cw_F_isDigit, ⟨by decide +kernel, by decide +kernel, by decide +kernel⟩⟩
set_option maxRecDepth 100000 in
theorem cb_G_90 : hz_cN lw_tbl R_G 90 y_F_isVariable c_F_isVariable 1 (some .boolean) 1 := ⟨⟨"LazyGraphs", List.mem_of_getElem? (i := 492) (by decide +kernel)⟩, hz_T_in 73 (by decide +kernel) (by decide +kernel), cw_F_isVariable, ⟨by decide +kernel, by decide +kernel, by decide +kernel⟩⟩
set_option maxRecDepth 100000 in
theorem cb_G_96 : hz_cB lw_tbl R_G 96 y_G_keepAs c_G_keepAs 3 none 2 := ⟨hz_T_in 487 (by decide +kernel) (by decide +kernel), hz_T_in 74 (by decide +kernel) (by decide +kernel), cw_G_keepAs, ⟨by decide +kernel, by decide +kernel, by decide +kernel⟩⟩
set_option maxRecDepth 100000 in
theorem cb_G_99 : hz_cN lw_tbl R_G 99 y_F_isLetter c_F_isLetter 1 (some .boolean) 1 := ⟨⟨"LazyGraphs", List.mem_of_getElem? (i := 493) (by decide +kernel)⟩, hz_T_in 73 (by decide +kernel) (by decide +kernel), cw_F_isLetter, ⟨by decide +kernel, by decide +kernel, by decide +kernel⟩⟩
set_option maxRecDepth 100000 in
theorem cb_G_102 : hz_cB lw_tbl R_G 102 y_G_lookAtApplication c_G_lookAtApplication 3 none 1 := ⟨hz_T_in 494 (by decide +kernel) (by decide +kernel), hz_T_in 74 (by decide +kernel) (by decide +kernel), cw_G_lookAtApplication, ⟨by decide +kernel, by decide +kernel, by decide +kernel⟩⟩
set_option maxRecDepth 100000 in
theorem cb_G_105 : hz_cB lw_tbl R_G 105 y_G_lookAtChoice c_G_lookAtChoice 4 none 1 := ⟨hz_T_in 514 (by decide +kernel) (by decide +kernel), hz_T_in 74 (by decide +kernel) (by decide +kernel), cw_G_lookAtChoice, ⟨by decide +kernel, by decide +kernel, by decide +kernel⟩⟩
set_option maxRecDepth 100000 in
theorem cb_G_108 : hz_cB lw_tbl R_G 108 y_G_lookAtSplit c_G_lookAtSplit 5 none 1 := ⟨hz_T_in 522 (by decide +kernel) (by decide +kernel), hz_T_in 74 (by decide +kernel) (by decide +kernel), cw_G_lookAtSplit, ⟨by decide +kernel, by decide +kernel, by decide +kernel⟩⟩
set_option maxRecDepth 100000 in
theorem cb_G_111 : hz_cB lw_tbl R_G 111 y_G_lookAtArithmetic c_G_lookAtArithmetic 5 none 2 := ⟨hz_T_in 534 (by decide +kernel) (by decide +kernel), hz_T_in 74 (by decide +kernel) (by decide +kernel), cw_G_lookAtArithmetic, ⟨by decide +kernel, by decide +kernel, by decide +kernel⟩⟩
set_option maxRecDepth 100000 in
theorem cb_G_114 : hz_cB lw_tbl R_G 114 y_G_parameterCount c_G_parameterCount 3 (some .int) 1 := ⟨hz_T_in 478 (by decide +kernel) (by decide +kernel), hz_T_in 74 (by decide +kernel) (by decide +kernel), cw_G_parameterCount, ⟨by decide +kernel, by decide +kernel, by decide +kernel⟩⟩
set_option maxRecDepth 100000 in
theorem cb_G_116 : hz_cB lw_tbl R_G 116 y_G_enter c_G_enter 7 (some .int) 2 := ⟨hz_T_in 483 (by decide +kernel) (by decide +kernel), hz_T_in 74 (by decide +kernel) (by decide +kernel), cw_G_enter, ⟨by decide +kernel, by decide +kernel, by decide +kernel⟩⟩
set_option maxRecDepth 100000 in
theorem cb_G_120 : hz_cB lw_tbl R_G 120 y_G_takeArguments c_G_takeArguments 7 none 2 := ⟨hz_T_in 502 (by decide +kernel) (by decide +kernel), hz_T_in 74 (by decide +kernel) (by decide +kernel), cw_G_takeArguments, ⟨by decide +kernel, by decide +kernel, by decide +kernel⟩⟩
set_option maxRecDepth 100000 in
theorem cb_G_123 : hz_cB lw_tbl R_G 123 y_G_letterOf c_G_letterOf 4 (some .int) 1 := ⟨hz_T_in 506 (by decide +kernel) (by decide +kernel), hz_T_in 74 (by decide +kernel) (by decide +kernel), cw_G_letterOf, ⟨by decide +kernel, by decide +kernel, by decide +kernel⟩⟩
set_option maxRecDepth 100000 in
theorem cb_G_126 : hz_cB lw_tbl R_G 126 y_G_promiseCount c_G_promiseCount 4 (some .int) 1 := ⟨hz_T_in 510 (by decide +kernel) (by decide +kernel), hz_T_in 74 (by decide +kernel) (by decide +kernel), cw_G_promiseCount, ⟨by decide +kernel, by decide +kernel, by decide +kernel⟩⟩
set_option maxRecDepth 100000 in
theorem cb_G_129 : hz_cB lw_tbl R_G 129 y_G_requestNumber c_G_requestNumber 2 (some .boolean) 1 := ⟨hz_T_in 518 (by decide +kernel) (by decide +kernel), hz_T_in 74 (by decide +kernel) (by decide +kernel), cw_G_requestNumber, ⟨by decide +kernel, by decide +kernel, by decide +kernel⟩⟩
set_option maxRecDepth 100000 in
theorem cb_G_132 : hz_cB lw_tbl R_G 132 y_G_head c_G_head 2 (some .int) 1 := ⟨hz_T_in 526 (by decide +kernel) (by decide +kernel), hz_T_in 74 (by decide +kernel) (by decide +kernel), cw_G_head, ⟨by decide +kernel, by decide +kernel, by decide +kernel⟩⟩
set_option maxRecDepth 100000 in
theorem cb_G_135 : hz_cB lw_tbl R_G 135 y_G_tail c_G_tail 2 (some .int) 1 := ⟨hz_T_in 530 (by decide +kernel) (by decide +kernel), hz_T_in 74 (by decide +kernel) (by decide +kernel), cw_G_tail, ⟨by decide +kernel, by decide +kernel, by decide +kernel⟩⟩
set_option maxRecDepth 100000 in
theorem cb_G_138 : hz_cB lw_tbl R_G 138 y_G_calculate c_G_calculate 3 (some .int) 3 := ⟨hz_T_in 538 (by decide +kernel) (by decide +kernel), hz_T_in 74 (by decide +kernel) (by decide +kernel), cw_G_calculate, ⟨by decide +kernel, by decide +kernel, by decide +kernel⟩⟩
set_option maxRecDepth 100000 in
theorem cb_R_30 : hz_cB lw_tbl R_R 30 y_R_readParameters c_R_readParameters 1 none 0 := ⟨hz_T_in 357 (by decide +kernel) (by decide +kernel), hz_T_in 83 (by decide +kernel) (by decide +kernel), cw_R_readParameters, ⟨by decide +kernel, by decide +kernel, by decide +kernel⟩⟩
set_option maxRecDepth 100000 in
theorem cb_R_33 : hz_cB lw_tbl R_R 33 y_R_readPart c_R_readPart 5 (some .int) 2 := ⟨hz_T_in 376 (by decide +kernel) (by decide +kernel), hz_T_in 83 (by decide +kernel) (by decide +kernel), cw_R_readPart, ⟨by decide +kernel, by decide +kernel, by decide +kernel⟩⟩
set_option maxRecDepth 100000 in
theorem cb_R_46 : hz_cB lw_tbl R_R 46 y_R_sign c_R_sign 1 (some .char) 0 := ⟨hz_T_in 361 (by decide +kernel) (by decide +kernel), hz_T_in 83 (by decide +kernel) (by decide +kernel), cw_R_sign, ⟨by decide +kernel, by decide +kernel, by decide +kernel⟩⟩
set_option maxRecDepth 100000 in
theorem cb_R_50 : hz_cN lw_tbl R_R 50 y_F_isVariable c_F_isVariable 1 (some .boolean) 1 := ⟨⟨"LazyGraphs", List.mem_of_getElem? (i := 365) (by decide +kernel)⟩, hz_T_in 73 (by decide +kernel) (by decide +kernel), cw_F_isVariable, ⟨by decide +kernel, by decide +kernel, by decide +kernel⟩⟩
set_option maxRecDepth 100000 in
theorem cb_R_54 : hz_cB lw_tbl R_R 54 y_R_bind c_R_bind 4 (some .int) 1 := ⟨hz_T_in 368 (by decide +kernel) (by decide +kernel), hz_T_in 83 (by decide +kernel) (by decide +kernel), cw_R_bind, ⟨by decide +kernel, by decide +kernel, by decide +kernel⟩⟩
set_option maxRecDepth 100000 in
theorem cb_R_58 : hz_cB lw_tbl R_R 58 y_R_readSign c_R_readSign 2 none 1 := ⟨hz_T_in 372 (by decide +kernel) (by decide +kernel), hz_T_in 83 (by decide +kernel) (by decide +kernel), cw_R_readSign, ⟨by decide +kernel, by decide +kernel, by decide +kernel⟩⟩
set_option maxRecDepth 100000 in
theorem cb_R_65 : hz_cB lw_tbl R_R 65 y_R_useVariable c_R_useVariable 3 none 1 := ⟨hz_T_in 380 (by decide +kernel) (by decide +kernel), hz_T_in 83 (by decide +kernel) (by decide +kernel), cw_R_useVariable, ⟨by decide +kernel, by decide +kernel, by decide +kernel⟩⟩
set_option maxRecDepth 100000 in
theorem cb_R_68 : hz_cN lw_tbl R_R 68 y_F_isDigit c_F_isDigit 1 (some .boolean) 1 := ⟨⟨"LazyGraphs", List.mem_of_getElem? (i := 384) (by decide +kernel)⟩, hz_T_in 73 (by decide +kernel) (by decide +kernel), cw_F_isDigit, ⟨by decide +kernel, by decide +kernel, by decide +kernel⟩⟩
set_option maxRecDepth 100000 in
theorem cb_R_71 : hz_cN lw_tbl R_R 71 y_F_isLetter c_F_isLetter 1 (some .boolean) 1 := ⟨⟨"LazyGraphs", List.mem_of_getElem? (i := 387) (by decide +kernel)⟩, hz_T_in 73 (by decide +kernel) (by decide +kernel), cw_F_isLetter, ⟨by decide +kernel, by decide +kernel, by decide +kernel⟩⟩
set_option maxRecDepth 100000 in
theorem cb_R_74 : hz_cB lw_tbl R_R 74 y_R_readWhole c_R_readWhole 3 none 2 := ⟨hz_T_in 388 (by decide +kernel) (by decide +kernel), hz_T_in 83 (by decide +kernel) (by decide +kernel), cw_R_readWhole, ⟨by decide +kernel, by decide +kernel, by decide +kernel⟩⟩
set_option maxRecDepth 100000 in
theorem cb_R_81 : hz_cB lw_tbl R_R 81 y_R_readParts c_R_readParts 5 (some .int) 2 := ⟨hz_T_in 392 (by decide +kernel) (by decide +kernel), hz_T_in 83 (by decide +kernel) (by decide +kernel), cw_R_readParts, ⟨by decide +kernel, by decide +kernel, by decide +kernel⟩⟩
set_option maxRecDepth 100000 in
theorem cb_R_84 : hz_cB lw_tbl R_R 84 y_R_readApplication c_R_readApplication 4 none 1 := ⟨hz_T_in 396 (by decide +kernel) (by decide +kernel), hz_T_in 83 (by decide +kernel) (by decide +kernel), cw_R_readApplication, ⟨by decide +kernel, by decide +kernel, by decide +kernel⟩⟩
set_option maxRecDepth 100000 in
theorem cb_R_88 : hz_cB lw_tbl R_R 88 y_R_readSplit c_R_readSplit 7 none 1 := ⟨hz_T_in 400 (by decide +kernel) (by decide +kernel), hz_T_in 83 (by decide +kernel) (by decide +kernel), cw_R_readSplit, ⟨by decide +kernel, by decide +kernel, by decide +kernel⟩⟩
set_option maxRecDepth 100000 in
theorem cb_R_91 : hz_cB lw_tbl R_R 91 y_R_readBinding c_R_readBinding 4 none 1 := ⟨hz_T_in 412 (by decide +kernel) (by decide +kernel), hz_T_in 83 (by decide +kernel) (by decide +kernel), cw_R_readBinding, ⟨by decide +kernel, by decide +kernel, by decide +kernel⟩⟩
set_option maxRecDepth 100000 in
theorem cb_R_94 : hz_cB lw_tbl R_R 94 y_R_readVariable c_R_readVariable 2 (some .int) 0 := ⟨hz_T_in 404 (by decide +kernel) (by decide +kernel), hz_T_in 83 (by decide +kernel) (by decide +kernel), cw_R_readVariable, ⟨by decide +kernel, by decide +kernel, by decide +kernel⟩⟩
set_option maxRecDepth 100000 in
theorem cb_R_98 : hz_cB lw_tbl R_R 98 y_R_unbind c_R_unbind 3 none 2 := ⟨hz_T_in 408 (by decide +kernel) (by decide +kernel), hz_T_in 83 (by decide +kernel) (by decide +kernel), cw_R_unbind, ⟨by decide +kernel, by decide +kernel, by decide +kernel⟩⟩
set_option maxRecDepth 100000 in
theorem cb_W_36 : hz_cB lw_tbl R_W 36 y_G_need c_G_need 3 (some .boolean) 1 := ⟨hz_T_in 461 (by decide +kernel) (by decide +kernel), hz_T_in 74 (by decide +kernel) (by decide +kernel), cw_G_need, ⟨by decide +kernel, by decide +kernel, by decide +kernel⟩⟩
set_option maxRecDepth 100000 in
theorem cb_W_46 : hz_cB lw_tbl R_W 46 y_W_writeRest c_W_writeRest 4 none 3 := ⟨hz_T_in 541 (by decide +kernel) (by decide +kernel), hz_T_in 75 (by decide +kernel) (by decide +kernel), cw_W_writeRest, ⟨by decide +kernel, by decide +kernel, by decide +kernel⟩⟩
set_option maxRecDepth 100000 in
theorem cb_W_50 : hz_cB lw_tbl R_W 50 y_W_writeValue c_W_writeValue 4 none 3 := ⟨hz_T_in 555 (by decide +kernel) (by decide +kernel), hz_T_in 75 (by decide +kernel) (by decide +kernel), cw_W_writeValue, ⟨by decide +kernel, by decide +kernel, by decide +kernel⟩⟩
set_option maxRecDepth 100000 in
theorem cb_W_53 : hz_cB lw_tbl R_W 53 y_W_put c_W_put 3 (some .boolean) 2 := ⟨hz_T_in 545 (by decide +kernel) (by decide +kernel), hz_T_in 75 (by decide +kernel) (by decide +kernel), cw_W_put, ⟨by decide +kernel, by decide +kernel, by decide +kernel⟩⟩
set_option maxRecDepth 100000 in
theorem cb_W_57 : hz_cB lw_tbl R_W 57 y_G_head c_G_head 2 (some .int) 1 := ⟨hz_T_in 549 (by decide +kernel) (by decide +kernel), hz_T_in 74 (by decide +kernel) (by decide +kernel), cw_G_head, ⟨by decide +kernel, by decide +kernel, by decide +kernel⟩⟩
set_option maxRecDepth 100000 in
theorem cb_W_61 : hz_cB lw_tbl R_W 61 y_W_putNumber c_W_putNumber 7 none 2 := ⟨hz_T_in 559 (by decide +kernel) (by decide +kernel), hz_T_in 75 (by decide +kernel) (by decide +kernel), cw_W_putNumber, ⟨by decide +kernel, by decide +kernel, by decide +kernel⟩⟩
set_option maxRecDepth 100000 in
theorem cb_W_65 : hz_cB lw_tbl R_W 65 y_W_goOn c_W_goOn 2 none 1 := ⟨hz_T_in 550 (by decide +kernel) (by decide +kernel), hz_T_in 75 (by decide +kernel) (by decide +kernel), cw_W_goOn, ⟨by decide +kernel, by decide +kernel, by decide +kernel⟩⟩
set_option maxRecDepth 100000 in
theorem cb_W_72 : hz_cB lw_tbl R_W 72 y_G_tail c_G_tail 2 (some .int) 1 := ⟨hz_T_in 554 (by decide +kernel) (by decide +kernel), hz_T_in 74 (by decide +kernel) (by decide +kernel), cw_G_tail, ⟨by decide +kernel, by decide +kernel, by decide +kernel⟩⟩
set_option maxRecDepth 100000 in
theorem cb_L_7 : hz_cB lw_tbl R_L 7 y_F_define c_F_define 5 (some .int) 1 := ⟨hz_T_in 227 (by decide +kernel) (by decide +kernel), hz_T_in 73 (by decide +kernel) (by decide +kernel), cw_F_define, ⟨by decide +kernel, by decide +kernel, by decide +kernel⟩⟩
set_option maxRecDepth 100000 in
theorem cb_L_15 : hz_cB lw_tbl R_L 15 y_F_forget c_F_forget 3 none 1 := ⟨hz_T_in 420 (by decide +kernel) (by decide +kernel), hz_T_in 73 (by decide +kernel) (by decide +kernel), cw_F_forget, ⟨by decide +kernel, by decide +kernel, by decide +kernel⟩⟩
set_option maxRecDepth 100000 in
theorem cb_L_21 : hz_cB lw_tbl R_L 21 y_F_run c_F_run 4 (some .int) 2 := ⟨hz_T_in 447 (by decide +kernel) (by decide +kernel), hz_T_in 73 (by decide +kernel) (by decide +kernel), cw_F_run, ⟨by decide +kernel, by decide +kernel, by decide +kernel⟩⟩
set_option maxRecDepth 100000 in
theorem cb_L_25 : hz_cB lw_tbl R_L 25 y_F_init c_F_init 1 none 0 := ⟨hz_T_in 87 (by decide +kernel) (by decide +kernel), hz_T_in 73 (by decide +kernel) (by decide +kernel), cw_F_init, ⟨by decide +kernel, by decide +kernel, by decide +kernel⟩⟩
set_option maxRecDepth 100000 in
theorem cb_L_28 : hz_cB lw_tbl R_L 28 y_M_init c_M_init 1 none 0 := ⟨hz_T_in 567 (by decide +kernel) (by decide +kernel), hz_T_in 76 (by decide +kernel) (by decide +kernel), cw_M_init, ⟨by decide +kernel, by decide +kernel, by decide +kernel⟩⟩
set_option maxRecDepth 100000 in
theorem cb_L_29 : hz_cB lw_tbl R_L 29 y_F_type c_F_type 2 (some .boolean) 1 := ⟨hz_T_in 192 (by decide +kernel) (by decide +kernel), hz_T_in 73 (by decide +kernel) (by decide +kernel), cw_F_type, ⟨by decide +kernel, by decide +kernel, by decide +kernel⟩⟩
set_option maxRecDepth 100000 in
theorem cb_L_33 : hz_cB lw_tbl R_L 33 y_M_type c_M_type 2 (some .boolean) 1 := ⟨hz_T_in 694 (by decide +kernel) (by decide +kernel), hz_T_in 76 (by decide +kernel) (by decide +kernel), cw_M_type, ⟨by decide +kernel, by decide +kernel, by decide +kernel⟩⟩
set_option maxRecDepth 100000 in
theorem cb_L_34 : hz_cB lw_tbl R_L 34 y_F_wipe c_F_wipe 2 (some .int) 0 := ⟨hz_T_in 196 (by decide +kernel) (by decide +kernel), hz_T_in 73 (by decide +kernel) (by decide +kernel), cw_F_wipe, ⟨by decide +kernel, by decide +kernel, by decide +kernel⟩⟩
set_option maxRecDepth 100000 in
theorem cb_L_38 : hz_cB lw_tbl R_L 38 y_M_wipe c_M_wipe 2 (some .int) 0 := ⟨hz_T_in 698 (by decide +kernel) (by decide +kernel), hz_T_in 76 (by decide +kernel) (by decide +kernel), cw_M_wipe, ⟨by decide +kernel, by decide +kernel, by decide +kernel⟩⟩
set_option maxRecDepth 100000 in
theorem cb_L_44 : hz_cB lw_tbl R_L 44 y_M_define c_M_define 5 (some .int) 1 := ⟨hz_T_in 702 (by decide +kernel) (by decide +kernel), hz_T_in 76 (by decide +kernel) (by decide +kernel), cw_M_define, ⟨by decide +kernel, by decide +kernel, by decide +kernel⟩⟩
set_option maxRecDepth 100000 in
theorem cb_L_45 : hz_cB lw_tbl R_L 45 y_M_thrown c_M_thrown 1 (some .int) 0 := ⟨hz_T_in 690 (by decide +kernel) (by decide +kernel), hz_T_in 76 (by decide +kernel) (by decide +kernel), cw_M_thrown, ⟨by decide +kernel, by decide +kernel, by decide +kernel⟩⟩
set_option maxRecDepth 100000 in
theorem cb_L_51 : hz_cB lw_tbl R_L 51 y_M_forget c_M_forget 2 none 1 := ⟨hz_T_in 755 (by decide +kernel) (by decide +kernel), hz_T_in 76 (by decide +kernel) (by decide +kernel), cw_M_forget, ⟨by decide +kernel, by decide +kernel, by decide +kernel⟩⟩
set_option maxRecDepth 100000 in
theorem cb_L_52 : hz_cB lw_tbl R_L 52 y_F_parameters c_F_parameters 2 (some .int) 1 := ⟨hz_T_in 200 (by decide +kernel) (by decide +kernel), hz_T_in 73 (by decide +kernel) (by decide +kernel), cw_F_parameters, ⟨by decide +kernel, by decide +kernel, by decide +kernel⟩⟩
set_option maxRecDepth 100000 in
theorem cb_L_55 : hz_cB lw_tbl R_L 55 y_M_parameters c_M_parameters 2 (some .int) 1 := ⟨hz_T_in 759 (by decide +kernel) (by decide +kernel), hz_T_in 76 (by decide +kernel) (by decide +kernel), cw_M_parameters, ⟨by decide +kernel, by decide +kernel, by decide +kernel⟩⟩
set_option maxRecDepth 100000 in
theorem cb_L_59 : hz_cB lw_tbl R_L 59 y_M_run c_M_run 4 (some .int) 2 := ⟨hz_T_in 763 (by decide +kernel) (by decide +kernel), hz_T_in 76 (by decide +kernel) (by decide +kernel), cw_M_run, ⟨by decide +kernel, by decide +kernel, by decide +kernel⟩⟩
set_option maxRecDepth 100000 in
theorem cb_L_60 : hz_cB lw_tbl R_L 60 y_F_entries c_F_entries 1 (some .int) 0 := ⟨hz_T_in 211 (by decide +kernel) (by decide +kernel), hz_T_in 73 (by decide +kernel) (by decide +kernel), cw_F_entries, ⟨by decide +kernel, by decide +kernel, by decide +kernel⟩⟩
set_option maxRecDepth 100000 in
theorem cb_L_63 : hz_cB lw_tbl R_L 63 y_M_entries c_M_entries 1 (some .int) 0 := ⟨hz_T_in 876 (by decide +kernel) (by decide +kernel), hz_T_in 76 (by decide +kernel) (by decide +kernel), cw_M_entries, ⟨by decide +kernel, by decide +kernel, by decide +kernel⟩⟩
set_option maxRecDepth 100000 in
theorem cb_L_64 : hz_cB lw_tbl R_L 64 y_F_length c_F_length 1 (some .int) 0 := ⟨hz_T_in 215 (by decide +kernel) (by decide +kernel), hz_T_in 73 (by decide +kernel) (by decide +kernel), cw_F_length, ⟨by decide +kernel, by decide +kernel, by decide +kernel⟩⟩
set_option maxRecDepth 100000 in
theorem cb_L_67 : hz_cB lw_tbl R_L 67 y_M_length c_M_length 1 (some .int) 0 := ⟨hz_T_in 880 (by decide +kernel) (by decide +kernel), hz_T_in 76 (by decide +kernel) (by decide +kernel), cw_M_length, ⟨by decide +kernel, by decide +kernel, by decide +kernel⟩⟩
set_option maxRecDepth 100000 in
theorem cb_L_68 : hz_cB lw_tbl R_L 68 y_F_charAt c_F_charAt 2 (some .char) 1 := ⟨hz_T_in 219 (by decide +kernel) (by decide +kernel), hz_T_in 73 (by decide +kernel) (by decide +kernel), cw_F_charAt, ⟨by decide +kernel, by decide +kernel, by decide +kernel⟩⟩
set_option maxRecDepth 100000 in
theorem cb_L_72 : hz_cB lw_tbl R_L 72 y_M_charAt c_M_charAt 2 (some .char) 1 := ⟨hz_T_in 884 (by decide +kernel) (by decide +kernel), hz_T_in 76 (by decide +kernel) (by decide +kernel), cw_M_charAt, ⟨by decide +kernel, by decide +kernel, by decide +kernel⟩⟩
theorem im_F_init : Cond.instanceMethod y_F_init ∈ hz_T lw_tbl := hz_T_in 88 (by decide +kernel) (by decide +kernel)
theorem im_F_type : Cond.instanceMethod y_F_type ∈ hz_T lw_tbl := hz_T_in 193 (by decide +kernel) (by decide +kernel)
theorem se_F_type : Cond.selects R_F y_F_type y_F_type ∈ hz_T lw_tbl := hz_T_in 194 (by decide +kernel) (by decide +kernel)
theorem im_F_wipe : Cond.instanceMethod y_F_wipe ∈ hz_T lw_tbl := hz_T_in 197 (by decide +kernel) (by decide +kernel)
theorem se_F_wipe : Cond.selects R_F y_F_wipe y_F_wipe ∈ hz_T lw_tbl := hz_T_in 198 (by decide +kernel) (by decide +kernel)
theorem im_F_define : Cond.instanceMethod y_F_define ∈ hz_T lw_tbl := hz_T_in 228 (by decide +kernel) (by decide +kernel)
theorem se_F_define : Cond.selects R_F y_F_define y_F_define ∈ hz_T lw_tbl := hz_T_in 229 (by decide +kernel) (by decide +kernel)
theorem im_F_forget : Cond.instanceMethod y_F_forget ∈ hz_T lw_tbl := hz_T_in 421 (by decide +kernel) (by decide +kernel)
theorem se_F_forget : Cond.selects R_F y_F_forget y_F_forget ∈ hz_T lw_tbl := hz_T_in 422 (by decide +kernel) (by decide +kernel)
theorem im_F_parameters : Cond.instanceMethod y_F_parameters ∈ hz_T lw_tbl := hz_T_in 201 (by decide +kernel) (by decide +kernel)
theorem se_F_parameters : Cond.selects R_F y_F_parameters y_F_parameters ∈ hz_T lw_tbl := hz_T_in 202 (by decide +kernel) (by decide +kernel)
theorem im_F_run : Cond.instanceMethod y_F_run ∈ hz_T lw_tbl := hz_T_in 448 (by decide +kernel) (by decide +kernel)
theorem se_F_run : Cond.selects R_F y_F_run y_F_run ∈ hz_T lw_tbl := hz_T_in 449 (by decide +kernel) (by decide +kernel)
theorem im_F_entries : Cond.instanceMethod y_F_entries ∈ hz_T lw_tbl := hz_T_in 212 (by decide +kernel) (by decide +kernel)
theorem se_F_entries : Cond.selects R_F y_F_entries y_F_entries ∈ hz_T lw_tbl := hz_T_in 213 (by decide +kernel) (by decide +kernel)
theorem im_F_length : Cond.instanceMethod y_F_length ∈ hz_T lw_tbl := hz_T_in 216 (by decide +kernel) (by decide +kernel)
theorem se_F_length : Cond.selects R_F y_F_length y_F_length ∈ hz_T lw_tbl := hz_T_in 217 (by decide +kernel) (by decide +kernel)
theorem im_F_charAt : Cond.instanceMethod y_F_charAt ∈ hz_T lw_tbl := hz_T_in 220 (by decide +kernel) (by decide +kernel)
theorem se_F_charAt : Cond.selects R_F y_F_charAt y_F_charAt ∈ hz_T lw_tbl := hz_T_in 221 (by decide +kernel) (by decide +kernel)
theorem im_F_letterNumber : Cond.static y_F_letterNumber ∈ hz_T lw_tbl := hz_T_in 232 (by decide +kernel) (by decide +kernel)
theorem im_F_checkDefined : Cond.instanceMethod y_F_checkDefined ∈ hz_T lw_tbl := hz_T_in 426 (by decide +kernel) (by decide +kernel)
theorem se_F_checkDefined : Cond.selects R_F y_F_checkDefined y_F_checkDefined ∈ hz_T lw_tbl := hz_T_in 14 (by decide +kernel) (by decide +kernel)
theorem im_F_isLetter : Cond.static y_F_isLetter ∈ hz_T lw_tbl := hz_T_in 205 (by decide +kernel) (by decide +kernel)
theorem im_F_isVariable : Cond.static y_F_isVariable ∈ hz_T lw_tbl := hz_T_in 366 (by decide +kernel) (by decide +kernel)
theorem im_F_isDigit : Cond.static y_F_isDigit ∈ hz_T lw_tbl := hz_T_in 385 (by decide +kernel) (by decide +kernel)
theorem im_M_init : Cond.instanceMethod y_M_init ∈ hz_T lw_tbl := hz_T_in 568 (by decide +kernel) (by decide +kernel)
theorem im_M_thrown : Cond.instanceMethod y_M_thrown ∈ hz_T lw_tbl := hz_T_in 691 (by decide +kernel) (by decide +kernel)
theorem se_M_thrown : Cond.selects R_M y_M_thrown y_M_thrown ∈ hz_T lw_tbl := hz_T_in 692 (by decide +kernel) (by decide +kernel)
theorem im_M_isVariable : Cond.static y_M_isVariable ∈ hz_T lw_tbl := hz_T_in 722 (by decide +kernel) (by decide +kernel)
theorem im_M_isLetter : Cond.static y_M_isLetter ∈ hz_T lw_tbl := hz_T_in 707 (by decide +kernel) (by decide +kernel)
theorem im_M_type : Cond.instanceMethod y_M_type ∈ hz_T lw_tbl := hz_T_in 695 (by decide +kernel) (by decide +kernel)
theorem se_M_type : Cond.selects R_M y_M_type y_M_type ∈ hz_T lw_tbl := hz_T_in 696 (by decide +kernel) (by decide +kernel)
theorem im_M_wipe : Cond.instanceMethod y_M_wipe ∈ hz_T lw_tbl := hz_T_in 699 (by decide +kernel) (by decide +kernel)
theorem se_M_wipe : Cond.selects R_M y_M_wipe y_M_wipe ∈ hz_T lw_tbl := hz_T_in 700 (by decide +kernel) (by decide +kernel)
theorem im_M_push : Cond.instanceMethod y_M_push ∈ hz_T lw_tbl := hz_T_in 715 (by decide +kernel) (by decide +kernel)
theorem se_M_push : Cond.selects R_M y_M_push y_M_push ∈ hz_T lw_tbl := hz_T_in 36 (by decide +kernel) (by decide +kernel)
theorem im_M_add : Cond.instanceMethod y_M_add ∈ hz_T lw_tbl := hz_T_in 730 (by decide +kernel) (by decide +kernel)
theorem se_M_add : Cond.selects R_M y_M_add y_M_add ∈ hz_T lw_tbl := hz_T_in 39 (by decide +kernel) (by decide +kernel)
theorem im_M_pushExpressions : Cond.instanceMethod y_M_pushExpressions ∈ hz_T lw_tbl := hz_T_in 734 (by decide +kernel) (by decide +kernel)
theorem se_M_pushExpressions : Cond.selects R_M y_M_pushExpressions y_M_pushExpressions ∈ hz_T lw_tbl := hz_T_in 40 (by decide +kernel) (by decide +kernel)
theorem im_M_isOperator : Cond.static y_M_isOperator ∈ hz_T lw_tbl := hz_T_in 737 (by decide +kernel) (by decide +kernel)
theorem im_M_begin : Cond.instanceMethod y_M_begin ∈ hz_T lw_tbl := hz_T_in 726 (by decide +kernel) (by decide +kernel)
theorem se_M_begin : Cond.selects R_M y_M_begin y_M_begin ∈ hz_T lw_tbl := hz_T_in 38 (by decide +kernel) (by decide +kernel)
theorem im_M_take : Cond.instanceMethod y_M_take ∈ hz_T lw_tbl := hz_T_in 719 (by decide +kernel) (by decide +kernel)
theorem se_M_take : Cond.selects R_M y_M_take y_M_take ∈ hz_T lw_tbl := hz_T_in 37 (by decide +kernel) (by decide +kernel)
theorem im_M_below : Cond.instanceMethod y_M_below ∈ hz_T lw_tbl := hz_T_in 749 (by decide +kernel) (by decide +kernel)
theorem se_M_below : Cond.selects R_M y_M_below y_M_below ∈ hz_T lw_tbl := hz_T_in 43 (by decide +kernel) (by decide +kernel)
theorem im_M_behind : Cond.instanceMethod y_M_behind ∈ hz_T lw_tbl := hz_T_in 745 (by decide +kernel) (by decide +kernel)
theorem se_M_behind : Cond.selects R_M y_M_behind y_M_behind ∈ hz_T lw_tbl := hz_T_in 42 (by decide +kernel) (by decide +kernel)
theorem im_M_child : Cond.instanceMethod y_M_child ∈ hz_T lw_tbl := hz_T_in 753 (by decide +kernel) (by decide +kernel)
theorem se_M_child : Cond.selects R_M y_M_child y_M_child ∈ hz_T lw_tbl := hz_T_in 44 (by decide +kernel) (by decide +kernel)
theorem im_M_isBound : Cond.instanceMethod y_M_isBound ∈ hz_T lw_tbl := hz_T_in 741 (by decide +kernel) (by decide +kernel)
theorem se_M_isBound : Cond.selects R_M y_M_isBound y_M_isBound ∈ hz_T lw_tbl := hz_T_in 41 (by decide +kernel) (by decide +kernel)
theorem im_M_read : Cond.instanceMethod y_M_read ∈ hz_T lw_tbl := hz_T_in 711 (by decide +kernel) (by decide +kernel)
theorem se_M_read : Cond.selects R_M y_M_read y_M_read ∈ hz_T lw_tbl := hz_T_in 35 (by decide +kernel) (by decide +kernel)
theorem im_M_define : Cond.instanceMethod y_M_define ∈ hz_T lw_tbl := hz_T_in 703 (by decide +kernel) (by decide +kernel)
theorem se_M_define : Cond.selects R_M y_M_define y_M_define ∈ hz_T lw_tbl := hz_T_in 704 (by decide +kernel) (by decide +kernel)
theorem im_M_forget : Cond.instanceMethod y_M_forget ∈ hz_T lw_tbl := hz_T_in 756 (by decide +kernel) (by decide +kernel)
theorem se_M_forget : Cond.selects R_M y_M_forget y_M_forget ∈ hz_T lw_tbl := hz_T_in 757 (by decide +kernel) (by decide +kernel)
theorem im_M_parameters : Cond.instanceMethod y_M_parameters ∈ hz_T lw_tbl := hz_T_in 760 (by decide +kernel) (by decide +kernel)
theorem se_M_parameters : Cond.selects R_M y_M_parameters y_M_parameters ∈ hz_T lw_tbl := hz_T_in 761 (by decide +kernel) (by decide +kernel)
theorem im_M_newPromise : Cond.instanceMethod y_M_newPromise ∈ hz_T lw_tbl := hz_T_in 789 (by decide +kernel) (by decide +kernel)
theorem se_M_newPromise : Cond.selects R_M y_M_newPromise y_M_newPromise ∈ hz_T lw_tbl := hz_T_in 50 (by decide +kernel) (by decide +kernel)
theorem im_M_promise : Cond.instanceMethod y_M_promise ∈ hz_T lw_tbl := hz_T_in 817 (by decide +kernel) (by decide +kernel)
theorem se_M_promise : Cond.selects R_M y_M_promise y_M_promise ∈ hz_T lw_tbl := hz_T_in 57 (by decide +kernel) (by decide +kernel)
theorem im_M_looked : Cond.instanceMethod y_M_looked ∈ hz_T lw_tbl := hz_T_in 805 (by decide +kernel) (by decide +kernel)
theorem se_M_looked : Cond.selects R_M y_M_looked y_M_looked ∈ hz_T lw_tbl := hz_T_in 54 (by decide +kernel) (by decide +kernel)
theorem im_M_bind : Cond.instanceMethod y_M_bind ∈ hz_T lw_tbl := hz_T_in 829 (by decide +kernel) (by decide +kernel)
theorem se_M_bind : Cond.selects R_M y_M_bind y_M_bind ∈ hz_T lw_tbl := hz_T_in 60 (by decide +kernel) (by decide +kernel)
theorem im_M_store : Cond.instanceMethod y_M_store ∈ hz_T lw_tbl := hz_T_in 821 (by decide +kernel) (by decide +kernel)
theorem se_M_store : Cond.selects R_M y_M_store y_M_store ∈ hz_T lw_tbl := hz_T_in 58 (by decide +kernel) (by decide +kernel)
theorem im_M_stack : Cond.instanceMethod y_M_stack ∈ hz_T lw_tbl := hz_T_in 773 (by decide +kernel) (by decide +kernel)
theorem se_M_stack : Cond.selects R_M y_M_stack y_M_stack ∈ hz_T lw_tbl := hz_T_in 46 (by decide +kernel) (by decide +kernel)
theorem im_M_evaluate : Cond.instanceMethod y_M_evaluate ∈ hz_T lw_tbl := hz_T_in 797 (by decide +kernel) (by decide +kernel)
theorem se_M_evaluate : Cond.selects R_M y_M_evaluate y_M_evaluate ∈ hz_T lw_tbl := hz_T_in 52 (by decide +kernel) (by decide +kernel)
theorem im_M_found : Cond.instanceMethod y_M_found ∈ hz_T lw_tbl := hz_T_in 781 (by decide +kernel) (by decide +kernel)
theorem se_M_found : Cond.selects R_M y_M_found y_M_found ∈ hz_T lw_tbl := hz_T_in 48 (by decide +kernel) (by decide +kernel)
theorem im_M_nothing : Cond.instanceMethod y_M_nothing ∈ hz_T lw_tbl := hz_T_in 769 (by decide +kernel) (by decide +kernel)
theorem se_M_nothing : Cond.selects R_M y_M_nothing y_M_nothing ∈ hz_T lw_tbl := hz_T_in 45 (by decide +kernel) (by decide +kernel)
theorem im_M_enter : Cond.instanceMethod y_M_enter ∈ hz_T lw_tbl := hz_T_in 793 (by decide +kernel) (by decide +kernel)
theorem se_M_enter : Cond.selects R_M y_M_enter y_M_enter ∈ hz_T lw_tbl := hz_T_in 51 (by decide +kernel) (by decide +kernel)
theorem im_M_need : Cond.instanceMethod y_M_need ∈ hz_T lw_tbl := hz_T_in 809 (by decide +kernel) (by decide +kernel)
theorem se_M_need : Cond.selects R_M y_M_need y_M_need ∈ hz_T lw_tbl := hz_T_in 55 (by decide +kernel) (by decide +kernel)
theorem im_M_letter : Cond.instanceMethod y_M_letter ∈ hz_T lw_tbl := hz_T_in 777 (by decide +kernel) (by decide +kernel)
theorem se_M_letter : Cond.selects R_M y_M_letter y_M_letter ∈ hz_T lw_tbl := hz_T_in 47 (by decide +kernel) (by decide +kernel)
theorem im_M_body : Cond.instanceMethod y_M_body ∈ hz_T lw_tbl := hz_T_in 785 (by decide +kernel) (by decide +kernel)
theorem se_M_body : Cond.selects R_M y_M_body y_M_body ∈ hz_T lw_tbl := hz_T_in 49 (by decide +kernel) (by decide +kernel)
theorem im_M_pair : Cond.instanceMethod y_M_pair ∈ hz_T lw_tbl := hz_T_in 813 (by decide +kernel) (by decide +kernel)
theorem se_M_pair : Cond.selects R_M y_M_pair y_M_pair ∈ hz_T lw_tbl := hz_T_in 56 (by decide +kernel) (by decide +kernel)
theorem im_M_let : Cond.instanceMethod y_M_let ∈ hz_T lw_tbl := hz_T_in 825 (by decide +kernel) (by decide +kernel)
theorem se_M_let : Cond.selects R_M y_M_let y_M_let ∈ hz_T lw_tbl := hz_T_in 59 (by decide +kernel) (by decide +kernel)
theorem im_M_step : Cond.instanceMethod y_M_step ∈ hz_T lw_tbl := hz_T_in 801 (by decide +kernel) (by decide +kernel)
theorem se_M_step : Cond.selects R_M y_M_step y_M_step ∈ hz_T lw_tbl := hz_T_in 53 (by decide +kernel) (by decide +kernel)
theorem im_M_feed : Cond.instanceMethod y_M_feed ∈ hz_T lw_tbl := hz_T_in 837 (by decide +kernel) (by decide +kernel)
theorem se_M_feed : Cond.selects R_M y_M_feed y_M_feed ∈ hz_T lw_tbl := hz_T_in 62 (by decide +kernel) (by decide +kernel)
theorem im_M_extend : Cond.instanceMethod y_M_extend ∈ hz_T lw_tbl := hz_T_in 841 (by decide +kernel) (by decide +kernel)
theorem se_M_extend : Cond.selects R_M y_M_extend y_M_extend ∈ hz_T lw_tbl := hz_T_in 63 (by decide +kernel) (by decide +kernel)
theorem im_M_rekon : Cond.instanceMethod y_M_rekon ∈ hz_T lw_tbl := hz_T_in 874 (by decide +kernel) (by decide +kernel)
theorem se_M_rekon : Cond.selects R_M y_M_rekon y_M_rekon ∈ hz_T lw_tbl := hz_T_in 71 (by decide +kernel) (by decide +kernel)
theorem im_M_counted : Cond.instanceMethod y_M_counted ∈ hz_T lw_tbl := hz_T_in 870 (by decide +kernel) (by decide +kernel)
theorem se_M_counted : Cond.selects R_M y_M_counted y_M_counted ∈ hz_T lw_tbl := hz_T_in 70 (by decide +kernel) (by decide +kernel)
theorem im_M_part : Cond.instanceMethod y_M_part ∈ hz_T lw_tbl := hz_T_in 845 (by decide +kernel) (by decide +kernel)
theorem se_M_part : Cond.selects R_M y_M_part y_M_part ∈ hz_T lw_tbl := hz_T_in 64 (by decide +kernel) (by decide +kernel)
theorem im_M_put : Cond.instanceMethod y_M_put ∈ hz_T lw_tbl := hz_T_in 857 (by decide +kernel) (by decide +kernel)
theorem se_M_put : Cond.selects R_M y_M_put y_M_put ∈ hz_T lw_tbl := hz_T_in 67 (by decide +kernel) (by decide +kernel)
theorem im_M_putNumber : Cond.instanceMethod y_M_putNumber ∈ hz_T lw_tbl := hz_T_in 853 (by decide +kernel) (by decide +kernel)
theorem se_M_putNumber : Cond.selects R_M y_M_putNumber y_M_putNumber ∈ hz_T lw_tbl := hz_T_in 66 (by decide +kernel) (by decide +kernel)
theorem im_M_writePair : Cond.instanceMethod y_M_writePair ∈ hz_T lw_tbl := hz_T_in 862 (by decide +kernel) (by decide +kernel)
theorem se_M_writePair : Cond.selects R_M y_M_writePair y_M_writePair ∈ hz_T lw_tbl := hz_T_in 68 (by decide +kernel) (by decide +kernel)
theorem im_M_write : Cond.instanceMethod y_M_write ∈ hz_T lw_tbl := hz_T_in 849 (by decide +kernel) (by decide +kernel)
theorem se_M_write : Cond.selects R_M y_M_write y_M_write ∈ hz_T lw_tbl := hz_T_in 65 (by decide +kernel) (by decide +kernel)
theorem im_M_tail : Cond.instanceMethod y_M_tail ∈ hz_T lw_tbl := hz_T_in 866 (by decide +kernel) (by decide +kernel)
theorem se_M_tail : Cond.selects R_M y_M_tail y_M_tail ∈ hz_T lw_tbl := hz_T_in 69 (by decide +kernel) (by decide +kernel)
theorem im_M_goOn : Cond.instanceMethod y_M_goOn ∈ hz_T lw_tbl := hz_T_in 833 (by decide +kernel) (by decide +kernel)
theorem se_M_goOn : Cond.selects R_M y_M_goOn y_M_goOn ∈ hz_T lw_tbl := hz_T_in 61 (by decide +kernel) (by decide +kernel)
theorem im_M_run : Cond.instanceMethod y_M_run ∈ hz_T lw_tbl := hz_T_in 764 (by decide +kernel) (by decide +kernel)
theorem se_M_run : Cond.selects R_M y_M_run y_M_run ∈ hz_T lw_tbl := hz_T_in 765 (by decide +kernel) (by decide +kernel)
theorem im_M_entries : Cond.instanceMethod y_M_entries ∈ hz_T lw_tbl := hz_T_in 877 (by decide +kernel) (by decide +kernel)
theorem se_M_entries : Cond.selects R_M y_M_entries y_M_entries ∈ hz_T lw_tbl := hz_T_in 878 (by decide +kernel) (by decide +kernel)
theorem im_M_length : Cond.instanceMethod y_M_length ∈ hz_T lw_tbl := hz_T_in 881 (by decide +kernel) (by decide +kernel)
theorem se_M_length : Cond.selects R_M y_M_length y_M_length ∈ hz_T lw_tbl := hz_T_in 882 (by decide +kernel) (by decide +kernel)
theorem im_M_charAt : Cond.instanceMethod y_M_charAt ∈ hz_T lw_tbl := hz_T_in 885 (by decide +kernel) (by decide +kernel)
theorem se_M_charAt : Cond.selects R_M y_M_charAt y_M_charAt ∈ hz_T lw_tbl := hz_T_in 886 (by decide +kernel) (by decide +kernel)
theorem im_D_init : Cond.instanceMethod y_D_init ∈ hz_T lw_tbl := hz_T_in 304 (by decide +kernel) (by decide +kernel)
theorem im_G_init : Cond.instanceMethod y_G_init ∈ hz_T lw_tbl := hz_T_in 96 (by decide +kernel) (by decide +kernel)
theorem im_G_parameterCount : Cond.instanceMethod y_G_parameterCount ∈ hz_T lw_tbl := hz_T_in 208 (by decide +kernel) (by decide +kernel)
theorem se_G_parameterCount : Cond.selects R_G y_G_parameterCount y_G_parameterCount ∈ hz_T lw_tbl := hz_T_in 209 (by decide +kernel) (by decide +kernel)
theorem im_G_begin : Cond.instanceMethod y_G_begin ∈ hz_T lw_tbl := hz_T_in 453 (by decide +kernel) (by decide +kernel)
theorem se_G_begin : Cond.selects R_G y_G_begin y_G_begin ∈ hz_T lw_tbl := hz_T_in 454 (by decide +kernel) (by decide +kernel)
theorem im_G_need : Cond.instanceMethod y_G_need ∈ hz_T lw_tbl := hz_T_in 462 (by decide +kernel) (by decide +kernel)
theorem se_G_need : Cond.selects R_G y_G_need y_G_need ∈ hz_T lw_tbl := hz_T_in 463 (by decide +kernel) (by decide +kernel)
theorem im_G_head : Cond.instanceMethod y_G_head ∈ hz_T lw_tbl := hz_T_in 527 (by decide +kernel) (by decide +kernel)
theorem se_G_head : Cond.selects R_G y_G_head y_G_head ∈ hz_T lw_tbl := hz_T_in 528 (by decide +kernel) (by decide +kernel)
theorem im_G_tail : Cond.instanceMethod y_G_tail ∈ hz_T lw_tbl := hz_T_in 531 (by decide +kernel) (by decide +kernel)
theorem se_G_tail : Cond.selects R_G y_G_tail y_G_tail ∈ hz_T lw_tbl := hz_T_in 532 (by decide +kernel) (by decide +kernel)
theorem im_G_request : Cond.instanceMethod y_G_request ∈ hz_T lw_tbl := hz_T_in 467 (by decide +kernel) (by decide +kernel)
theorem se_G_request : Cond.selects R_G y_G_request y_G_request ∈ hz_T lw_tbl := hz_T_in 15 (by decide +kernel) (by decide +kernel)
theorem im_G_keep : Cond.instanceMethod y_G_keep ∈ hz_T lw_tbl := hz_T_in 481 (by decide +kernel) (by decide +kernel)
theorem se_G_keep : Cond.selects R_G y_G_keep y_G_keep ∈ hz_T lw_tbl := hz_T_in 18 (by decide +kernel) (by decide +kernel)
theorem im_G_keepAs : Cond.instanceMethod y_G_keepAs ∈ hz_T lw_tbl := hz_T_in 489 (by decide +kernel) (by decide +kernel)
theorem se_G_keepAs : Cond.selects R_G y_G_keepAs y_G_keepAs ∈ hz_T lw_tbl := hz_T_in 20 (by decide +kernel) (by decide +kernel)
theorem im_G_lookAt : Cond.instanceMethod y_G_lookAt ∈ hz_T lw_tbl := hz_T_in 472 (by decide +kernel) (by decide +kernel)
theorem se_G_lookAt : Cond.selects R_G y_G_lookAt y_G_lookAt ∈ hz_T lw_tbl := hz_T_in 16 (by decide +kernel) (by decide +kernel)
theorem im_G_lookAtLetter : Cond.instanceMethod y_G_lookAtLetter ∈ hz_T lw_tbl := hz_T_in 476 (by decide +kernel) (by decide +kernel)
theorem se_G_lookAtLetter : Cond.selects R_G y_G_lookAtLetter y_G_lookAtLetter ∈ hz_T lw_tbl := hz_T_in 17 (by decide +kernel) (by decide +kernel)
theorem im_G_lookAtApplication : Cond.instanceMethod y_G_lookAtApplication ∈ hz_T lw_tbl := hz_T_in 496 (by decide +kernel) (by decide +kernel)
theorem se_G_lookAtApplication : Cond.selects R_G y_G_lookAtApplication y_G_lookAtApplication ∈ hz_T lw_tbl := hz_T_in 21 (by decide +kernel) (by decide +kernel)
theorem im_G_takeArguments : Cond.instanceMethod y_G_takeArguments ∈ hz_T lw_tbl := hz_T_in 504 (by decide +kernel) (by decide +kernel)
theorem se_G_takeArguments : Cond.selects R_G y_G_takeArguments y_G_takeArguments ∈ hz_T lw_tbl := hz_T_in 23 (by decide +kernel) (by decide +kernel)
theorem im_G_promiseCount : Cond.instanceMethod y_G_promiseCount ∈ hz_T lw_tbl := hz_T_in 512 (by decide +kernel) (by decide +kernel)
theorem se_G_promiseCount : Cond.selects R_G y_G_promiseCount y_G_promiseCount ∈ hz_T lw_tbl := hz_T_in 25 (by decide +kernel) (by decide +kernel)
theorem im_G_letterOf : Cond.instanceMethod y_G_letterOf ∈ hz_T lw_tbl := hz_T_in 508 (by decide +kernel) (by decide +kernel)
theorem se_G_letterOf : Cond.selects R_G y_G_letterOf y_G_letterOf ∈ hz_T lw_tbl := hz_T_in 24 (by decide +kernel) (by decide +kernel)
theorem im_G_enter : Cond.instanceMethod y_G_enter ∈ hz_T lw_tbl := hz_T_in 485 (by decide +kernel) (by decide +kernel)
theorem se_G_enter : Cond.selects R_G y_G_enter y_G_enter ∈ hz_T lw_tbl := hz_T_in 19 (by decide +kernel) (by decide +kernel)
theorem im_G_lookAtChoice : Cond.instanceMethod y_G_lookAtChoice ∈ hz_T lw_tbl := hz_T_in 516 (by decide +kernel) (by decide +kernel)
theorem se_G_lookAtChoice : Cond.selects R_G y_G_lookAtChoice y_G_lookAtChoice ∈ hz_T lw_tbl := hz_T_in 26 (by decide +kernel) (by decide +kernel)
theorem im_G_lookAtSplit : Cond.instanceMethod y_G_lookAtSplit ∈ hz_T lw_tbl := hz_T_in 524 (by decide +kernel) (by decide +kernel)
theorem se_G_lookAtSplit : Cond.selects R_G y_G_lookAtSplit y_G_lookAtSplit ∈ hz_T lw_tbl := hz_T_in 28 (by decide +kernel) (by decide +kernel)
theorem im_G_lookAtArithmetic : Cond.instanceMethod y_G_lookAtArithmetic ∈ hz_T lw_tbl := hz_T_in 536 (by decide +kernel) (by decide +kernel)
theorem se_G_lookAtArithmetic : Cond.selects R_G y_G_lookAtArithmetic y_G_lookAtArithmetic ∈ hz_T lw_tbl := hz_T_in 29 (by decide +kernel) (by decide +kernel)
theorem im_G_requestNumber : Cond.instanceMethod y_G_requestNumber ∈ hz_T lw_tbl := hz_T_in 520 (by decide +kernel) (by decide +kernel)
theorem se_G_requestNumber : Cond.selects R_G y_G_requestNumber y_G_requestNumber ∈ hz_T lw_tbl := hz_T_in 27 (by decide +kernel) (by decide +kernel)
theorem im_G_calculate : Cond.static y_G_calculate ∈ hz_T lw_tbl := hz_T_in 539 (by decide +kernel) (by decide +kernel)
theorem im_G_nextPart : Cond.instanceMethod y_G_nextPart ∈ hz_T lw_tbl := hz_T_in 500 (by decide +kernel) (by decide +kernel)
theorem se_G_nextPart : Cond.selects R_G y_G_nextPart y_G_nextPart ∈ hz_T lw_tbl := hz_T_in 22 (by decide +kernel) (by decide +kernel)
theorem im_R_init : Cond.instanceMethod y_R_init ∈ hz_T lw_tbl := hz_T_in 334 (by decide +kernel) (by decide +kernel)
theorem im_R_read : Cond.instanceMethod y_R_read ∈ hz_T lw_tbl := hz_T_in 354 (by decide +kernel) (by decide +kernel)
theorem se_R_read : Cond.selects R_R y_R_read y_R_read ∈ hz_T lw_tbl := hz_T_in 355 (by decide +kernel) (by decide +kernel)
theorem im_R_readParameters : Cond.instanceMethod y_R_readParameters ∈ hz_T lw_tbl := hz_T_in 359 (by decide +kernel) (by decide +kernel)
theorem se_R_readParameters : Cond.selects R_R y_R_readParameters y_R_readParameters ∈ hz_T lw_tbl := hz_T_in 1 (by decide +kernel) (by decide +kernel)
theorem im_R_readPart : Cond.instanceMethod y_R_readPart ∈ hz_T lw_tbl := hz_T_in 378 (by decide +kernel) (by decide +kernel)
theorem se_R_readPart : Cond.selects R_R y_R_readPart y_R_readPart ∈ hz_T lw_tbl := hz_T_in 5 (by decide +kernel) (by decide +kernel)
theorem im_R_useVariable : Cond.instanceMethod y_R_useVariable ∈ hz_T lw_tbl := hz_T_in 382 (by decide +kernel) (by decide +kernel)
theorem se_R_useVariable : Cond.selects R_R y_R_useVariable y_R_useVariable ∈ hz_T lw_tbl := hz_T_in 6 (by decide +kernel) (by decide +kernel)
theorem im_R_readWhole : Cond.instanceMethod y_R_readWhole ∈ hz_T lw_tbl := hz_T_in 390 (by decide +kernel) (by decide +kernel)
theorem se_R_readWhole : Cond.selects R_R y_R_readWhole y_R_readWhole ∈ hz_T lw_tbl := hz_T_in 7 (by decide +kernel) (by decide +kernel)
theorem im_R_readParts : Cond.instanceMethod y_R_readParts ∈ hz_T lw_tbl := hz_T_in 394 (by decide +kernel) (by decide +kernel)
theorem se_R_readParts : Cond.selects R_R y_R_readParts y_R_readParts ∈ hz_T lw_tbl := hz_T_in 8 (by decide +kernel) (by decide +kernel)
theorem im_R_readApplication : Cond.instanceMethod y_R_readApplication ∈ hz_T lw_tbl := hz_T_in 398 (by decide +kernel) (by decide +kernel)
theorem se_R_readApplication : Cond.selects R_R y_R_readApplication y_R_readApplication ∈ hz_T lw_tbl := hz_T_in 9 (by decide +kernel) (by decide +kernel)
theorem im_R_readSplit : Cond.instanceMethod y_R_readSplit ∈ hz_T lw_tbl := hz_T_in 402 (by decide +kernel) (by decide +kernel)
theorem se_R_readSplit : Cond.selects R_R y_R_readSplit y_R_readSplit ∈ hz_T lw_tbl := hz_T_in 10 (by decide +kernel) (by decide +kernel)
theorem im_R_readBinding : Cond.instanceMethod y_R_readBinding ∈ hz_T lw_tbl := hz_T_in 414 (by decide +kernel) (by decide +kernel)
theorem se_R_readBinding : Cond.selects R_R y_R_readBinding y_R_readBinding ∈ hz_T lw_tbl := hz_T_in 13 (by decide +kernel) (by decide +kernel)
theorem im_R_readVariable : Cond.instanceMethod y_R_readVariable ∈ hz_T lw_tbl := hz_T_in 406 (by decide +kernel) (by decide +kernel)
theorem se_R_readVariable : Cond.selects R_R y_R_readVariable y_R_readVariable ∈ hz_T lw_tbl := hz_T_in 11 (by decide +kernel) (by decide +kernel)
theorem im_R_readSign : Cond.instanceMethod y_R_readSign ∈ hz_T lw_tbl := hz_T_in 374 (by decide +kernel) (by decide +kernel)
theorem se_R_readSign : Cond.selects R_R y_R_readSign y_R_readSign ∈ hz_T lw_tbl := hz_T_in 4 (by decide +kernel) (by decide +kernel)
theorem im_R_sign : Cond.instanceMethod y_R_sign ∈ hz_T lw_tbl := hz_T_in 363 (by decide +kernel) (by decide +kernel)
theorem se_R_sign : Cond.selects R_R y_R_sign y_R_sign ∈ hz_T lw_tbl := hz_T_in 2 (by decide +kernel) (by decide +kernel)
theorem im_R_bind : Cond.instanceMethod y_R_bind ∈ hz_T lw_tbl := hz_T_in 370 (by decide +kernel) (by decide +kernel)
theorem se_R_bind : Cond.selects R_R y_R_bind y_R_bind ∈ hz_T lw_tbl := hz_T_in 3 (by decide +kernel) (by decide +kernel)
theorem im_R_unbind : Cond.instanceMethod y_R_unbind ∈ hz_T lw_tbl := hz_T_in 410 (by decide +kernel) (by decide +kernel)
theorem se_R_unbind : Cond.selects R_R y_R_unbind y_R_unbind ∈ hz_T lw_tbl := hz_T_in 12 (by decide +kernel) (by decide +kernel)
theorem im_W_init : Cond.instanceMethod y_W_init ∈ hz_T lw_tbl := hz_T_in 155 (by decide +kernel) (by decide +kernel)
theorem im_W_write : Cond.instanceMethod y_W_write ∈ hz_T lw_tbl := hz_T_in 457 (by decide +kernel) (by decide +kernel)
theorem se_W_write : Cond.selects R_W y_W_write y_W_write ∈ hz_T lw_tbl := hz_T_in 458 (by decide +kernel) (by decide +kernel)
theorem im_W_writeValue : Cond.instanceMethod y_W_writeValue ∈ hz_T lw_tbl := hz_T_in 557 (by decide +kernel) (by decide +kernel)
theorem se_W_writeValue : Cond.selects R_W y_W_writeValue y_W_writeValue ∈ hz_T lw_tbl := hz_T_in 33 (by decide +kernel) (by decide +kernel)
theorem im_W_writeRest : Cond.instanceMethod y_W_writeRest ∈ hz_T lw_tbl := hz_T_in 543 (by decide +kernel) (by decide +kernel)
theorem se_W_writeRest : Cond.selects R_W y_W_writeRest y_W_writeRest ∈ hz_T lw_tbl := hz_T_in 30 (by decide +kernel) (by decide +kernel)
theorem im_W_goOn : Cond.instanceMethod y_W_goOn ∈ hz_T lw_tbl := hz_T_in 552 (by decide +kernel) (by decide +kernel)
theorem se_W_goOn : Cond.selects R_W y_W_goOn y_W_goOn ∈ hz_T lw_tbl := hz_T_in 32 (by decide +kernel) (by decide +kernel)
theorem im_W_putNumber : Cond.instanceMethod y_W_putNumber ∈ hz_T lw_tbl := hz_T_in 561 (by decide +kernel) (by decide +kernel)
theorem se_W_putNumber : Cond.selects R_W y_W_putNumber y_W_putNumber ∈ hz_T lw_tbl := hz_T_in 34 (by decide +kernel) (by decide +kernel)
theorem im_W_put : Cond.instanceMethod y_W_put ∈ hz_T lw_tbl := hz_T_in 547 (by decide +kernel) (by decide +kernel)
theorem se_W_put : Cond.selects R_W y_W_put y_W_put ∈ hz_T lw_tbl := hz_T_in 31 (by decide +kernel) (by decide +kernel)
