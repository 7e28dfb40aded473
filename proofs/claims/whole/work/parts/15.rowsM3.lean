/-! Rows of LazyGraphsModel: instructions, and what each asks of the state behind it. Printed by wip/genparts.py. -/
abbrev q_M_evaluate (S : Nat → List (Option Value) → List Value → hz_H → Prop) := hz_w zCl zKT f_M n_M c_M_evaluate [] S
section
variable {S : Nat → List (Option Value) → List Value → hz_H → Prop} {f : Nat} {L : List (Option Value)} {st : List Value} {h : hz_H} {x y : Int32} {i j : Nat} {X Y : Int64}
theorem d_M_evaluate_0 : decode c_M_evaluate 0 = .ok (.aload_n 0, 1) := by decide +kernel
theorem e_M_evaluate_0 {a1 a2 : Option Value} : q_M_evaluate S (f + 1) 0 [some (.ref i), a1, a2] st h = (q_M_evaluate S f 1 [some (.ref i), a1, a2] (.ref i :: st) h) := by rw [q_M_evaluate, hz_w_at d_M_evaluate_0]; rfl
theorem e_M_evaluate_0n {a1 a2 : Option Value} : q_M_evaluate S (f + 1) 0 [some .null, a1, a2] st h = (q_M_evaluate S f 1 [some .null, a1, a2] (.null :: st) h) := by rw [q_M_evaluate, hz_w_at d_M_evaluate_0]; rfl
theorem d_M_evaluate_1 : decode c_M_evaluate 1 = .ok (.iload_n 1, 1) := by decide +kernel
theorem e_M_evaluate_1 {a0 a2 : Option Value} : q_M_evaluate S (f + 1) 1 [a0, some (.int x), a2] st h = (q_M_evaluate S f 2 [a0, some (.int x), a2] (.int x :: st) h) := by rw [q_M_evaluate, hz_w_at d_M_evaluate_1]; rfl
theorem d_M_evaluate_2 : decode c_M_evaluate 2 = .ok (.putfield 159, 3) := by decide +kernel
theorem e_M_evaluate_2 : q_M_evaluate S (f + 1) 2 L (.int x :: .ref i :: st) h = (hz_wr h i 5 35 (.int x) fun h => q_M_evaluate S f 5 L st h) := by rw [q_M_evaluate, hz_w_at d_M_evaluate_2]; rfl
theorem d_M_evaluate_5 : decode c_M_evaluate 5 = .ok (.aload_n 0, 1) := by decide +kernel
theorem e_M_evaluate_5 {a1 a2 : Option Value} : q_M_evaluate S (f + 1) 5 [some (.ref i), a1, a2] st h = (q_M_evaluate S f 6 [some (.ref i), a1, a2] (.ref i :: st) h) := by rw [q_M_evaluate, hz_w_at d_M_evaluate_5]; rfl
theorem e_M_evaluate_5n {a1 a2 : Option Value} : q_M_evaluate S (f + 1) 5 [some .null, a1, a2] st h = (q_M_evaluate S f 6 [some .null, a1, a2] (.null :: st) h) := by rw [q_M_evaluate, hz_w_at d_M_evaluate_5]; rfl
theorem d_M_evaluate_6 : decode c_M_evaluate 6 = .ok (.iload_n 2, 1) := by decide +kernel
theorem e_M_evaluate_6 {a0 a1 : Option Value} : q_M_evaluate S (f + 1) 6 [a0, a1, some (.int x)] st h = (q_M_evaluate S f 7 [a0, a1, some (.int x)] (.int x :: st) h) := by rw [q_M_evaluate, hz_w_at d_M_evaluate_6]; rfl
theorem d_M_evaluate_7 : decode c_M_evaluate 7 = .ok (.putfield 162, 3) := by decide +kernel
theorem e_M_evaluate_7 : q_M_evaluate S (f + 1) 7 L (.int x :: .ref i :: st) h = (hz_wr h i 5 36 (.int x) fun h => q_M_evaluate S f 10 L st h) := by rw [q_M_evaluate, hz_w_at d_M_evaluate_7]; rfl
theorem d_M_evaluate_10 : decode c_M_evaluate 10 = .ok (.aload_n 0, 1) := by decide +kernel
theorem e_M_evaluate_10 {a1 a2 : Option Value} : q_M_evaluate S (f + 1) 10 [some (.ref i), a1, a2] st h = (q_M_evaluate S f 11 [some (.ref i), a1, a2] (.ref i :: st) h) := by rw [q_M_evaluate, hz_w_at d_M_evaluate_10]; rfl
theorem e_M_evaluate_10n {a1 a2 : Option Value} : q_M_evaluate S (f + 1) 10 [some .null, a1, a2] st h = (q_M_evaluate S f 11 [some .null, a1, a2] (.null :: st) h) := by rw [q_M_evaluate, hz_w_at d_M_evaluate_10]; rfl
theorem d_M_evaluate_11 : decode c_M_evaluate 11 = .ok (.iconst (-1), 1) := by decide +kernel
theorem e_M_evaluate_11 : q_M_evaluate S (f + 1) 11 L st h = (q_M_evaluate S f 12 L (.int (hz_n (-1)) :: st) h) := by rw [q_M_evaluate, hz_w_at d_M_evaluate_11]; rfl
theorem d_M_evaluate_12 : decode c_M_evaluate 12 = .ok (.putfield 165, 3) := by decide +kernel
theorem e_M_evaluate_12 : q_M_evaluate S (f + 1) 12 L (.int x :: .ref i :: st) h = (hz_wr h i 5 37 (.int x) fun h => q_M_evaluate S f 15 L st h) := by rw [q_M_evaluate, hz_w_at d_M_evaluate_12]; rfl
theorem d_M_evaluate_15 : decode c_M_evaluate 15 = .ok (.return_, 1) := by decide +kernel
theorem e_M_evaluate_15 : q_M_evaluate S (f + 1) 15 L st h = (S 15 L st h) := by rw [q_M_evaluate, hz_w_at d_M_evaluate_15]; rfl
end
abbrev q_M_found (S : Nat → List (Option Value) → List Value → hz_H → Prop) := hz_w zCl zKT f_M n_M c_M_found [] S
section
variable {S : Nat → List (Option Value) → List Value → hz_H → Prop} {f : Nat} {L : List (Option Value)} {st : List Value} {h : hz_H} {x y : Int32} {i j : Nat} {X Y : Int64}
theorem d_M_found_0 : decode c_M_found 0 = .ok (.aload_n 0, 1) := by decide +kernel
theorem e_M_found_0 {a1 a2 : Option Value} : q_M_found S (f + 1) 0 [some (.ref i), a1, a2] st h = (q_M_found S f 1 [some (.ref i), a1, a2] (.ref i :: st) h) := by rw [q_M_found, hz_w_at d_M_found_0]; rfl
theorem e_M_found_0n {a1 a2 : Option Value} : q_M_found S (f + 1) 0 [some .null, a1, a2] st h = (q_M_found S f 1 [some .null, a1, a2] (.null :: st) h) := by rw [q_M_found, hz_w_at d_M_found_0]; rfl
theorem d_M_found_1 : decode c_M_found 1 = .ok (.iconst (-1), 1) := by decide +kernel
theorem e_M_found_1 : q_M_found S (f + 1) 1 L st h = (q_M_found S f 2 L (.int (hz_n (-1)) :: st) h) := by rw [q_M_found, hz_w_at d_M_found_1]; rfl
theorem d_M_found_2 : decode c_M_found 2 = .ok (.putfield 159, 3) := by decide +kernel
theorem e_M_found_2 : q_M_found S (f + 1) 2 L (.int x :: .ref i :: st) h = (hz_wr h i 5 35 (.int x) fun h => q_M_found S f 5 L st h) := by rw [q_M_found, hz_w_at d_M_found_2]; rfl
theorem d_M_found_5 : decode c_M_found 5 = .ok (.aload_n 0, 1) := by decide +kernel
theorem e_M_found_5 {a1 a2 : Option Value} : q_M_found S (f + 1) 5 [some (.ref i), a1, a2] st h = (q_M_found S f 6 [some (.ref i), a1, a2] (.ref i :: st) h) := by rw [q_M_found, hz_w_at d_M_found_5]; rfl
theorem e_M_found_5n {a1 a2 : Option Value} : q_M_found S (f + 1) 5 [some .null, a1, a2] st h = (q_M_found S f 6 [some .null, a1, a2] (.null :: st) h) := by rw [q_M_found, hz_w_at d_M_found_5]; rfl
theorem d_M_found_6 : decode c_M_found 6 = .ok (.iload_n 1, 1) := by decide +kernel
theorem e_M_found_6 {a0 a2 : Option Value} : q_M_found S (f + 1) 6 [a0, some (.int x), a2] st h = (q_M_found S f 7 [a0, some (.int x), a2] (.int x :: st) h) := by rw [q_M_found, hz_w_at d_M_found_6]; rfl
theorem d_M_found_7 : decode c_M_found 7 = .ok (.putfield 165, 3) := by decide +kernel
theorem e_M_found_7 : q_M_found S (f + 1) 7 L (.int x :: .ref i :: st) h = (hz_wr h i 5 37 (.int x) fun h => q_M_found S f 10 L st h) := by rw [q_M_found, hz_w_at d_M_found_7]; rfl
theorem d_M_found_10 : decode c_M_found 10 = .ok (.aload_n 0, 1) := by decide +kernel
theorem e_M_found_10 {a1 a2 : Option Value} : q_M_found S (f + 1) 10 [some (.ref i), a1, a2] st h = (q_M_found S f 11 [some (.ref i), a1, a2] (.ref i :: st) h) := by rw [q_M_found, hz_w_at d_M_found_10]; rfl
theorem e_M_found_10n {a1 a2 : Option Value} : q_M_found S (f + 1) 10 [some .null, a1, a2] st h = (q_M_found S f 11 [some .null, a1, a2] (.null :: st) h) := by rw [q_M_found, hz_w_at d_M_found_10]; rfl
theorem d_M_found_11 : decode c_M_found 11 = .ok (.iload_n 2, 1) := by decide +kernel
theorem e_M_found_11 {a0 a1 : Option Value} : q_M_found S (f + 1) 11 [a0, a1, some (.int x)] st h = (q_M_found S f 12 [a0, a1, some (.int x)] (.int x :: st) h) := by rw [q_M_found, hz_w_at d_M_found_11]; rfl
theorem d_M_found_12 : decode c_M_found 12 = .ok (.putfield 168, 3) := by decide +kernel
theorem e_M_found_12 : q_M_found S (f + 1) 12 L (.int x :: .ref i :: st) h = (hz_wr h i 5 38 (.int x) fun h => q_M_found S f 15 L st h) := by rw [q_M_found, hz_w_at d_M_found_12]; rfl
theorem d_M_found_15 : decode c_M_found 15 = .ok (.return_, 1) := by decide +kernel
theorem e_M_found_15 : q_M_found S (f + 1) 15 L st h = (S 15 L st h) := by rw [q_M_found, hz_w_at d_M_found_15]; rfl
end
abbrev q_M_nothing (S : Nat → List (Option Value) → List Value → hz_H → Prop) := hz_w zCl zKT f_M n_M c_M_nothing [] S
section
variable {S : Nat → List (Option Value) → List Value → hz_H → Prop} {f : Nat} {L : List (Option Value)} {st : List Value} {h : hz_H} {x y : Int32} {i j : Nat} {X Y : Int64}
theorem d_M_nothing_0 : decode c_M_nothing 0 = .ok (.aload_n 0, 1) := by decide +kernel
theorem e_M_nothing_0 : q_M_nothing S (f + 1) 0 [some (.ref i)] st h = (q_M_nothing S f 1 [some (.ref i)] (.ref i :: st) h) := by rw [q_M_nothing, hz_w_at d_M_nothing_0]; rfl
theorem e_M_nothing_0n : q_M_nothing S (f + 1) 0 [some .null] st h = (q_M_nothing S f 1 [some .null] (.null :: st) h) := by rw [q_M_nothing, hz_w_at d_M_nothing_0]; rfl
theorem d_M_nothing_1 : decode c_M_nothing 1 = .ok (.iconst (-1), 1) := by decide +kernel
theorem e_M_nothing_1 : q_M_nothing S (f + 1) 1 L st h = (q_M_nothing S f 2 L (.int (hz_n (-1)) :: st) h) := by rw [q_M_nothing, hz_w_at d_M_nothing_1]; rfl
theorem d_M_nothing_2 : decode c_M_nothing 2 = .ok (.putfield 159, 3) := by decide +kernel
theorem e_M_nothing_2 : q_M_nothing S (f + 1) 2 L (.int x :: .ref i :: st) h = (hz_wr h i 5 35 (.int x) fun h => q_M_nothing S f 5 L st h) := by rw [q_M_nothing, hz_w_at d_M_nothing_2]; rfl
theorem d_M_nothing_5 : decode c_M_nothing 5 = .ok (.aload_n 0, 1) := by decide +kernel
theorem e_M_nothing_5 : q_M_nothing S (f + 1) 5 [some (.ref i)] st h = (q_M_nothing S f 6 [some (.ref i)] (.ref i :: st) h) := by rw [q_M_nothing, hz_w_at d_M_nothing_5]; rfl
theorem e_M_nothing_5n : q_M_nothing S (f + 1) 5 [some .null] st h = (q_M_nothing S f 6 [some .null] (.null :: st) h) := by rw [q_M_nothing, hz_w_at d_M_nothing_5]; rfl
theorem d_M_nothing_6 : decode c_M_nothing 6 = .ok (.iconst (-1), 1) := by decide +kernel
theorem e_M_nothing_6 : q_M_nothing S (f + 1) 6 L st h = (q_M_nothing S f 7 L (.int (hz_n (-1)) :: st) h) := by rw [q_M_nothing, hz_w_at d_M_nothing_6]; rfl
theorem d_M_nothing_7 : decode c_M_nothing 7 = .ok (.putfield 165, 3) := by decide +kernel
theorem e_M_nothing_7 : q_M_nothing S (f + 1) 7 L (.int x :: .ref i :: st) h = (hz_wr h i 5 37 (.int x) fun h => q_M_nothing S f 10 L st h) := by rw [q_M_nothing, hz_w_at d_M_nothing_7]; rfl
theorem d_M_nothing_10 : decode c_M_nothing 10 = .ok (.return_, 1) := by decide +kernel
theorem e_M_nothing_10 : q_M_nothing S (f + 1) 10 L st h = (S 10 L st h) := by rw [q_M_nothing, hz_w_at d_M_nothing_10]; rfl
end
abbrev q_M_enter (S : Nat → List (Option Value) → List Value → hz_H → Prop) := hz_w zCl zKT f_M n_M c_M_enter [] S
section
variable {S : Nat → List (Option Value) → List Value → hz_H → Prop} {f : Nat} {L : List (Option Value)} {st : List Value} {h : hz_H} {x y : Int32} {i j : Nat} {X Y : Int64}
theorem d_M_enter_0 : decode c_M_enter 0 = .ok (.aload_n 0, 1) := by decide +kernel
theorem e_M_enter_0 {a1 a2 : Option Value} : q_M_enter S (f + 1) 0 [some (.ref i), a1, a2] st h = (q_M_enter S f 1 [some (.ref i), a1, a2] (.ref i :: st) h) := by rw [q_M_enter, hz_w_at d_M_enter_0]; rfl
theorem e_M_enter_0n {a1 a2 : Option Value} : q_M_enter S (f + 1) 0 [some .null, a1, a2] st h = (q_M_enter S f 1 [some .null, a1, a2] (.null :: st) h) := by rw [q_M_enter, hz_w_at d_M_enter_0]; rfl
theorem d_M_enter_1 : decode c_M_enter 1 = .ok (.getfield 171, 3) := by decide +kernel
theorem e_M_enter_1 : q_M_enter S (f + 1) 1 L (.ref i :: st) h = (hz_rd h i 5 33 fun v => q_M_enter S f 4 L (v :: st) h) := by rw [q_M_enter, hz_w_at d_M_enter_1]; rfl
theorem d_M_enter_4 : decode c_M_enter 4 = .ok (.aload_n 0, 1) := by decide +kernel
theorem e_M_enter_4 {a1 a2 : Option Value} : q_M_enter S (f + 1) 4 [some (.ref i), a1, a2] st h = (q_M_enter S f 5 [some (.ref i), a1, a2] (.ref i :: st) h) := by rw [q_M_enter, hz_w_at d_M_enter_4]; rfl
theorem e_M_enter_4n {a1 a2 : Option Value} : q_M_enter S (f + 1) 4 [some .null, a1, a2] st h = (q_M_enter S f 5 [some .null, a1, a2] (.null :: st) h) := by rw [q_M_enter, hz_w_at d_M_enter_4]; rfl
theorem d_M_enter_5 : decode c_M_enter 5 = .ok (.getfield 174, 3) := by decide +kernel
theorem e_M_enter_5 : q_M_enter S (f + 1) 5 L (.ref i :: st) h = (hz_rd h i 5 32 fun v => q_M_enter S f 8 L (v :: st) h) := by rw [q_M_enter, hz_w_at d_M_enter_5]; rfl
theorem d_M_enter_8 : decode c_M_enter 8 = .ok (.if_icmp .ne 10, 3) := by decide +kernel
theorem e_M_enter_8 : q_M_enter S (f + 1) 8 L (.int y :: .int x :: st) h = ((¬ x.toInt = y.toInt → q_M_enter S f 18 L st h) ∧ (¬ (¬ x.toInt = y.toInt) → q_M_enter S f 11 L st h)) := by rw [q_M_enter, hz_w_at d_M_enter_8]; rfl
theorem d_M_enter_11 : decode c_M_enter 11 = .ok (.aload_n 0, 1) := by decide +kernel
theorem e_M_enter_11 {a1 a2 : Option Value} : q_M_enter S (f + 1) 11 [some (.ref i), a1, a2] st h = (q_M_enter S f 12 [some (.ref i), a1, a2] (.ref i :: st) h) := by rw [q_M_enter, hz_w_at d_M_enter_11]; rfl
theorem e_M_enter_11n {a1 a2 : Option Value} : q_M_enter S (f + 1) 11 [some .null, a1, a2] st h = (q_M_enter S f 12 [some .null, a1, a2] (.null :: st) h) := by rw [q_M_enter, hz_w_at d_M_enter_11]; rfl
theorem d_M_enter_12 : decode c_M_enter 12 = .ok (.bipush (-2), 2) := by decide +kernel
theorem e_M_enter_12 : q_M_enter S (f + 1) 12 L st h = (q_M_enter S f 14 L (.int (hz_n (-2)) :: st) h) := by rw [q_M_enter, hz_w_at d_M_enter_12]; rfl
theorem d_M_enter_14 : decode c_M_enter 14 = .ok (.putfield 177, 3) := by decide +kernel
theorem e_M_enter_14 : q_M_enter S (f + 1) 14 L (.int x :: .ref i :: st) h = (hz_wr h i 5 34 (.int x) fun h => q_M_enter S f 17 L st h) := by rw [q_M_enter, hz_w_at d_M_enter_14]; rfl
theorem d_M_enter_17 : decode c_M_enter 17 = .ok (.return_, 1) := by decide +kernel
theorem e_M_enter_17 : q_M_enter S (f + 1) 17 L st h = (S 17 L st h) := by rw [q_M_enter, hz_w_at d_M_enter_17]; rfl
theorem d_M_enter_18 : decode c_M_enter 18 = .ok (.aload_n 0, 1) := by decide +kernel
theorem e_M_enter_18 {a1 a2 : Option Value} : q_M_enter S (f + 1) 18 [some (.ref i), a1, a2] st h = (q_M_enter S f 19 [some (.ref i), a1, a2] (.ref i :: st) h) := by rw [q_M_enter, hz_w_at d_M_enter_18]; rfl
theorem e_M_enter_18n {a1 a2 : Option Value} : q_M_enter S (f + 1) 18 [some .null, a1, a2] st h = (q_M_enter S f 19 [some .null, a1, a2] (.null :: st) h) := by rw [q_M_enter, hz_w_at d_M_enter_18]; rfl
theorem d_M_enter_19 : decode c_M_enter 19 = .ok (.dup, 1) := by decide +kernel
theorem e_M_enter_19 : q_M_enter S (f + 1) 19 L (.ref i :: st) h = (q_M_enter S f 20 L (.ref i :: .ref i :: st) h) := by rw [q_M_enter, hz_w_at d_M_enter_19]; rfl
theorem e_M_enter_19i : q_M_enter S (f + 1) 19 L (.int x :: st) h = (q_M_enter S f 20 L (.int x :: .int x :: st) h) := by rw [q_M_enter, hz_w_at d_M_enter_19]; rfl
theorem d_M_enter_20 : decode c_M_enter 20 = .ok (.getfield 171, 3) := by decide +kernel
theorem e_M_enter_20 : q_M_enter S (f + 1) 20 L (.ref i :: st) h = (hz_rd h i 5 33 fun v => q_M_enter S f 23 L (v :: st) h) := by rw [q_M_enter, hz_w_at d_M_enter_20]; rfl
theorem d_M_enter_23 : decode c_M_enter 23 = .ok (.iconst 1, 1) := by decide +kernel
theorem e_M_enter_23 : q_M_enter S (f + 1) 23 L st h = (q_M_enter S f 24 L (.int (hz_n 1) :: st) h) := by rw [q_M_enter, hz_w_at d_M_enter_23]; rfl
theorem d_M_enter_24 : decode c_M_enter 24 = .ok (.iadd, 1) := by decide +kernel
theorem e_M_enter_24 : q_M_enter S (f + 1) 24 L (.int y :: .int x :: st) h = (q_M_enter S f 25 L (.int (x + y) :: st) h) := by rw [q_M_enter, hz_w_at d_M_enter_24]; rfl
theorem d_M_enter_25 : decode c_M_enter 25 = .ok (.putfield 171, 3) := by decide +kernel
theorem e_M_enter_25 : q_M_enter S (f + 1) 25 L (.int x :: .ref i :: st) h = (hz_wr h i 5 33 (.int x) fun h => q_M_enter S f 28 L st h) := by rw [q_M_enter, hz_w_at d_M_enter_25]; rfl
theorem d_M_enter_28 : decode c_M_enter 28 = .ok (.aload_n 0, 1) := by decide +kernel
theorem e_M_enter_28 {a1 a2 : Option Value} : q_M_enter S (f + 1) 28 [some (.ref i), a1, a2] st h = (q_M_enter S f 29 [some (.ref i), a1, a2] (.ref i :: st) h) := by rw [q_M_enter, hz_w_at d_M_enter_28]; rfl
theorem e_M_enter_28n {a1 a2 : Option Value} : q_M_enter S (f + 1) 28 [some .null, a1, a2] st h = (q_M_enter S f 29 [some .null, a1, a2] (.null :: st) h) := by rw [q_M_enter, hz_w_at d_M_enter_28]; rfl
theorem d_M_enter_29 : decode c_M_enter 29 = .ok (.bipush 40, 2) := by decide +kernel
theorem e_M_enter_29 : q_M_enter S (f + 1) 29 L st h = (q_M_enter S f 31 L (.int (hz_n 40) :: st) h) := by rw [q_M_enter, hz_w_at d_M_enter_29]; rfl
theorem d_M_enter_31 : decode c_M_enter 31 = .ok (.iload_n 1, 1) := by decide +kernel
theorem e_M_enter_31 {a0 a2 : Option Value} : q_M_enter S (f + 1) 31 [a0, some (.int x), a2] st h = (q_M_enter S f 32 [a0, some (.int x), a2] (.int x :: st) h) := by rw [q_M_enter, hz_w_at d_M_enter_31]; rfl
theorem d_M_enter_32 : decode c_M_enter 32 = .ok (.imul, 1) := by decide +kernel
theorem e_M_enter_32 : q_M_enter S (f + 1) 32 L (.int y :: .int x :: st) h = (q_M_enter S f 33 L (.int (x * y) :: st) h) := by rw [q_M_enter, hz_w_at d_M_enter_32]; rfl
theorem d_M_enter_33 : decode c_M_enter 33 = .ok (.iload_n 2, 1) := by decide +kernel
theorem e_M_enter_33 {a0 a1 : Option Value} : q_M_enter S (f + 1) 33 [a0, a1, some (.int x)] st h = (q_M_enter S f 34 [a0, a1, some (.int x)] (.int x :: st) h) := by rw [q_M_enter, hz_w_at d_M_enter_33]; rfl
theorem d_M_enter_34 : decode c_M_enter 34 = .ok (.invokevirtual 180, 3) := by decide +kernel
theorem e_M_enter_34 : q_M_enter S (f + 1) 34 L st h = (S 34 L st h) := by rw [q_M_enter, hz_w_at d_M_enter_34]; rfl
theorem d_M_enter_37 : decode c_M_enter 37 = .ok (.return_, 1) := by decide +kernel
theorem e_M_enter_37 : q_M_enter S (f + 1) 37 L st h = (S 37 L st h) := by rw [q_M_enter, hz_w_at d_M_enter_37]; rfl
end
abbrev q_M_need (S : Nat → List (Option Value) → List Value → hz_H → Prop) := hz_w zCl zKT f_M n_M c_M_need [] S
section
variable {S : Nat → List (Option Value) → List Value → hz_H → Prop} {f : Nat} {L : List (Option Value)} {st : List Value} {h : hz_H} {x y : Int32} {i j : Nat} {X Y : Int64}
theorem d_M_need_0 : decode c_M_need 0 = .ok (.iload_n 1, 1) := by decide +kernel
theorem e_M_need_0 {a0 : Option Value} : q_M_need S (f + 1) 0 [a0, some (.int x)] st h = (q_M_need S f 1 [a0, some (.int x)] (.int x :: st) h) := by rw [q_M_need, hz_w_at d_M_need_0]; rfl
theorem d_M_need_1 : decode c_M_need 1 = .ok (.bipush (-30), 2) := by decide +kernel
theorem e_M_need_1 : q_M_need S (f + 1) 1 L st h = (q_M_need S f 3 L (.int (hz_n (-30)) :: st) h) := by rw [q_M_need, hz_w_at d_M_need_1]; rfl
theorem d_M_need_3 : decode c_M_need 3 = .ok (.if_icmp .gt 14, 3) := by decide +kernel
theorem e_M_need_3 : q_M_need S (f + 1) 3 L (.int y :: .int x :: st) h = ((y.toInt < x.toInt → q_M_need S f 17 L st h) ∧ (¬ (y.toInt < x.toInt) → q_M_need S f 6 L st h)) := by rw [q_M_need, hz_w_at d_M_need_3]; rfl
theorem d_M_need_6 : decode c_M_need 6 = .ok (.aload_n 0, 1) := by decide +kernel
theorem e_M_need_6 {a1 : Option Value} : q_M_need S (f + 1) 6 [some (.ref i), a1] st h = (q_M_need S f 7 [some (.ref i), a1] (.ref i :: st) h) := by rw [q_M_need, hz_w_at d_M_need_6]; rfl
theorem e_M_need_6n {a1 : Option Value} : q_M_need S (f + 1) 6 [some .null, a1] st h = (q_M_need S f 7 [some .null, a1] (.null :: st) h) := by rw [q_M_need, hz_w_at d_M_need_6]; rfl
theorem d_M_need_7 : decode c_M_need 7 = .ok (.bipush (-30), 2) := by decide +kernel
theorem e_M_need_7 : q_M_need S (f + 1) 7 L st h = (q_M_need S f 9 L (.int (hz_n (-30)) :: st) h) := by rw [q_M_need, hz_w_at d_M_need_7]; rfl
theorem d_M_need_9 : decode c_M_need 9 = .ok (.iload_n 1, 1) := by decide +kernel
theorem e_M_need_9 {a0 : Option Value} : q_M_need S (f + 1) 9 [a0, some (.int x)] st h = (q_M_need S f 10 [a0, some (.int x)] (.int x :: st) h) := by rw [q_M_need, hz_w_at d_M_need_9]; rfl
theorem d_M_need_10 : decode c_M_need 10 = .ok (.isub, 1) := by decide +kernel
theorem e_M_need_10 : q_M_need S (f + 1) 10 L (.int y :: .int x :: st) h = (q_M_need S f 11 L (.int (x - y) :: st) h) := by rw [q_M_need, hz_w_at d_M_need_10]; rfl
theorem d_M_need_11 : decode c_M_need 11 = .ok (.invokevirtual 183, 3) := by decide +kernel
theorem e_M_need_11 : q_M_need S (f + 1) 11 L st h = (S 11 L st h) := by rw [q_M_need, hz_w_at d_M_need_11]; rfl
theorem d_M_need_14 : decode c_M_need 14 = .ok (.goto 108, 3) := by decide +kernel
theorem e_M_need_14 : q_M_need S (f + 1) 14 L st h = (q_M_need S f 122 L st h) := by rw [q_M_need, hz_w_at d_M_need_14]; rfl
theorem d_M_need_17 : decode c_M_need 17 = .ok (.iload_n 1, 1) := by decide +kernel
theorem e_M_need_17 {a0 : Option Value} : q_M_need S (f + 1) 17 [a0, some (.int x)] st h = (q_M_need S f 18 [a0, some (.int x)] (.int x :: st) h) := by rw [q_M_need, hz_w_at d_M_need_17]; rfl
theorem d_M_need_18 : decode c_M_need 18 = .ok (.ifCond .ge 24, 3) := by decide +kernel
theorem e_M_need_18 : q_M_need S (f + 1) 18 L (.int x :: st) h = ((0 ≤ x.toInt → q_M_need S f 42 L st h) ∧ (¬ (0 ≤ x.toInt) → q_M_need S f 21 L st h)) := by rw [q_M_need, hz_w_at d_M_need_18]; rfl
theorem d_M_need_21 : decode c_M_need 21 = .ok (.aload_n 0, 1) := by decide +kernel
theorem e_M_need_21 {a1 : Option Value} : q_M_need S (f + 1) 21 [some (.ref i), a1] st h = (q_M_need S f 22 [some (.ref i), a1] (.ref i :: st) h) := by rw [q_M_need, hz_w_at d_M_need_21]; rfl
theorem e_M_need_21n {a1 : Option Value} : q_M_need S (f + 1) 21 [some .null, a1] st h = (q_M_need S f 22 [some .null, a1] (.null :: st) h) := by rw [q_M_need, hz_w_at d_M_need_21]; rfl
theorem d_M_need_22 : decode c_M_need 22 = .ok (.iload_n 1, 1) := by decide +kernel
theorem e_M_need_22 {a0 : Option Value} : q_M_need S (f + 1) 22 [a0, some (.int x)] st h = (q_M_need S f 23 [a0, some (.int x)] (.int x :: st) h) := by rw [q_M_need, hz_w_at d_M_need_22]; rfl
theorem d_M_need_23 : decode c_M_need 23 = .ok (.bipush (-20), 2) := by decide +kernel
theorem e_M_need_23 : q_M_need S (f + 1) 23 L st h = (q_M_need S f 25 L (.int (hz_n (-20)) :: st) h) := by rw [q_M_need, hz_w_at d_M_need_23]; rfl
theorem d_M_need_25 : decode c_M_need 25 = .ok (.if_icmp .ne 7, 3) := by decide +kernel
theorem e_M_need_25 : q_M_need S (f + 1) 25 L (.int y :: .int x :: st) h = ((¬ x.toInt = y.toInt → q_M_need S f 32 L st h) ∧ (¬ (¬ x.toInt = y.toInt) → q_M_need S f 28 L st h)) := by rw [q_M_need, hz_w_at d_M_need_25]; rfl
theorem d_M_need_28 : decode c_M_need 28 = .ok (.iconst 1, 1) := by decide +kernel
theorem e_M_need_28 : q_M_need S (f + 1) 28 L st h = (q_M_need S f 29 L (.int (hz_n 1) :: st) h) := by rw [q_M_need, hz_w_at d_M_need_28]; rfl
theorem d_M_need_29 : decode c_M_need 29 = .ok (.goto 4, 3) := by decide +kernel
theorem e_M_need_29 : q_M_need S (f + 1) 29 L st h = (q_M_need S f 33 L st h) := by rw [q_M_need, hz_w_at d_M_need_29]; rfl
theorem d_M_need_32 : decode c_M_need 32 = .ok (.iconst 0, 1) := by decide +kernel
theorem e_M_need_32 : q_M_need S (f + 1) 32 L st h = (q_M_need S f 33 L (.int (hz_n 0) :: st) h) := by rw [q_M_need, hz_w_at d_M_need_32]; rfl
theorem d_M_need_33 : decode c_M_need 33 = .ok (.iconst (-1), 1) := by decide +kernel
theorem e_M_need_33 : q_M_need S (f + 1) 33 L st h = (q_M_need S f 34 L (.int (hz_n (-1)) :: st) h) := by rw [q_M_need, hz_w_at d_M_need_33]; rfl
theorem d_M_need_34 : decode c_M_need 34 = .ok (.iload_n 1, 1) := by decide +kernel
theorem e_M_need_34 {a0 : Option Value} : q_M_need S (f + 1) 34 [a0, some (.int x)] st h = (q_M_need S f 35 [a0, some (.int x)] (.int x :: st) h) := by rw [q_M_need, hz_w_at d_M_need_34]; rfl
theorem d_M_need_35 : decode c_M_need 35 = .ok (.isub, 1) := by decide +kernel
theorem e_M_need_35 : q_M_need S (f + 1) 35 L (.int y :: .int x :: st) h = (q_M_need S f 36 L (.int (x - y) :: st) h) := by rw [q_M_need, hz_w_at d_M_need_35]; rfl
theorem d_M_need_36 : decode c_M_need 36 = .ok (.invokevirtual 187, 3) := by decide +kernel
theorem e_M_need_36 : q_M_need S (f + 1) 36 L st h = (S 36 L st h) := by rw [q_M_need, hz_w_at d_M_need_36]; rfl
theorem d_M_need_39 : decode c_M_need 39 = .ok (.goto 83, 3) := by decide +kernel
theorem e_M_need_39 : q_M_need S (f + 1) 39 L st h = (q_M_need S f 122 L st h) := by rw [q_M_need, hz_w_at d_M_need_39]; rfl
theorem d_M_need_42 : decode c_M_need 42 = .ok (.aload_n 0, 1) := by decide +kernel
theorem e_M_need_42 {a1 : Option Value} : q_M_need S (f + 1) 42 [some (.ref i), a1] st h = (q_M_need S f 43 [some (.ref i), a1] (.ref i :: st) h) := by rw [q_M_need, hz_w_at d_M_need_42]; rfl
theorem e_M_need_42n {a1 : Option Value} : q_M_need S (f + 1) 42 [some .null, a1] st h = (q_M_need S f 43 [some .null, a1] (.null :: st) h) := by rw [q_M_need, hz_w_at d_M_need_42]; rfl
theorem d_M_need_43 : decode c_M_need 43 = .ok (.getfield 47, 3) := by decide +kernel
theorem e_M_need_43 : q_M_need S (f + 1) 43 L (.ref i :: st) h = (hz_rd h i 5 18 fun v => q_M_need S f 46 L (v :: st) h) := by rw [q_M_need, hz_w_at d_M_need_43]; rfl
theorem d_M_need_46 : decode c_M_need 46 = .ok (.iload_n 1, 1) := by decide +kernel
theorem e_M_need_46 {a0 : Option Value} : q_M_need S (f + 1) 46 [a0, some (.int x)] st h = (q_M_need S f 47 [a0, some (.int x)] (.int x :: st) h) := by rw [q_M_need, hz_w_at d_M_need_46]; rfl
theorem d_M_need_47 : decode c_M_need 47 = .ok (.iaload, 1) := by decide +kernel
theorem e_M_need_47 : q_M_need S (f + 1) 47 L (.int x :: .ref i :: st) h = (hz_ea zKT hz_kI h i x fun v => q_M_need S f 48 L (v :: st) h) := by rw [q_M_need, hz_w_at d_M_need_47]; rfl
theorem d_M_need_48 : decode c_M_need 48 = .ok (.iconst 1, 1) := by decide +kernel
theorem e_M_need_48 : q_M_need S (f + 1) 48 L st h = (q_M_need S f 49 L (.int (hz_n 1) :: st) h) := by rw [q_M_need, hz_w_at d_M_need_48]; rfl
theorem d_M_need_49 : decode c_M_need 49 = .ok (.if_icmp .le 24, 3) := by decide +kernel
theorem e_M_need_49 : q_M_need S (f + 1) 49 L (.int y :: .int x :: st) h = ((x.toInt ≤ y.toInt → q_M_need S f 73 L st h) ∧ (¬ (x.toInt ≤ y.toInt) → q_M_need S f 52 L st h)) := by rw [q_M_need, hz_w_at d_M_need_49]; rfl
theorem d_M_need_52 : decode c_M_need 52 = .ok (.aload_n 0, 1) := by decide +kernel
theorem e_M_need_52 {a1 : Option Value} : q_M_need S (f + 1) 52 [some (.ref i), a1] st h = (q_M_need S f 53 [some (.ref i), a1] (.ref i :: st) h) := by rw [q_M_need, hz_w_at d_M_need_52]; rfl
theorem e_M_need_52n {a1 : Option Value} : q_M_need S (f + 1) 52 [some .null, a1] st h = (q_M_need S f 53 [some .null, a1] (.null :: st) h) := by rw [q_M_need, hz_w_at d_M_need_52]; rfl
theorem d_M_need_53 : decode c_M_need 53 = .ok (.aload_n 0, 1) := by decide +kernel
theorem e_M_need_53 {a1 : Option Value} : q_M_need S (f + 1) 53 [some (.ref i), a1] st h = (q_M_need S f 54 [some (.ref i), a1] (.ref i :: st) h) := by rw [q_M_need, hz_w_at d_M_need_53]; rfl
theorem e_M_need_53n {a1 : Option Value} : q_M_need S (f + 1) 53 [some .null, a1] st h = (q_M_need S f 54 [some .null, a1] (.null :: st) h) := by rw [q_M_need, hz_w_at d_M_need_53]; rfl
theorem d_M_need_54 : decode c_M_need 54 = .ok (.getfield 47, 3) := by decide +kernel
theorem e_M_need_54 : q_M_need S (f + 1) 54 L (.ref i :: st) h = (hz_rd h i 5 18 fun v => q_M_need S f 57 L (v :: st) h) := by rw [q_M_need, hz_w_at d_M_need_54]; rfl
theorem d_M_need_57 : decode c_M_need 57 = .ok (.iload_n 1, 1) := by decide +kernel
theorem e_M_need_57 {a0 : Option Value} : q_M_need S (f + 1) 57 [a0, some (.int x)] st h = (q_M_need S f 58 [a0, some (.int x)] (.int x :: st) h) := by rw [q_M_need, hz_w_at d_M_need_57]; rfl
theorem d_M_need_58 : decode c_M_need 58 = .ok (.iaload, 1) := by decide +kernel
theorem e_M_need_58 : q_M_need S (f + 1) 58 L (.int x :: .ref i :: st) h = (hz_ea zKT hz_kI h i x fun v => q_M_need S f 59 L (v :: st) h) := by rw [q_M_need, hz_w_at d_M_need_58]; rfl
theorem d_M_need_59 : decode c_M_need 59 = .ok (.iconst 2, 1) := by decide +kernel
theorem e_M_need_59 : q_M_need S (f + 1) 59 L st h = (q_M_need S f 60 L (.int (hz_n 2) :: st) h) := by rw [q_M_need, hz_w_at d_M_need_59]; rfl
theorem d_M_need_60 : decode c_M_need 60 = .ok (.isub, 1) := by decide +kernel
theorem e_M_need_60 : q_M_need S (f + 1) 60 L (.int y :: .int x :: st) h = (q_M_need S f 61 L (.int (x - y) :: st) h) := by rw [q_M_need, hz_w_at d_M_need_60]; rfl
theorem d_M_need_61 : decode c_M_need 61 = .ok (.aload_n 0, 1) := by decide +kernel
theorem e_M_need_61 {a1 : Option Value} : q_M_need S (f + 1) 61 [some (.ref i), a1] st h = (q_M_need S f 62 [some (.ref i), a1] (.ref i :: st) h) := by rw [q_M_need, hz_w_at d_M_need_61]; rfl
theorem e_M_need_61n {a1 : Option Value} : q_M_need S (f + 1) 61 [some .null, a1] st h = (q_M_need S f 62 [some .null, a1] (.null :: st) h) := by rw [q_M_need, hz_w_at d_M_need_61]; rfl
theorem d_M_need_62 : decode c_M_need 62 = .ok (.getfield 56, 3) := by decide +kernel
theorem e_M_need_62 : q_M_need S (f + 1) 62 L (.ref i :: st) h = (hz_rd h i 5 21 fun v => q_M_need S f 65 L (v :: st) h) := by rw [q_M_need, hz_w_at d_M_need_62]; rfl
theorem d_M_need_65 : decode c_M_need 65 = .ok (.iload_n 1, 1) := by decide +kernel
theorem e_M_need_65 {a0 : Option Value} : q_M_need S (f + 1) 65 [a0, some (.int x)] st h = (q_M_need S f 66 [a0, some (.int x)] (.int x :: st) h) := by rw [q_M_need, hz_w_at d_M_need_65]; rfl
theorem d_M_need_66 : decode c_M_need 66 = .ok (.iaload, 1) := by decide +kernel
theorem e_M_need_66 : q_M_need S (f + 1) 66 L (.int x :: .ref i :: st) h = (hz_ea zKT hz_kI h i x fun v => q_M_need S f 67 L (v :: st) h) := by rw [q_M_need, hz_w_at d_M_need_66]; rfl
theorem d_M_need_67 : decode c_M_need 67 = .ok (.invokevirtual 187, 3) := by decide +kernel
theorem e_M_need_67 : q_M_need S (f + 1) 67 L st h = (S 67 L st h) := by rw [q_M_need, hz_w_at d_M_need_67]; rfl
theorem d_M_need_70 : decode c_M_need 70 = .ok (.goto 52, 3) := by decide +kernel
theorem e_M_need_70 : q_M_need S (f + 1) 70 L st h = (q_M_need S f 122 L st h) := by rw [q_M_need, hz_w_at d_M_need_70]; rfl
theorem d_M_need_73 : decode c_M_need 73 = .ok (.aload_n 0, 1) := by decide +kernel
theorem e_M_need_73 {a1 : Option Value} : q_M_need S (f + 1) 73 [some (.ref i), a1] st h = (q_M_need S f 74 [some (.ref i), a1] (.ref i :: st) h) := by rw [q_M_need, hz_w_at d_M_need_73]; rfl
theorem e_M_need_73n {a1 : Option Value} : q_M_need S (f + 1) 73 [some .null, a1] st h = (q_M_need S f 74 [some .null, a1] (.null :: st) h) := by rw [q_M_need, hz_w_at d_M_need_73]; rfl
theorem d_M_need_74 : decode c_M_need 74 = .ok (.getfield 47, 3) := by decide +kernel
theorem e_M_need_74 : q_M_need S (f + 1) 74 L (.ref i :: st) h = (hz_rd h i 5 18 fun v => q_M_need S f 77 L (v :: st) h) := by rw [q_M_need, hz_w_at d_M_need_74]; rfl
theorem d_M_need_77 : decode c_M_need 77 = .ok (.iload_n 1, 1) := by decide +kernel
theorem e_M_need_77 {a0 : Option Value} : q_M_need S (f + 1) 77 [a0, some (.int x)] st h = (q_M_need S f 78 [a0, some (.int x)] (.int x :: st) h) := by rw [q_M_need, hz_w_at d_M_need_77]; rfl
theorem d_M_need_78 : decode c_M_need 78 = .ok (.iaload, 1) := by decide +kernel
theorem e_M_need_78 : q_M_need S (f + 1) 78 L (.int x :: .ref i :: st) h = (hz_ea zKT hz_kI h i x fun v => q_M_need S f 79 L (v :: st) h) := by rw [q_M_need, hz_w_at d_M_need_78]; rfl
theorem d_M_need_79 : decode c_M_need 79 = .ok (.iconst 1, 1) := by decide +kernel
theorem e_M_need_79 : q_M_need S (f + 1) 79 L st h = (q_M_need S f 80 L (.int (hz_n 1) :: st) h) := by rw [q_M_need, hz_w_at d_M_need_79]; rfl
theorem d_M_need_80 : decode c_M_need 80 = .ok (.if_icmp .ne 12, 3) := by decide +kernel
theorem e_M_need_80 : q_M_need S (f + 1) 80 L (.int y :: .int x :: st) h = ((¬ x.toInt = y.toInt → q_M_need S f 92 L st h) ∧ (¬ (¬ x.toInt = y.toInt) → q_M_need S f 83 L st h)) := by rw [q_M_need, hz_w_at d_M_need_80]; rfl
theorem d_M_need_83 : decode c_M_need 83 = .ok (.aload_n 0, 1) := by decide +kernel
theorem e_M_need_83 {a1 : Option Value} : q_M_need S (f + 1) 83 [some (.ref i), a1] st h = (q_M_need S f 84 [some (.ref i), a1] (.ref i :: st) h) := by rw [q_M_need, hz_w_at d_M_need_83]; rfl
theorem e_M_need_83n {a1 : Option Value} : q_M_need S (f + 1) 83 [some .null, a1] st h = (q_M_need S f 84 [some .null, a1] (.null :: st) h) := by rw [q_M_need, hz_w_at d_M_need_83]; rfl
theorem d_M_need_84 : decode c_M_need 84 = .ok (.bipush (-4), 2) := by decide +kernel
theorem e_M_need_84 : q_M_need S (f + 1) 84 L st h = (q_M_need S f 86 L (.int (hz_n (-4)) :: st) h) := by rw [q_M_need, hz_w_at d_M_need_84]; rfl
theorem d_M_need_86 : decode c_M_need 86 = .ok (.putfield 177, 3) := by decide +kernel
theorem e_M_need_86 : q_M_need S (f + 1) 86 L (.int x :: .ref i :: st) h = (hz_wr h i 5 34 (.int x) fun h => q_M_need S f 89 L st h) := by rw [q_M_need, hz_w_at d_M_need_86]; rfl
theorem d_M_need_89 : decode c_M_need 89 = .ok (.goto 33, 3) := by decide +kernel
theorem e_M_need_89 : q_M_need S (f + 1) 89 L st h = (q_M_need S f 122 L st h) := by rw [q_M_need, hz_w_at d_M_need_89]; rfl
theorem d_M_need_92 : decode c_M_need 92 = .ok (.aload_n 0, 1) := by decide +kernel
theorem e_M_need_92 {a1 : Option Value} : q_M_need S (f + 1) 92 [some (.ref i), a1] st h = (q_M_need S f 93 [some (.ref i), a1] (.ref i :: st) h) := by rw [q_M_need, hz_w_at d_M_need_92]; rfl
theorem e_M_need_92n {a1 : Option Value} : q_M_need S (f + 1) 92 [some .null, a1] st h = (q_M_need S f 93 [some .null, a1] (.null :: st) h) := by rw [q_M_need, hz_w_at d_M_need_92]; rfl
theorem d_M_need_93 : decode c_M_need 93 = .ok (.getfield 47, 3) := by decide +kernel
theorem e_M_need_93 : q_M_need S (f + 1) 93 L (.ref i :: st) h = (hz_rd h i 5 18 fun v => q_M_need S f 96 L (v :: st) h) := by rw [q_M_need, hz_w_at d_M_need_93]; rfl
theorem d_M_need_96 : decode c_M_need 96 = .ok (.iload_n 1, 1) := by decide +kernel
theorem e_M_need_96 {a0 : Option Value} : q_M_need S (f + 1) 96 [a0, some (.int x)] st h = (q_M_need S f 97 [a0, some (.int x)] (.int x :: st) h) := by rw [q_M_need, hz_w_at d_M_need_96]; rfl
theorem d_M_need_97 : decode c_M_need 97 = .ok (.iconst 1, 1) := by decide +kernel
theorem e_M_need_97 : q_M_need S (f + 1) 97 L st h = (q_M_need S f 98 L (.int (hz_n 1) :: st) h) := by rw [q_M_need, hz_w_at d_M_need_97]; rfl
theorem d_M_need_98 : decode c_M_need 98 = .ok (.iastore, 1) := by decide +kernel
theorem e_M_need_98 : q_M_need S (f + 1) 98 L (.int y :: .int x :: .ref i :: st) h = (hz_es zKT hz_kI h i x (.int y) fun h => q_M_need S f 99 L st h) := by rw [q_M_need, hz_w_at d_M_need_98]; rfl
theorem d_M_need_99 : decode c_M_need 99 = .ok (.aload_n 0, 1) := by decide +kernel
theorem e_M_need_99 {a1 : Option Value} : q_M_need S (f + 1) 99 [some (.ref i), a1] st h = (q_M_need S f 100 [some (.ref i), a1] (.ref i :: st) h) := by rw [q_M_need, hz_w_at d_M_need_99]; rfl
theorem e_M_need_99n {a1 : Option Value} : q_M_need S (f + 1) 99 [some .null, a1] st h = (q_M_need S f 100 [some .null, a1] (.null :: st) h) := by rw [q_M_need, hz_w_at d_M_need_99]; rfl
theorem d_M_need_100 : decode c_M_need 100 = .ok (.iconst 1, 1) := by decide +kernel
theorem e_M_need_100 : q_M_need S (f + 1) 100 L st h = (q_M_need S f 101 L (.int (hz_n 1) :: st) h) := by rw [q_M_need, hz_w_at d_M_need_100]; rfl
theorem d_M_need_101 : decode c_M_need 101 = .ok (.iload_n 1, 1) := by decide +kernel
theorem e_M_need_101 {a0 : Option Value} : q_M_need S (f + 1) 101 [a0, some (.int x)] st h = (q_M_need S f 102 [a0, some (.int x)] (.int x :: st) h) := by rw [q_M_need, hz_w_at d_M_need_101]; rfl
theorem d_M_need_102 : decode c_M_need 102 = .ok (.iconst 0, 1) := by decide +kernel
theorem e_M_need_102 : q_M_need S (f + 1) 102 L st h = (q_M_need S f 103 L (.int (hz_n 0) :: st) h) := by rw [q_M_need, hz_w_at d_M_need_102]; rfl
theorem d_M_need_103 : decode c_M_need 103 = .ok (.invokevirtual 190, 3) := by decide +kernel
theorem e_M_need_103 : q_M_need S (f + 1) 103 L st h = (S 103 L st h) := by rw [q_M_need, hz_w_at d_M_need_103]; rfl
theorem d_M_need_106 : decode c_M_need 106 = .ok (.aload_n 0, 1) := by decide +kernel
theorem e_M_need_106 {a1 : Option Value} : q_M_need S (f + 1) 106 [some (.ref i), a1] st h = (q_M_need S f 107 [some (.ref i), a1] (.ref i :: st) h) := by rw [q_M_need, hz_w_at d_M_need_106]; rfl
theorem e_M_need_106n {a1 : Option Value} : q_M_need S (f + 1) 106 [some .null, a1] st h = (q_M_need S f 107 [some .null, a1] (.null :: st) h) := by rw [q_M_need, hz_w_at d_M_need_106]; rfl
theorem d_M_need_107 : decode c_M_need 107 = .ok (.aload_n 0, 1) := by decide +kernel
theorem e_M_need_107 {a1 : Option Value} : q_M_need S (f + 1) 107 [some (.ref i), a1] st h = (q_M_need S f 108 [some (.ref i), a1] (.ref i :: st) h) := by rw [q_M_need, hz_w_at d_M_need_107]; rfl
theorem e_M_need_107n {a1 : Option Value} : q_M_need S (f + 1) 107 [some .null, a1] st h = (q_M_need S f 108 [some .null, a1] (.null :: st) h) := by rw [q_M_need, hz_w_at d_M_need_107]; rfl
theorem d_M_need_108 : decode c_M_need 108 = .ok (.getfield 50, 3) := by decide +kernel
theorem e_M_need_108 : q_M_need S (f + 1) 108 L (.ref i :: st) h = (hz_rd h i 5 19 fun v => q_M_need S f 111 L (v :: st) h) := by rw [q_M_need, hz_w_at d_M_need_108]; rfl
theorem d_M_need_111 : decode c_M_need 111 = .ok (.iload_n 1, 1) := by decide +kernel
theorem e_M_need_111 {a0 : Option Value} : q_M_need S (f + 1) 111 [a0, some (.int x)] st h = (q_M_need S f 112 [a0, some (.int x)] (.int x :: st) h) := by rw [q_M_need, hz_w_at d_M_need_111]; rfl
theorem d_M_need_112 : decode c_M_need 112 = .ok (.iaload, 1) := by decide +kernel
theorem e_M_need_112 : q_M_need S (f + 1) 112 L (.int x :: .ref i :: st) h = (hz_ea zKT hz_kI h i x fun v => q_M_need S f 113 L (v :: st) h) := by rw [q_M_need, hz_w_at d_M_need_112]; rfl
theorem d_M_need_113 : decode c_M_need 113 = .ok (.aload_n 0, 1) := by decide +kernel
theorem e_M_need_113 {a1 : Option Value} : q_M_need S (f + 1) 113 [some (.ref i), a1] st h = (q_M_need S f 114 [some (.ref i), a1] (.ref i :: st) h) := by rw [q_M_need, hz_w_at d_M_need_113]; rfl
theorem e_M_need_113n {a1 : Option Value} : q_M_need S (f + 1) 113 [some .null, a1] st h = (q_M_need S f 114 [some .null, a1] (.null :: st) h) := by rw [q_M_need, hz_w_at d_M_need_113]; rfl
theorem d_M_need_114 : decode c_M_need 114 = .ok (.getfield 53, 3) := by decide +kernel
theorem e_M_need_114 : q_M_need S (f + 1) 114 L (.ref i :: st) h = (hz_rd h i 5 20 fun v => q_M_need S f 117 L (v :: st) h) := by rw [q_M_need, hz_w_at d_M_need_114]; rfl
theorem d_M_need_117 : decode c_M_need 117 = .ok (.iload_n 1, 1) := by decide +kernel
theorem e_M_need_117 {a0 : Option Value} : q_M_need S (f + 1) 117 [a0, some (.int x)] st h = (q_M_need S f 118 [a0, some (.int x)] (.int x :: st) h) := by rw [q_M_need, hz_w_at d_M_need_117]; rfl
theorem d_M_need_118 : decode c_M_need 118 = .ok (.iaload, 1) := by decide +kernel
theorem e_M_need_118 : q_M_need S (f + 1) 118 L (.int x :: .ref i :: st) h = (hz_ea zKT hz_kI h i x fun v => q_M_need S f 119 L (v :: st) h) := by rw [q_M_need, hz_w_at d_M_need_118]; rfl
theorem d_M_need_119 : decode c_M_need 119 = .ok (.invokevirtual 180, 3) := by decide +kernel
theorem e_M_need_119 : q_M_need S (f + 1) 119 L st h = (S 119 L st h) := by rw [q_M_need, hz_w_at d_M_need_119]; rfl
theorem d_M_need_122 : decode c_M_need 122 = .ok (.return_, 1) := by decide +kernel
theorem e_M_need_122 : q_M_need S (f + 1) 122 L st h = (S 122 L st h) := by rw [q_M_need, hz_w_at d_M_need_122]; rfl
end
abbrev q_M_letter (S : Nat → List (Option Value) → List Value → hz_H → Prop) := hz_w zCl zKT f_M n_M c_M_letter [] S
section
variable {S : Nat → List (Option Value) → List Value → hz_H → Prop} {f : Nat} {L : List (Option Value)} {st : List Value} {h : hz_H} {x y : Int32} {i j : Nat} {X Y : Int64}
theorem d_M_letter_0 : decode c_M_letter 0 = .ok (.aload_n 0, 1) := by decide +kernel
theorem e_M_letter_0 {a1 : Option Value} : q_M_letter S (f + 1) 0 [some (.ref i), a1] st h = (q_M_letter S f 1 [some (.ref i), a1] (.ref i :: st) h) := by rw [q_M_letter, hz_w_at d_M_letter_0]; rfl
theorem e_M_letter_0n {a1 : Option Value} : q_M_letter S (f + 1) 0 [some .null, a1] st h = (q_M_letter S f 1 [some .null, a1] (.null :: st) h) := by rw [q_M_letter, hz_w_at d_M_letter_0]; rfl
theorem d_M_letter_1 : decode c_M_letter 1 = .ok (.getfield 16, 3) := by decide +kernel
theorem e_M_letter_1 : q_M_letter S (f + 1) 1 L (.ref i :: st) h = (hz_rd h i 5 5 fun v => q_M_letter S f 4 L (v :: st) h) := by rw [q_M_letter, hz_w_at d_M_letter_1]; rfl
theorem d_M_letter_4 : decode c_M_letter 4 = .ok (.iload_n 1, 1) := by decide +kernel
theorem e_M_letter_4 {a0 : Option Value} : q_M_letter S (f + 1) 4 [a0, some (.int x)] st h = (q_M_letter S f 5 [a0, some (.int x)] (.int x :: st) h) := by rw [q_M_letter, hz_w_at d_M_letter_4]; rfl
theorem d_M_letter_5 : decode c_M_letter 5 = .ok (.baload, 1) := by decide +kernel
theorem e_M_letter_5 : q_M_letter S (f + 1) 5 L (.int x :: .ref i :: st) h = (hz_ea zKT hz_kZ h i x fun v => q_M_letter S f 6 L (v :: st) h) := by rw [q_M_letter, hz_w_at d_M_letter_5]; rfl
theorem d_M_letter_6 : decode c_M_letter 6 = .ok (.ifCond .ne 12, 3) := by decide +kernel
theorem e_M_letter_6 : q_M_letter S (f + 1) 6 L (.int x :: st) h = ((¬ x.toInt = 0 → q_M_letter S f 18 L st h) ∧ (¬ (¬ x.toInt = 0) → q_M_letter S f 9 L st h)) := by rw [q_M_letter, hz_w_at d_M_letter_6]; rfl
theorem d_M_letter_9 : decode c_M_letter 9 = .ok (.aload_n 0, 1) := by decide +kernel
theorem e_M_letter_9 {a1 : Option Value} : q_M_letter S (f + 1) 9 [some (.ref i), a1] st h = (q_M_letter S f 10 [some (.ref i), a1] (.ref i :: st) h) := by rw [q_M_letter, hz_w_at d_M_letter_9]; rfl
theorem e_M_letter_9n {a1 : Option Value} : q_M_letter S (f + 1) 9 [some .null, a1] st h = (q_M_letter S f 10 [some .null, a1] (.null :: st) h) := by rw [q_M_letter, hz_w_at d_M_letter_9]; rfl
theorem d_M_letter_10 : decode c_M_letter 10 = .ok (.bipush (-3), 2) := by decide +kernel
theorem e_M_letter_10 : q_M_letter S (f + 1) 10 L st h = (q_M_letter S f 12 L (.int (hz_n (-3)) :: st) h) := by rw [q_M_letter, hz_w_at d_M_letter_10]; rfl
theorem d_M_letter_12 : decode c_M_letter 12 = .ok (.putfield 177, 3) := by decide +kernel
theorem e_M_letter_12 : q_M_letter S (f + 1) 12 L (.int x :: .ref i :: st) h = (hz_wr h i 5 34 (.int x) fun h => q_M_letter S f 15 L st h) := by rw [q_M_letter, hz_w_at d_M_letter_12]; rfl
theorem d_M_letter_15 : decode c_M_letter 15 = .ok (.goto 28, 3) := by decide +kernel
theorem e_M_letter_15 : q_M_letter S (f + 1) 15 L st h = (q_M_letter S f 43 L st h) := by rw [q_M_letter, hz_w_at d_M_letter_15]; rfl
theorem d_M_letter_18 : decode c_M_letter 18 = .ok (.aload_n 0, 1) := by decide +kernel
theorem e_M_letter_18 {a1 : Option Value} : q_M_letter S (f + 1) 18 [some (.ref i), a1] st h = (q_M_letter S f 19 [some (.ref i), a1] (.ref i :: st) h) := by rw [q_M_letter, hz_w_at d_M_letter_18]; rfl
theorem e_M_letter_18n {a1 : Option Value} : q_M_letter S (f + 1) 18 [some .null, a1] st h = (q_M_letter S f 19 [some .null, a1] (.null :: st) h) := by rw [q_M_letter, hz_w_at d_M_letter_18]; rfl
theorem d_M_letter_19 : decode c_M_letter 19 = .ok (.getfield 20, 3) := by decide +kernel
theorem e_M_letter_19 : q_M_letter S (f + 1) 19 L (.ref i :: st) h = (hz_rd h i 5 6 fun v => q_M_letter S f 22 L (v :: st) h) := by rw [q_M_letter, hz_w_at d_M_letter_19]; rfl
theorem d_M_letter_22 : decode c_M_letter 22 = .ok (.iload_n 1, 1) := by decide +kernel
theorem e_M_letter_22 {a0 : Option Value} : q_M_letter S (f + 1) 22 [a0, some (.int x)] st h = (q_M_letter S f 23 [a0, some (.int x)] (.int x :: st) h) := by rw [q_M_letter, hz_w_at d_M_letter_22]; rfl
theorem d_M_letter_23 : decode c_M_letter 23 = .ok (.iaload, 1) := by decide +kernel
theorem e_M_letter_23 : q_M_letter S (f + 1) 23 L (.int x :: .ref i :: st) h = (hz_ea zKT hz_kI h i x fun v => q_M_letter S f 24 L (v :: st) h) := by rw [q_M_letter, hz_w_at d_M_letter_23]; rfl
theorem d_M_letter_24 : decode c_M_letter 24 = .ok (.ifCond .le 14, 3) := by decide +kernel
theorem e_M_letter_24 : q_M_letter S (f + 1) 24 L (.int x :: st) h = ((x.toInt ≤ 0 → q_M_letter S f 38 L st h) ∧ (¬ (x.toInt ≤ 0) → q_M_letter S f 27 L st h)) := by rw [q_M_letter, hz_w_at d_M_letter_24]; rfl
theorem d_M_letter_27 : decode c_M_letter 27 = .ok (.aload_n 0, 1) := by decide +kernel
theorem e_M_letter_27 {a1 : Option Value} : q_M_letter S (f + 1) 27 [some (.ref i), a1] st h = (q_M_letter S f 28 [some (.ref i), a1] (.ref i :: st) h) := by rw [q_M_letter, hz_w_at d_M_letter_27]; rfl
theorem e_M_letter_27n {a1 : Option Value} : q_M_letter S (f + 1) 27 [some .null, a1] st h = (q_M_letter S f 28 [some .null, a1] (.null :: st) h) := by rw [q_M_letter, hz_w_at d_M_letter_27]; rfl
theorem d_M_letter_28 : decode c_M_letter 28 = .ok (.iconst 3, 1) := by decide +kernel
theorem e_M_letter_28 : q_M_letter S (f + 1) 28 L st h = (q_M_letter S f 29 L (.int (hz_n 3) :: st) h) := by rw [q_M_letter, hz_w_at d_M_letter_28]; rfl
theorem d_M_letter_29 : decode c_M_letter 29 = .ok (.iconst (-1), 1) := by decide +kernel
theorem e_M_letter_29 : q_M_letter S (f + 1) 29 L st h = (q_M_letter S f 30 L (.int (hz_n (-1)) :: st) h) := by rw [q_M_letter, hz_w_at d_M_letter_29]; rfl
theorem d_M_letter_30 : decode c_M_letter 30 = .ok (.iload_n 1, 1) := by decide +kernel
theorem e_M_letter_30 {a0 : Option Value} : q_M_letter S (f + 1) 30 [a0, some (.int x)] st h = (q_M_letter S f 31 [a0, some (.int x)] (.int x :: st) h) := by rw [q_M_letter, hz_w_at d_M_letter_30]; rfl
theorem d_M_letter_31 : decode c_M_letter 31 = .ok (.isub, 1) := by decide +kernel
theorem e_M_letter_31 : q_M_letter S (f + 1) 31 L (.int y :: .int x :: st) h = (q_M_letter S f 32 L (.int (x - y) :: st) h) := by rw [q_M_letter, hz_w_at d_M_letter_31]; rfl
theorem d_M_letter_32 : decode c_M_letter 32 = .ok (.invokevirtual 187, 3) := by decide +kernel
theorem e_M_letter_32 : q_M_letter S (f + 1) 32 L st h = (S 32 L st h) := by rw [q_M_letter, hz_w_at d_M_letter_32]; rfl
theorem d_M_letter_35 : decode c_M_letter 35 = .ok (.goto 8, 3) := by decide +kernel
theorem e_M_letter_35 : q_M_letter S (f + 1) 35 L st h = (q_M_letter S f 43 L st h) := by rw [q_M_letter, hz_w_at d_M_letter_35]; rfl
theorem d_M_letter_38 : decode c_M_letter 38 = .ok (.aload_n 0, 1) := by decide +kernel
theorem e_M_letter_38 {a1 : Option Value} : q_M_letter S (f + 1) 38 [some (.ref i), a1] st h = (q_M_letter S f 39 [some (.ref i), a1] (.ref i :: st) h) := by rw [q_M_letter, hz_w_at d_M_letter_38]; rfl
theorem e_M_letter_38n {a1 : Option Value} : q_M_letter S (f + 1) 38 [some .null, a1] st h = (q_M_letter S f 39 [some .null, a1] (.null :: st) h) := by rw [q_M_letter, hz_w_at d_M_letter_38]; rfl
theorem d_M_letter_39 : decode c_M_letter 39 = .ok (.iload_n 1, 1) := by decide +kernel
theorem e_M_letter_39 {a0 : Option Value} : q_M_letter S (f + 1) 39 [a0, some (.int x)] st h = (q_M_letter S f 40 [a0, some (.int x)] (.int x :: st) h) := by rw [q_M_letter, hz_w_at d_M_letter_39]; rfl
theorem d_M_letter_40 : decode c_M_letter 40 = .ok (.invokevirtual 193, 3) := by decide +kernel
theorem e_M_letter_40 : q_M_letter S (f + 1) 40 L st h = (S 40 L st h) := by rw [q_M_letter, hz_w_at d_M_letter_40]; rfl
theorem d_M_letter_43 : decode c_M_letter 43 = .ok (.return_, 1) := by decide +kernel
theorem e_M_letter_43 : q_M_letter S (f + 1) 43 L st h = (S 43 L st h) := by rw [q_M_letter, hz_w_at d_M_letter_43]; rfl
end
abbrev q_M_body (S : Nat → List (Option Value) → List Value → hz_H → Prop) := hz_w zCl zKT f_M n_M c_M_body [] S
section
variable {S : Nat → List (Option Value) → List Value → hz_H → Prop} {f : Nat} {L : List (Option Value)} {st : List Value} {h : hz_H} {x y : Int32} {i j : Nat} {X Y : Int64}
theorem d_M_body_0 : decode c_M_body 0 = .ok (.aload_n 0, 1) := by decide +kernel
theorem e_M_body_0 {a1 a2 : Option Value} : q_M_body S (f + 1) 0 [some (.ref i), a1, a2] st h = (q_M_body S f 1 [some (.ref i), a1, a2] (.ref i :: st) h) := by rw [q_M_body, hz_w_at d_M_body_0]; rfl
theorem e_M_body_0n {a1 a2 : Option Value} : q_M_body S (f + 1) 0 [some .null, a1, a2] st h = (q_M_body S f 1 [some .null, a1, a2] (.null :: st) h) := by rw [q_M_body, hz_w_at d_M_body_0]; rfl
theorem d_M_body_1 : decode c_M_body 1 = .ok (.getfield 59, 3) := by decide +kernel
theorem e_M_body_1 : q_M_body S (f + 1) 1 L (.ref i :: st) h = (hz_rd h i 5 22 fun v => q_M_body S f 4 L (v :: st) h) := by rw [q_M_body, hz_w_at d_M_body_1]; rfl
theorem d_M_body_4 : decode c_M_body 4 = .ok (.iload_n 1, 1) := by decide +kernel
theorem e_M_body_4 {a0 a2 : Option Value} : q_M_body S (f + 1) 4 [a0, some (.int x), a2] st h = (q_M_body S f 5 [a0, some (.int x), a2] (.int x :: st) h) := by rw [q_M_body, hz_w_at d_M_body_4]; rfl
theorem d_M_body_5 : decode c_M_body 5 = .ok (.aload_n 0, 1) := by decide +kernel
theorem e_M_body_5 {a1 a2 : Option Value} : q_M_body S (f + 1) 5 [some (.ref i), a1, a2] st h = (q_M_body S f 6 [some (.ref i), a1, a2] (.ref i :: st) h) := by rw [q_M_body, hz_w_at d_M_body_5]; rfl
theorem e_M_body_5n {a1 a2 : Option Value} : q_M_body S (f + 1) 5 [some .null, a1, a2] st h = (q_M_body S f 6 [some .null, a1, a2] (.null :: st) h) := by rw [q_M_body, hz_w_at d_M_body_5]; rfl
theorem d_M_body_6 : decode c_M_body 6 = .ok (.getfield 59, 3) := by decide +kernel
theorem e_M_body_6 : q_M_body S (f + 1) 6 L (.ref i :: st) h = (hz_rd h i 5 22 fun v => q_M_body S f 9 L (v :: st) h) := by rw [q_M_body, hz_w_at d_M_body_6]; rfl
theorem d_M_body_9 : decode c_M_body 9 = .ok (.iload_n 1, 1) := by decide +kernel
theorem e_M_body_9 {a0 a2 : Option Value} : q_M_body S (f + 1) 9 [a0, some (.int x), a2] st h = (q_M_body S f 10 [a0, some (.int x), a2] (.int x :: st) h) := by rw [q_M_body, hz_w_at d_M_body_9]; rfl
theorem d_M_body_10 : decode c_M_body 10 = .ok (.iaload, 1) := by decide +kernel
theorem e_M_body_10 : q_M_body S (f + 1) 10 L (.int x :: .ref i :: st) h = (hz_ea zKT hz_kI h i x fun v => q_M_body S f 11 L (v :: st) h) := by rw [q_M_body, hz_w_at d_M_body_10]; rfl
theorem d_M_body_11 : decode c_M_body 11 = .ok (.ifCond .ge 15, 3) := by decide +kernel
theorem e_M_body_11 : q_M_body S (f + 1) 11 L (.int x :: st) h = ((0 ≤ x.toInt → q_M_body S f 26 L st h) ∧ (¬ (0 ≤ x.toInt) → q_M_body S f 14 L st h)) := by rw [q_M_body, hz_w_at d_M_body_11]; rfl
theorem d_M_body_14 : decode c_M_body 14 = .ok (.aload_n 0, 1) := by decide +kernel
theorem e_M_body_14 {a1 a2 : Option Value} : q_M_body S (f + 1) 14 [some (.ref i), a1, a2] st h = (q_M_body S f 15 [some (.ref i), a1, a2] (.ref i :: st) h) := by rw [q_M_body, hz_w_at d_M_body_14]; rfl
theorem e_M_body_14n {a1 a2 : Option Value} : q_M_body S (f + 1) 14 [some .null, a1, a2] st h = (q_M_body S f 15 [some .null, a1, a2] (.null :: st) h) := by rw [q_M_body, hz_w_at d_M_body_14]; rfl
theorem d_M_body_15 : decode c_M_body 15 = .ok (.bipush 40, 2) := by decide +kernel
theorem e_M_body_15 : q_M_body S (f + 1) 15 L st h = (q_M_body S f 17 L (.int (hz_n 40) :: st) h) := by rw [q_M_body, hz_w_at d_M_body_15]; rfl
theorem d_M_body_17 : decode c_M_body 17 = .ok (.iload_n 1, 1) := by decide +kernel
theorem e_M_body_17 {a0 a2 : Option Value} : q_M_body S (f + 1) 17 [a0, some (.int x), a2] st h = (q_M_body S f 18 [a0, some (.int x), a2] (.int x :: st) h) := by rw [q_M_body, hz_w_at d_M_body_17]; rfl
theorem d_M_body_18 : decode c_M_body 18 = .ok (.imul, 1) := by decide +kernel
theorem e_M_body_18 : q_M_body S (f + 1) 18 L (.int y :: .int x :: st) h = (q_M_body S f 19 L (.int (x * y) :: st) h) := by rw [q_M_body, hz_w_at d_M_body_18]; rfl
theorem d_M_body_19 : decode c_M_body 19 = .ok (.iconst (-1), 1) := by decide +kernel
theorem e_M_body_19 : q_M_body S (f + 1) 19 L st h = (q_M_body S f 20 L (.int (hz_n (-1)) :: st) h) := by rw [q_M_body, hz_w_at d_M_body_19]; rfl
theorem d_M_body_20 : decode c_M_body 20 = .ok (.invokevirtual 147, 3) := by decide +kernel
theorem e_M_body_20 : q_M_body S (f + 1) 20 L st h = (S 20 L st h) := by rw [q_M_body, hz_w_at d_M_body_20]; rfl
theorem d_M_body_23 : decode c_M_body 23 = .ok (.goto 9, 3) := by decide +kernel
theorem e_M_body_23 : q_M_body S (f + 1) 23 L st h = (q_M_body S f 32 L st h) := by rw [q_M_body, hz_w_at d_M_body_23]; rfl
theorem d_M_body_26 : decode c_M_body 26 = .ok (.aload_n 0, 1) := by decide +kernel
theorem e_M_body_26 {a1 a2 : Option Value} : q_M_body S (f + 1) 26 [some (.ref i), a1, a2] st h = (q_M_body S f 27 [some (.ref i), a1, a2] (.ref i :: st) h) := by rw [q_M_body, hz_w_at d_M_body_26]; rfl
theorem e_M_body_26n {a1 a2 : Option Value} : q_M_body S (f + 1) 26 [some .null, a1, a2] st h = (q_M_body S f 27 [some .null, a1, a2] (.null :: st) h) := by rw [q_M_body, hz_w_at d_M_body_26]; rfl
theorem d_M_body_27 : decode c_M_body 27 = .ok (.getfield 59, 3) := by decide +kernel
theorem e_M_body_27 : q_M_body S (f + 1) 27 L (.ref i :: st) h = (hz_rd h i 5 22 fun v => q_M_body S f 30 L (v :: st) h) := by rw [q_M_body, hz_w_at d_M_body_27]; rfl
theorem d_M_body_30 : decode c_M_body 30 = .ok (.iload_n 1, 1) := by decide +kernel
theorem e_M_body_30 {a0 a2 : Option Value} : q_M_body S (f + 1) 30 [a0, some (.int x), a2] st h = (q_M_body S f 31 [a0, some (.int x), a2] (.int x :: st) h) := by rw [q_M_body, hz_w_at d_M_body_30]; rfl
theorem d_M_body_31 : decode c_M_body 31 = .ok (.iaload, 1) := by decide +kernel
theorem e_M_body_31 : q_M_body S (f + 1) 31 L (.int x :: .ref i :: st) h = (hz_ea zKT hz_kI h i x fun v => q_M_body S f 32 L (v :: st) h) := by rw [q_M_body, hz_w_at d_M_body_31]; rfl
theorem d_M_body_32 : decode c_M_body 32 = .ok (.iastore, 1) := by decide +kernel
theorem e_M_body_32 : q_M_body S (f + 1) 32 L (.int y :: .int x :: .ref i :: st) h = (hz_es zKT hz_kI h i x (.int y) fun h => q_M_body S f 33 L st h) := by rw [q_M_body, hz_w_at d_M_body_32]; rfl
theorem d_M_body_33 : decode c_M_body 33 = .ok (.aload_n 0, 1) := by decide +kernel
theorem e_M_body_33 {a1 a2 : Option Value} : q_M_body S (f + 1) 33 [some (.ref i), a1, a2] st h = (q_M_body S f 34 [some (.ref i), a1, a2] (.ref i :: st) h) := by rw [q_M_body, hz_w_at d_M_body_33]; rfl
theorem e_M_body_33n {a1 a2 : Option Value} : q_M_body S (f + 1) 33 [some .null, a1, a2] st h = (q_M_body S f 34 [some .null, a1, a2] (.null :: st) h) := by rw [q_M_body, hz_w_at d_M_body_33]; rfl
theorem d_M_body_34 : decode c_M_body 34 = .ok (.getfield 59, 3) := by decide +kernel
theorem e_M_body_34 : q_M_body S (f + 1) 34 L (.ref i :: st) h = (hz_rd h i 5 22 fun v => q_M_body S f 37 L (v :: st) h) := by rw [q_M_body, hz_w_at d_M_body_34]; rfl
theorem d_M_body_37 : decode c_M_body 37 = .ok (.iload_n 1, 1) := by decide +kernel
theorem e_M_body_37 {a0 a2 : Option Value} : q_M_body S (f + 1) 37 [a0, some (.int x), a2] st h = (q_M_body S f 38 [a0, some (.int x), a2] (.int x :: st) h) := by rw [q_M_body, hz_w_at d_M_body_37]; rfl
theorem d_M_body_38 : decode c_M_body 38 = .ok (.iaload, 1) := by decide +kernel
theorem e_M_body_38 : q_M_body S (f + 1) 38 L (.int x :: .ref i :: st) h = (hz_ea zKT hz_kI h i x fun v => q_M_body S f 39 L (v :: st) h) := by rw [q_M_body, hz_w_at d_M_body_38]; rfl
theorem d_M_body_39 : decode c_M_body 39 = .ok (.istore_n 2, 1) := by decide +kernel
theorem e_M_body_39 {a0 a1 a2 : Option Value} : q_M_body S (f + 1) 39 [a0, a1, a2] (.int x :: st) h = (q_M_body S f 40 [a0, a1, some (.int x)] st h) := by rw [q_M_body, hz_w_at d_M_body_39]; rfl
theorem d_M_body_40 : decode c_M_body 40 = .ok (.aload_n 0, 1) := by decide +kernel
theorem e_M_body_40 {a1 a2 : Option Value} : q_M_body S (f + 1) 40 [some (.ref i), a1, a2] st h = (q_M_body S f 41 [some (.ref i), a1, a2] (.ref i :: st) h) := by rw [q_M_body, hz_w_at d_M_body_40]; rfl
theorem e_M_body_40n {a1 a2 : Option Value} : q_M_body S (f + 1) 40 [some .null, a1, a2] st h = (q_M_body S f 41 [some .null, a1, a2] (.null :: st) h) := by rw [q_M_body, hz_w_at d_M_body_40]; rfl
theorem d_M_body_41 : decode c_M_body 41 = .ok (.getfield 47, 3) := by decide +kernel
theorem e_M_body_41 : q_M_body S (f + 1) 41 L (.ref i :: st) h = (hz_rd h i 5 18 fun v => q_M_body S f 44 L (v :: st) h) := by rw [q_M_body, hz_w_at d_M_body_41]; rfl
theorem d_M_body_44 : decode c_M_body 44 = .ok (.iload_n 2, 1) := by decide +kernel
theorem e_M_body_44 {a0 a1 : Option Value} : q_M_body S (f + 1) 44 [a0, a1, some (.int x)] st h = (q_M_body S f 45 [a0, a1, some (.int x)] (.int x :: st) h) := by rw [q_M_body, hz_w_at d_M_body_44]; rfl
theorem d_M_body_45 : decode c_M_body 45 = .ok (.iaload, 1) := by decide +kernel
theorem e_M_body_45 : q_M_body S (f + 1) 45 L (.int x :: .ref i :: st) h = (hz_ea zKT hz_kI h i x fun v => q_M_body S f 46 L (v :: st) h) := by rw [q_M_body, hz_w_at d_M_body_45]; rfl
theorem d_M_body_46 : decode c_M_body 46 = .ok (.iconst 1, 1) := by decide +kernel
theorem e_M_body_46 : q_M_body S (f + 1) 46 L st h = (q_M_body S f 47 L (.int (hz_n 1) :: st) h) := by rw [q_M_body, hz_w_at d_M_body_46]; rfl
theorem d_M_body_47 : decode c_M_body 47 = .ok (.if_icmp .le 24, 3) := by decide +kernel
theorem e_M_body_47 : q_M_body S (f + 1) 47 L (.int y :: .int x :: st) h = ((x.toInt ≤ y.toInt → q_M_body S f 71 L st h) ∧ (¬ (x.toInt ≤ y.toInt) → q_M_body S f 50 L st h)) := by rw [q_M_body, hz_w_at d_M_body_47]; rfl
theorem d_M_body_50 : decode c_M_body 50 = .ok (.aload_n 0, 1) := by decide +kernel
theorem e_M_body_50 {a1 a2 : Option Value} : q_M_body S (f + 1) 50 [some (.ref i), a1, a2] st h = (q_M_body S f 51 [some (.ref i), a1, a2] (.ref i :: st) h) := by rw [q_M_body, hz_w_at d_M_body_50]; rfl
theorem e_M_body_50n {a1 a2 : Option Value} : q_M_body S (f + 1) 50 [some .null, a1, a2] st h = (q_M_body S f 51 [some .null, a1, a2] (.null :: st) h) := by rw [q_M_body, hz_w_at d_M_body_50]; rfl
theorem d_M_body_51 : decode c_M_body 51 = .ok (.aload_n 0, 1) := by decide +kernel
theorem e_M_body_51 {a1 a2 : Option Value} : q_M_body S (f + 1) 51 [some (.ref i), a1, a2] st h = (q_M_body S f 52 [some (.ref i), a1, a2] (.ref i :: st) h) := by rw [q_M_body, hz_w_at d_M_body_51]; rfl
theorem e_M_body_51n {a1 a2 : Option Value} : q_M_body S (f + 1) 51 [some .null, a1, a2] st h = (q_M_body S f 52 [some .null, a1, a2] (.null :: st) h) := by rw [q_M_body, hz_w_at d_M_body_51]; rfl
theorem d_M_body_52 : decode c_M_body 52 = .ok (.getfield 47, 3) := by decide +kernel
theorem e_M_body_52 : q_M_body S (f + 1) 52 L (.ref i :: st) h = (hz_rd h i 5 18 fun v => q_M_body S f 55 L (v :: st) h) := by rw [q_M_body, hz_w_at d_M_body_52]; rfl
theorem d_M_body_55 : decode c_M_body 55 = .ok (.iload_n 2, 1) := by decide +kernel
theorem e_M_body_55 {a0 a1 : Option Value} : q_M_body S (f + 1) 55 [a0, a1, some (.int x)] st h = (q_M_body S f 56 [a0, a1, some (.int x)] (.int x :: st) h) := by rw [q_M_body, hz_w_at d_M_body_55]; rfl
theorem d_M_body_56 : decode c_M_body 56 = .ok (.iaload, 1) := by decide +kernel
theorem e_M_body_56 : q_M_body S (f + 1) 56 L (.int x :: .ref i :: st) h = (hz_ea zKT hz_kI h i x fun v => q_M_body S f 57 L (v :: st) h) := by rw [q_M_body, hz_w_at d_M_body_56]; rfl
theorem d_M_body_57 : decode c_M_body 57 = .ok (.iconst 2, 1) := by decide +kernel
theorem e_M_body_57 : q_M_body S (f + 1) 57 L st h = (q_M_body S f 58 L (.int (hz_n 2) :: st) h) := by rw [q_M_body, hz_w_at d_M_body_57]; rfl
theorem d_M_body_58 : decode c_M_body 58 = .ok (.isub, 1) := by decide +kernel
theorem e_M_body_58 : q_M_body S (f + 1) 58 L (.int y :: .int x :: st) h = (q_M_body S f 59 L (.int (x - y) :: st) h) := by rw [q_M_body, hz_w_at d_M_body_58]; rfl
theorem d_M_body_59 : decode c_M_body 59 = .ok (.aload_n 0, 1) := by decide +kernel
theorem e_M_body_59 {a1 a2 : Option Value} : q_M_body S (f + 1) 59 [some (.ref i), a1, a2] st h = (q_M_body S f 60 [some (.ref i), a1, a2] (.ref i :: st) h) := by rw [q_M_body, hz_w_at d_M_body_59]; rfl
theorem e_M_body_59n {a1 a2 : Option Value} : q_M_body S (f + 1) 59 [some .null, a1, a2] st h = (q_M_body S f 60 [some .null, a1, a2] (.null :: st) h) := by rw [q_M_body, hz_w_at d_M_body_59]; rfl
theorem d_M_body_60 : decode c_M_body 60 = .ok (.getfield 56, 3) := by decide +kernel
theorem e_M_body_60 : q_M_body S (f + 1) 60 L (.ref i :: st) h = (hz_rd h i 5 21 fun v => q_M_body S f 63 L (v :: st) h) := by rw [q_M_body, hz_w_at d_M_body_60]; rfl
theorem d_M_body_63 : decode c_M_body 63 = .ok (.iload_n 2, 1) := by decide +kernel
theorem e_M_body_63 {a0 a1 : Option Value} : q_M_body S (f + 1) 63 [a0, a1, some (.int x)] st h = (q_M_body S f 64 [a0, a1, some (.int x)] (.int x :: st) h) := by rw [q_M_body, hz_w_at d_M_body_63]; rfl
theorem d_M_body_64 : decode c_M_body 64 = .ok (.iaload, 1) := by decide +kernel
theorem e_M_body_64 : q_M_body S (f + 1) 64 L (.int x :: .ref i :: st) h = (hz_ea zKT hz_kI h i x fun v => q_M_body S f 65 L (v :: st) h) := by rw [q_M_body, hz_w_at d_M_body_64]; rfl
theorem d_M_body_65 : decode c_M_body 65 = .ok (.invokevirtual 187, 3) := by decide +kernel
theorem e_M_body_65 : q_M_body S (f + 1) 65 L st h = (S 65 L st h) := by rw [q_M_body, hz_w_at d_M_body_65]; rfl
theorem d_M_body_68 : decode c_M_body 68 = .ok (.goto 42, 3) := by decide +kernel
theorem e_M_body_68 : q_M_body S (f + 1) 68 L st h = (q_M_body S f 110 L st h) := by rw [q_M_body, hz_w_at d_M_body_68]; rfl
theorem d_M_body_71 : decode c_M_body 71 = .ok (.aload_n 0, 1) := by decide +kernel
theorem e_M_body_71 {a1 a2 : Option Value} : q_M_body S (f + 1) 71 [some (.ref i), a1, a2] st h = (q_M_body S f 72 [some (.ref i), a1, a2] (.ref i :: st) h) := by rw [q_M_body, hz_w_at d_M_body_71]; rfl
theorem e_M_body_71n {a1 a2 : Option Value} : q_M_body S (f + 1) 71 [some .null, a1, a2] st h = (q_M_body S f 72 [some .null, a1, a2] (.null :: st) h) := by rw [q_M_body, hz_w_at d_M_body_71]; rfl
theorem d_M_body_72 : decode c_M_body 72 = .ok (.getfield 47, 3) := by decide +kernel
theorem e_M_body_72 : q_M_body S (f + 1) 72 L (.ref i :: st) h = (hz_rd h i 5 18 fun v => q_M_body S f 75 L (v :: st) h) := by rw [q_M_body, hz_w_at d_M_body_72]; rfl
theorem d_M_body_75 : decode c_M_body 75 = .ok (.iload_n 2, 1) := by decide +kernel
theorem e_M_body_75 {a0 a1 : Option Value} : q_M_body S (f + 1) 75 [a0, a1, some (.int x)] st h = (q_M_body S f 76 [a0, a1, some (.int x)] (.int x :: st) h) := by rw [q_M_body, hz_w_at d_M_body_75]; rfl
theorem d_M_body_76 : decode c_M_body 76 = .ok (.iaload, 1) := by decide +kernel
theorem e_M_body_76 : q_M_body S (f + 1) 76 L (.int x :: .ref i :: st) h = (hz_ea zKT hz_kI h i x fun v => q_M_body S f 77 L (v :: st) h) := by rw [q_M_body, hz_w_at d_M_body_76]; rfl
theorem d_M_body_77 : decode c_M_body 77 = .ok (.iconst 1, 1) := by decide +kernel
theorem e_M_body_77 : q_M_body S (f + 1) 77 L st h = (q_M_body S f 78 L (.int (hz_n 1) :: st) h) := by rw [q_M_body, hz_w_at d_M_body_77]; rfl
theorem d_M_body_78 : decode c_M_body 78 = .ok (.if_icmp .ne 12, 3) := by decide +kernel
theorem e_M_body_78 : q_M_body S (f + 1) 78 L (.int y :: .int x :: st) h = ((¬ x.toInt = y.toInt → q_M_body S f 90 L st h) ∧ (¬ (¬ x.toInt = y.toInt) → q_M_body S f 81 L st h)) := by rw [q_M_body, hz_w_at d_M_body_78]; rfl
theorem d_M_body_81 : decode c_M_body 81 = .ok (.aload_n 0, 1) := by decide +kernel
theorem e_M_body_81 {a1 a2 : Option Value} : q_M_body S (f + 1) 81 [some (.ref i), a1, a2] st h = (q_M_body S f 82 [some (.ref i), a1, a2] (.ref i :: st) h) := by rw [q_M_body, hz_w_at d_M_body_81]; rfl
theorem e_M_body_81n {a1 a2 : Option Value} : q_M_body S (f + 1) 81 [some .null, a1, a2] st h = (q_M_body S f 82 [some .null, a1, a2] (.null :: st) h) := by rw [q_M_body, hz_w_at d_M_body_81]; rfl
theorem d_M_body_82 : decode c_M_body 82 = .ok (.bipush (-4), 2) := by decide +kernel
theorem e_M_body_82 : q_M_body S (f + 1) 82 L st h = (q_M_body S f 84 L (.int (hz_n (-4)) :: st) h) := by rw [q_M_body, hz_w_at d_M_body_82]; rfl
theorem d_M_body_84 : decode c_M_body 84 = .ok (.putfield 177, 3) := by decide +kernel
theorem e_M_body_84 : q_M_body S (f + 1) 84 L (.int x :: .ref i :: st) h = (hz_wr h i 5 34 (.int x) fun h => q_M_body S f 87 L st h) := by rw [q_M_body, hz_w_at d_M_body_84]; rfl
theorem d_M_body_87 : decode c_M_body 87 = .ok (.goto 23, 3) := by decide +kernel
theorem e_M_body_87 : q_M_body S (f + 1) 87 L st h = (q_M_body S f 110 L st h) := by rw [q_M_body, hz_w_at d_M_body_87]; rfl
theorem d_M_body_90 : decode c_M_body 90 = .ok (.aload_n 0, 1) := by decide +kernel
theorem e_M_body_90 {a1 a2 : Option Value} : q_M_body S (f + 1) 90 [some (.ref i), a1, a2] st h = (q_M_body S f 91 [some (.ref i), a1, a2] (.ref i :: st) h) := by rw [q_M_body, hz_w_at d_M_body_90]; rfl
theorem e_M_body_90n {a1 a2 : Option Value} : q_M_body S (f + 1) 90 [some .null, a1, a2] st h = (q_M_body S f 91 [some .null, a1, a2] (.null :: st) h) := by rw [q_M_body, hz_w_at d_M_body_90]; rfl
theorem d_M_body_91 : decode c_M_body 91 = .ok (.getfield 47, 3) := by decide +kernel
theorem e_M_body_91 : q_M_body S (f + 1) 91 L (.ref i :: st) h = (hz_rd h i 5 18 fun v => q_M_body S f 94 L (v :: st) h) := by rw [q_M_body, hz_w_at d_M_body_91]; rfl
theorem d_M_body_94 : decode c_M_body 94 = .ok (.iload_n 2, 1) := by decide +kernel
theorem e_M_body_94 {a0 a1 : Option Value} : q_M_body S (f + 1) 94 [a0, a1, some (.int x)] st h = (q_M_body S f 95 [a0, a1, some (.int x)] (.int x :: st) h) := by rw [q_M_body, hz_w_at d_M_body_94]; rfl
theorem d_M_body_95 : decode c_M_body 95 = .ok (.iconst 1, 1) := by decide +kernel
theorem e_M_body_95 : q_M_body S (f + 1) 95 L st h = (q_M_body S f 96 L (.int (hz_n 1) :: st) h) := by rw [q_M_body, hz_w_at d_M_body_95]; rfl
theorem d_M_body_96 : decode c_M_body 96 = .ok (.iastore, 1) := by decide +kernel
theorem e_M_body_96 : q_M_body S (f + 1) 96 L (.int y :: .int x :: .ref i :: st) h = (hz_es zKT hz_kI h i x (.int y) fun h => q_M_body S f 97 L st h) := by rw [q_M_body, hz_w_at d_M_body_96]; rfl
theorem d_M_body_97 : decode c_M_body 97 = .ok (.aload_n 0, 1) := by decide +kernel
theorem e_M_body_97 {a1 a2 : Option Value} : q_M_body S (f + 1) 97 [some (.ref i), a1, a2] st h = (q_M_body S f 98 [some (.ref i), a1, a2] (.ref i :: st) h) := by rw [q_M_body, hz_w_at d_M_body_97]; rfl
theorem e_M_body_97n {a1 a2 : Option Value} : q_M_body S (f + 1) 97 [some .null, a1, a2] st h = (q_M_body S f 98 [some .null, a1, a2] (.null :: st) h) := by rw [q_M_body, hz_w_at d_M_body_97]; rfl
theorem d_M_body_98 : decode c_M_body 98 = .ok (.iconst 1, 1) := by decide +kernel
theorem e_M_body_98 : q_M_body S (f + 1) 98 L st h = (q_M_body S f 99 L (.int (hz_n 1) :: st) h) := by rw [q_M_body, hz_w_at d_M_body_98]; rfl
theorem d_M_body_99 : decode c_M_body 99 = .ok (.iload_n 2, 1) := by decide +kernel
theorem e_M_body_99 {a0 a1 : Option Value} : q_M_body S (f + 1) 99 [a0, a1, some (.int x)] st h = (q_M_body S f 100 [a0, a1, some (.int x)] (.int x :: st) h) := by rw [q_M_body, hz_w_at d_M_body_99]; rfl
theorem d_M_body_100 : decode c_M_body 100 = .ok (.iconst 0, 1) := by decide +kernel
theorem e_M_body_100 : q_M_body S (f + 1) 100 L st h = (q_M_body S f 101 L (.int (hz_n 0) :: st) h) := by rw [q_M_body, hz_w_at d_M_body_100]; rfl
theorem d_M_body_101 : decode c_M_body 101 = .ok (.invokevirtual 190, 3) := by decide +kernel
theorem e_M_body_101 : q_M_body S (f + 1) 101 L st h = (S 101 L st h) := by rw [q_M_body, hz_w_at d_M_body_101]; rfl
theorem d_M_body_104 : decode c_M_body 104 = .ok (.aload_n 0, 1) := by decide +kernel
theorem e_M_body_104 {a1 a2 : Option Value} : q_M_body S (f + 1) 104 [some (.ref i), a1, a2] st h = (q_M_body S f 105 [some (.ref i), a1, a2] (.ref i :: st) h) := by rw [q_M_body, hz_w_at d_M_body_104]; rfl
theorem e_M_body_104n {a1 a2 : Option Value} : q_M_body S (f + 1) 104 [some .null, a1, a2] st h = (q_M_body S f 105 [some .null, a1, a2] (.null :: st) h) := by rw [q_M_body, hz_w_at d_M_body_104]; rfl
theorem d_M_body_105 : decode c_M_body 105 = .ok (.iload_n 1, 1) := by decide +kernel
theorem e_M_body_105 {a0 a2 : Option Value} : q_M_body S (f + 1) 105 [a0, some (.int x), a2] st h = (q_M_body S f 106 [a0, some (.int x), a2] (.int x :: st) h) := by rw [q_M_body, hz_w_at d_M_body_105]; rfl
theorem d_M_body_106 : decode c_M_body 106 = .ok (.iconst (-1), 1) := by decide +kernel
theorem e_M_body_106 : q_M_body S (f + 1) 106 L st h = (q_M_body S f 107 L (.int (hz_n (-1)) :: st) h) := by rw [q_M_body, hz_w_at d_M_body_106]; rfl
theorem d_M_body_107 : decode c_M_body 107 = .ok (.invokevirtual 196, 3) := by decide +kernel
theorem e_M_body_107 : q_M_body S (f + 1) 107 L st h = (S 107 L st h) := by rw [q_M_body, hz_w_at d_M_body_107]; rfl
theorem d_M_body_110 : decode c_M_body 110 = .ok (.return_, 1) := by decide +kernel
theorem e_M_body_110 : q_M_body S (f + 1) 110 L st h = (S 110 L st h) := by rw [q_M_body, hz_w_at d_M_body_110]; rfl
end
abbrev q_M_pair (S : Nat → List (Option Value) → List Value → hz_H → Prop) := hz_w zCl zKT f_M n_M c_M_pair [] S
section
variable {S : Nat → List (Option Value) → List Value → hz_H → Prop} {f : Nat} {L : List (Option Value)} {st : List Value} {h : hz_H} {x y : Int32} {i j : Nat} {X Y : Int64}
theorem d_M_pair_0 : decode c_M_pair 0 = .ok (.aload_n 0, 1) := by decide +kernel
theorem e_M_pair_0 {a1 a2 a3 a4 : Option Value} : q_M_pair S (f + 1) 0 [some (.ref i), a1, a2, a3, a4] st h = (q_M_pair S f 1 [some (.ref i), a1, a2, a3, a4] (.ref i :: st) h) := by rw [q_M_pair, hz_w_at d_M_pair_0]; rfl
theorem e_M_pair_0n {a1 a2 a3 a4 : Option Value} : q_M_pair S (f + 1) 0 [some .null, a1, a2, a3, a4] st h = (q_M_pair S f 1 [some .null, a1, a2, a3, a4] (.null :: st) h) := by rw [q_M_pair, hz_w_at d_M_pair_0]; rfl
theorem d_M_pair_1 : decode c_M_pair 1 = .ok (.aload_n 0, 1) := by decide +kernel
theorem e_M_pair_1 {a1 a2 a3 a4 : Option Value} : q_M_pair S (f + 1) 1 [some (.ref i), a1, a2, a3, a4] st h = (q_M_pair S f 2 [some (.ref i), a1, a2, a3, a4] (.ref i :: st) h) := by rw [q_M_pair, hz_w_at d_M_pair_1]; rfl
theorem e_M_pair_1n {a1 a2 a3 a4 : Option Value} : q_M_pair S (f + 1) 1 [some .null, a1, a2, a3, a4] st h = (q_M_pair S f 2 [some .null, a1, a2, a3, a4] (.null :: st) h) := by rw [q_M_pair, hz_w_at d_M_pair_1]; rfl
theorem d_M_pair_2 : decode c_M_pair 2 = .ok (.iload_n 1, 1) := by decide +kernel
theorem e_M_pair_2 {a0 a2 a3 a4 : Option Value} : q_M_pair S (f + 1) 2 [a0, some (.int x), a2, a3, a4] st h = (q_M_pair S f 3 [a0, some (.int x), a2, a3, a4] (.int x :: st) h) := by rw [q_M_pair, hz_w_at d_M_pair_2]; rfl
theorem d_M_pair_3 : decode c_M_pair 3 = .ok (.iconst 0, 1) := by decide +kernel
theorem e_M_pair_3 : q_M_pair S (f + 1) 3 L st h = (q_M_pair S f 4 L (.int (hz_n 0) :: st) h) := by rw [q_M_pair, hz_w_at d_M_pair_3]; rfl
theorem d_M_pair_4 : decode c_M_pair 4 = .ok (.invokevirtual 126, 3) := by decide +kernel
theorem e_M_pair_4 : q_M_pair S (f + 1) 4 L st h = (S 4 L st h) := by rw [q_M_pair, hz_w_at d_M_pair_4]; rfl
theorem d_M_pair_7 : decode c_M_pair 7 = .ok (.iload_n 2, 1) := by decide +kernel
theorem e_M_pair_7 {a0 a1 a3 a4 : Option Value} : q_M_pair S (f + 1) 7 [a0, a1, some (.int x), a3, a4] st h = (q_M_pair S f 8 [a0, a1, some (.int x), a3, a4] (.int x :: st) h) := by rw [q_M_pair, hz_w_at d_M_pair_7]; rfl
theorem d_M_pair_8 : decode c_M_pair 8 = .ok (.invokevirtual 199, 3) := by decide +kernel
theorem e_M_pair_8 : q_M_pair S (f + 1) 8 L st h = (S 8 L st h) := by rw [q_M_pair, hz_w_at d_M_pair_8]; rfl
theorem d_M_pair_11 : decode c_M_pair 11 = .ok (.istore_n 3, 1) := by decide +kernel
theorem e_M_pair_11 {a0 a1 a2 a3 a4 : Option Value} : q_M_pair S (f + 1) 11 [a0, a1, a2, a3, a4] (.int x :: st) h = (q_M_pair S f 12 [a0, a1, a2, some (.int x), a4] st h) := by rw [q_M_pair, hz_w_at d_M_pair_11]; rfl
theorem d_M_pair_12 : decode c_M_pair 12 = .ok (.aload_n 0, 1) := by decide +kernel
theorem e_M_pair_12 {a1 a2 a3 a4 : Option Value} : q_M_pair S (f + 1) 12 [some (.ref i), a1, a2, a3, a4] st h = (q_M_pair S f 13 [some (.ref i), a1, a2, a3, a4] (.ref i :: st) h) := by rw [q_M_pair, hz_w_at d_M_pair_12]; rfl
theorem e_M_pair_12n {a1 a2 a3 a4 : Option Value} : q_M_pair S (f + 1) 12 [some .null, a1, a2, a3, a4] st h = (q_M_pair S f 13 [some .null, a1, a2, a3, a4] (.null :: st) h) := by rw [q_M_pair, hz_w_at d_M_pair_12]; rfl
theorem d_M_pair_13 : decode c_M_pair 13 = .ok (.aload_n 0, 1) := by decide +kernel
theorem e_M_pair_13 {a1 a2 a3 a4 : Option Value} : q_M_pair S (f + 1) 13 [some (.ref i), a1, a2, a3, a4] st h = (q_M_pair S f 14 [some (.ref i), a1, a2, a3, a4] (.ref i :: st) h) := by rw [q_M_pair, hz_w_at d_M_pair_13]; rfl
theorem e_M_pair_13n {a1 a2 a3 a4 : Option Value} : q_M_pair S (f + 1) 13 [some .null, a1, a2, a3, a4] st h = (q_M_pair S f 14 [some .null, a1, a2, a3, a4] (.null :: st) h) := by rw [q_M_pair, hz_w_at d_M_pair_13]; rfl
theorem d_M_pair_14 : decode c_M_pair 14 = .ok (.iload_n 1, 1) := by decide +kernel
theorem e_M_pair_14 {a0 a2 a3 a4 : Option Value} : q_M_pair S (f + 1) 14 [a0, some (.int x), a2, a3, a4] st h = (q_M_pair S f 15 [a0, some (.int x), a2, a3, a4] (.int x :: st) h) := by rw [q_M_pair, hz_w_at d_M_pair_14]; rfl
theorem d_M_pair_15 : decode c_M_pair 15 = .ok (.iconst 1, 1) := by decide +kernel
theorem e_M_pair_15 : q_M_pair S (f + 1) 15 L st h = (q_M_pair S f 16 L (.int (hz_n 1) :: st) h) := by rw [q_M_pair, hz_w_at d_M_pair_15]; rfl
theorem d_M_pair_16 : decode c_M_pair 16 = .ok (.invokevirtual 126, 3) := by decide +kernel
theorem e_M_pair_16 : q_M_pair S (f + 1) 16 L st h = (S 16 L st h) := by rw [q_M_pair, hz_w_at d_M_pair_16]; rfl
theorem d_M_pair_19 : decode c_M_pair 19 = .ok (.iload_n 2, 1) := by decide +kernel
theorem e_M_pair_19 {a0 a1 a3 a4 : Option Value} : q_M_pair S (f + 1) 19 [a0, a1, some (.int x), a3, a4] st h = (q_M_pair S f 20 [a0, a1, some (.int x), a3, a4] (.int x :: st) h) := by rw [q_M_pair, hz_w_at d_M_pair_19]; rfl
theorem d_M_pair_20 : decode c_M_pair 20 = .ok (.invokevirtual 199, 3) := by decide +kernel
theorem e_M_pair_20 : q_M_pair S (f + 1) 20 L st h = (S 20 L st h) := by rw [q_M_pair, hz_w_at d_M_pair_20]; rfl
theorem d_M_pair_23 : decode c_M_pair 23 = .ok (.istore 4, 2) := by decide +kernel
theorem e_M_pair_23 {a0 a1 a2 a3 a4 : Option Value} : q_M_pair S (f + 1) 23 [a0, a1, a2, a3, a4] (.int x :: st) h = (q_M_pair S f 25 [a0, a1, a2, a3, some (.int x)] st h) := by rw [q_M_pair, hz_w_at d_M_pair_23]; rfl
theorem d_M_pair_25 : decode c_M_pair 25 = .ok (.aload_n 0, 1) := by decide +kernel
theorem e_M_pair_25 {a1 a2 a3 a4 : Option Value} : q_M_pair S (f + 1) 25 [some (.ref i), a1, a2, a3, a4] st h = (q_M_pair S f 26 [some (.ref i), a1, a2, a3, a4] (.ref i :: st) h) := by rw [q_M_pair, hz_w_at d_M_pair_25]; rfl
theorem e_M_pair_25n {a1 a2 a3 a4 : Option Value} : q_M_pair S (f + 1) 25 [some .null, a1, a2, a3, a4] st h = (q_M_pair S f 26 [some .null, a1, a2, a3, a4] (.null :: st) h) := by rw [q_M_pair, hz_w_at d_M_pair_25]; rfl
theorem d_M_pair_26 : decode c_M_pair 26 = .ok (.iload_n 3, 1) := by decide +kernel
theorem e_M_pair_26 {a0 a1 a2 a4 : Option Value} : q_M_pair S (f + 1) 26 [a0, a1, a2, some (.int x), a4] st h = (q_M_pair S f 27 [a0, a1, a2, some (.int x), a4] (.int x :: st) h) := by rw [q_M_pair, hz_w_at d_M_pair_26]; rfl
theorem d_M_pair_27 : decode c_M_pair 27 = .ok (.invokevirtual 202, 3) := by decide +kernel
theorem e_M_pair_27 : q_M_pair S (f + 1) 27 L st h = (S 27 L st h) := by rw [q_M_pair, hz_w_at d_M_pair_27]; rfl
theorem d_M_pair_30 : decode c_M_pair 30 = .ok (.pop, 1) := by decide +kernel
theorem e_M_pair_30 : q_M_pair S (f + 1) 30 L (.ref i :: st) h = (q_M_pair S f 31 L st h) := by rw [q_M_pair, hz_w_at d_M_pair_30]; rfl
theorem e_M_pair_30i : q_M_pair S (f + 1) 30 L (.int x :: st) h = (q_M_pair S f 31 L st h) := by rw [q_M_pair, hz_w_at d_M_pair_30]; rfl
theorem d_M_pair_31 : decode c_M_pair 31 = .ok (.aload_n 0, 1) := by decide +kernel
theorem e_M_pair_31 {a1 a2 a3 a4 : Option Value} : q_M_pair S (f + 1) 31 [some (.ref i), a1, a2, a3, a4] st h = (q_M_pair S f 32 [some (.ref i), a1, a2, a3, a4] (.ref i :: st) h) := by rw [q_M_pair, hz_w_at d_M_pair_31]; rfl
theorem e_M_pair_31n {a1 a2 a3 a4 : Option Value} : q_M_pair S (f + 1) 31 [some .null, a1, a2, a3, a4] st h = (q_M_pair S f 32 [some .null, a1, a2, a3, a4] (.null :: st) h) := by rw [q_M_pair, hz_w_at d_M_pair_31]; rfl
theorem d_M_pair_32 : decode c_M_pair 32 = .ok (.iload 4, 2) := by decide +kernel
theorem e_M_pair_32 {a0 a1 a2 a3 : Option Value} : q_M_pair S (f + 1) 32 [a0, a1, a2, a3, some (.int x)] st h = (q_M_pair S f 34 [a0, a1, a2, a3, some (.int x)] (.int x :: st) h) := by rw [q_M_pair, hz_w_at d_M_pair_32]; rfl
theorem d_M_pair_34 : decode c_M_pair 34 = .ok (.invokevirtual 202, 3) := by decide +kernel
theorem e_M_pair_34 : q_M_pair S (f + 1) 34 L st h = (S 34 L st h) := by rw [q_M_pair, hz_w_at d_M_pair_34]; rfl
theorem d_M_pair_37 : decode c_M_pair 37 = .ok (.pop, 1) := by decide +kernel
theorem e_M_pair_37 : q_M_pair S (f + 1) 37 L (.ref i :: st) h = (q_M_pair S f 38 L st h) := by rw [q_M_pair, hz_w_at d_M_pair_37]; rfl
theorem e_M_pair_37i : q_M_pair S (f + 1) 37 L (.int x :: st) h = (q_M_pair S f 38 L st h) := by rw [q_M_pair, hz_w_at d_M_pair_37]; rfl
theorem d_M_pair_38 : decode c_M_pair 38 = .ok (.aload_n 0, 1) := by decide +kernel
theorem e_M_pair_38 {a1 a2 a3 a4 : Option Value} : q_M_pair S (f + 1) 38 [some (.ref i), a1, a2, a3, a4] st h = (q_M_pair S f 39 [some (.ref i), a1, a2, a3, a4] (.ref i :: st) h) := by rw [q_M_pair, hz_w_at d_M_pair_38]; rfl
theorem e_M_pair_38n {a1 a2 a3 a4 : Option Value} : q_M_pair S (f + 1) 38 [some .null, a1, a2, a3, a4] st h = (q_M_pair S f 39 [some .null, a1, a2, a3, a4] (.null :: st) h) := by rw [q_M_pair, hz_w_at d_M_pair_38]; rfl
theorem d_M_pair_39 : decode c_M_pair 39 = .ok (.iconst 2, 1) := by decide +kernel
theorem e_M_pair_39 : q_M_pair S (f + 1) 39 L st h = (q_M_pair S f 40 L (.int (hz_n 2) :: st) h) := by rw [q_M_pair, hz_w_at d_M_pair_39]; rfl
theorem d_M_pair_40 : decode c_M_pair 40 = .ok (.aload_n 0, 1) := by decide +kernel
theorem e_M_pair_40 {a1 a2 a3 a4 : Option Value} : q_M_pair S (f + 1) 40 [some (.ref i), a1, a2, a3, a4] st h = (q_M_pair S f 41 [some (.ref i), a1, a2, a3, a4] (.ref i :: st) h) := by rw [q_M_pair, hz_w_at d_M_pair_40]; rfl
theorem e_M_pair_40n {a1 a2 a3 a4 : Option Value} : q_M_pair S (f + 1) 40 [some .null, a1, a2, a3, a4] st h = (q_M_pair S f 41 [some .null, a1, a2, a3, a4] (.null :: st) h) := by rw [q_M_pair, hz_w_at d_M_pair_40]; rfl
theorem d_M_pair_41 : decode c_M_pair 41 = .ok (.getfield 153, 3) := by decide +kernel
theorem e_M_pair_41 : q_M_pair S (f + 1) 41 L (.ref i :: st) h = (hz_rd h i 5 23 fun v => q_M_pair S f 44 L (v :: st) h) := by rw [q_M_pair, hz_w_at d_M_pair_41]; rfl
theorem d_M_pair_44 : decode c_M_pair 44 = .ok (.iconst 2, 1) := by decide +kernel
theorem e_M_pair_44 : q_M_pair S (f + 1) 44 L st h = (q_M_pair S f 45 L (.int (hz_n 2) :: st) h) := by rw [q_M_pair, hz_w_at d_M_pair_44]; rfl
theorem d_M_pair_45 : decode c_M_pair 45 = .ok (.isub, 1) := by decide +kernel
theorem e_M_pair_45 : q_M_pair S (f + 1) 45 L (.int y :: .int x :: st) h = (q_M_pair S f 46 L (.int (x - y) :: st) h) := by rw [q_M_pair, hz_w_at d_M_pair_45]; rfl
theorem d_M_pair_46 : decode c_M_pair 46 = .ok (.invokevirtual 187, 3) := by decide +kernel
theorem e_M_pair_46 : q_M_pair S (f + 1) 46 L st h = (S 46 L st h) := by rw [q_M_pair, hz_w_at d_M_pair_46]; rfl
theorem d_M_pair_49 : decode c_M_pair 49 = .ok (.return_, 1) := by decide +kernel
theorem e_M_pair_49 : q_M_pair S (f + 1) 49 L st h = (S 49 L st h) := by rw [q_M_pair, hz_w_at d_M_pair_49]; rfl
end
abbrev q_M_let (S : Nat → List (Option Value) → List Value → hz_H → Prop) := hz_w zCl zKT f_M n_M c_M_let [] S
section
variable {S : Nat → List (Option Value) → List Value → hz_H → Prop} {f : Nat} {L : List (Option Value)} {st : List Value} {h : hz_H} {x y : Int32} {i j : Nat} {X Y : Int64}
theorem d_M_let_0 : decode c_M_let 0 = .ok (.aload_n 0, 1) := by decide +kernel
theorem e_M_let_0 {a1 a2 a3 a4 : Option Value} : q_M_let S (f + 1) 0 [some (.ref i), a1, a2, a3, a4] st h = (q_M_let S f 1 [some (.ref i), a1, a2, a3, a4] (.ref i :: st) h) := by rw [q_M_let, hz_w_at d_M_let_0]; rfl
theorem e_M_let_0n {a1 a2 a3 a4 : Option Value} : q_M_let S (f + 1) 0 [some .null, a1, a2, a3, a4] st h = (q_M_let S f 1 [some .null, a1, a2, a3, a4] (.null :: st) h) := by rw [q_M_let, hz_w_at d_M_let_0]; rfl
theorem d_M_let_1 : decode c_M_let 1 = .ok (.aload_n 0, 1) := by decide +kernel
theorem e_M_let_1 {a1 a2 a3 a4 : Option Value} : q_M_let S (f + 1) 1 [some (.ref i), a1, a2, a3, a4] st h = (q_M_let S f 2 [some (.ref i), a1, a2, a3, a4] (.ref i :: st) h) := by rw [q_M_let, hz_w_at d_M_let_1]; rfl
theorem e_M_let_1n {a1 a2 a3 a4 : Option Value} : q_M_let S (f + 1) 1 [some .null, a1, a2, a3, a4] st h = (q_M_let S f 2 [some .null, a1, a2, a3, a4] (.null :: st) h) := by rw [q_M_let, hz_w_at d_M_let_1]; rfl
theorem d_M_let_2 : decode c_M_let 2 = .ok (.iload_n 1, 1) := by decide +kernel
theorem e_M_let_2 {a0 a2 a3 a4 : Option Value} : q_M_let S (f + 1) 2 [a0, some (.int x), a2, a3, a4] st h = (q_M_let S f 3 [a0, some (.int x), a2, a3, a4] (.int x :: st) h) := by rw [q_M_let, hz_w_at d_M_let_2]; rfl
theorem d_M_let_3 : decode c_M_let 3 = .ok (.iconst 0, 1) := by decide +kernel
theorem e_M_let_3 : q_M_let S (f + 1) 3 L st h = (q_M_let S f 4 L (.int (hz_n 0) :: st) h) := by rw [q_M_let, hz_w_at d_M_let_3]; rfl
theorem d_M_let_4 : decode c_M_let 4 = .ok (.invokevirtual 126, 3) := by decide +kernel
theorem e_M_let_4 : q_M_let S (f + 1) 4 L st h = (S 4 L st h) := by rw [q_M_let, hz_w_at d_M_let_4]; rfl
theorem d_M_let_7 : decode c_M_let 7 = .ok (.iload_n 2, 1) := by decide +kernel
theorem e_M_let_7 {a0 a1 a3 a4 : Option Value} : q_M_let S (f + 1) 7 [a0, a1, some (.int x), a3, a4] st h = (q_M_let S f 8 [a0, a1, some (.int x), a3, a4] (.int x :: st) h) := by rw [q_M_let, hz_w_at d_M_let_7]; rfl
theorem d_M_let_8 : decode c_M_let 8 = .ok (.invokevirtual 147, 3) := by decide +kernel
theorem e_M_let_8 : q_M_let S (f + 1) 8 L st h = (S 8 L st h) := by rw [q_M_let, hz_w_at d_M_let_8]; rfl
theorem d_M_let_11 : decode c_M_let 11 = .ok (.istore_n 3, 1) := by decide +kernel
theorem e_M_let_11 {a0 a1 a2 a3 a4 : Option Value} : q_M_let S (f + 1) 11 [a0, a1, a2, a3, a4] (.int x :: st) h = (q_M_let S f 12 [a0, a1, a2, some (.int x), a4] st h) := by rw [q_M_let, hz_w_at d_M_let_11]; rfl
theorem d_M_let_12 : decode c_M_let 12 = .ok (.aload_n 0, 1) := by decide +kernel
theorem e_M_let_12 {a1 a2 a3 a4 : Option Value} : q_M_let S (f + 1) 12 [some (.ref i), a1, a2, a3, a4] st h = (q_M_let S f 13 [some (.ref i), a1, a2, a3, a4] (.ref i :: st) h) := by rw [q_M_let, hz_w_at d_M_let_12]; rfl
theorem e_M_let_12n {a1 a2 a3 a4 : Option Value} : q_M_let S (f + 1) 12 [some .null, a1, a2, a3, a4] st h = (q_M_let S f 13 [some .null, a1, a2, a3, a4] (.null :: st) h) := by rw [q_M_let, hz_w_at d_M_let_12]; rfl
theorem d_M_let_13 : decode c_M_let 13 = .ok (.aload_n 0, 1) := by decide +kernel
theorem e_M_let_13 {a1 a2 a3 a4 : Option Value} : q_M_let S (f + 1) 13 [some (.ref i), a1, a2, a3, a4] st h = (q_M_let S f 14 [some (.ref i), a1, a2, a3, a4] (.ref i :: st) h) := by rw [q_M_let, hz_w_at d_M_let_13]; rfl
theorem e_M_let_13n {a1 a2 a3 a4 : Option Value} : q_M_let S (f + 1) 13 [some .null, a1, a2, a3, a4] st h = (q_M_let S f 14 [some .null, a1, a2, a3, a4] (.null :: st) h) := by rw [q_M_let, hz_w_at d_M_let_13]; rfl
theorem d_M_let_14 : decode c_M_let 14 = .ok (.getfield 29, 3) := by decide +kernel
theorem e_M_let_14 : q_M_let S (f + 1) 14 L (.ref i :: st) h = (hz_rd h i 5 9 fun v => q_M_let S f 17 L (v :: st) h) := by rw [q_M_let, hz_w_at d_M_let_14]; rfl
theorem d_M_let_17 : decode c_M_let 17 = .ok (.iload_n 1, 1) := by decide +kernel
theorem e_M_let_17 {a0 a2 a3 a4 : Option Value} : q_M_let S (f + 1) 17 [a0, some (.int x), a2, a3, a4] st h = (q_M_let S f 18 [a0, some (.int x), a2, a3, a4] (.int x :: st) h) := by rw [q_M_let, hz_w_at d_M_let_17]; rfl
theorem d_M_let_18 : decode c_M_let 18 = .ok (.iaload, 1) := by decide +kernel
theorem e_M_let_18 : q_M_let S (f + 1) 18 L (.int x :: .ref i :: st) h = (hz_ea zKT hz_kI h i x fun v => q_M_let S f 19 L (v :: st) h) := by rw [q_M_let, hz_w_at d_M_let_18]; rfl
theorem d_M_let_19 : decode c_M_let 19 = .ok (.iload_n 3, 1) := by decide +kernel
theorem e_M_let_19 {a0 a1 a2 a4 : Option Value} : q_M_let S (f + 1) 19 [a0, a1, a2, some (.int x), a4] st h = (q_M_let S f 20 [a0, a1, a2, some (.int x), a4] (.int x :: st) h) := by rw [q_M_let, hz_w_at d_M_let_19]; rfl
theorem d_M_let_20 : decode c_M_let 20 = .ok (.iload_n 2, 1) := by decide +kernel
theorem e_M_let_20 {a0 a1 a3 a4 : Option Value} : q_M_let S (f + 1) 20 [a0, a1, some (.int x), a3, a4] st h = (q_M_let S f 21 [a0, a1, some (.int x), a3, a4] (.int x :: st) h) := by rw [q_M_let, hz_w_at d_M_let_20]; rfl
theorem d_M_let_21 : decode c_M_let 21 = .ok (.invokevirtual 205, 3) := by decide +kernel
theorem e_M_let_21 : q_M_let S (f + 1) 21 L st h = (S 21 L st h) := by rw [q_M_let, hz_w_at d_M_let_21]; rfl
theorem d_M_let_24 : decode c_M_let 24 = .ok (.istore 4, 2) := by decide +kernel
theorem e_M_let_24 {a0 a1 a2 a3 a4 : Option Value} : q_M_let S (f + 1) 24 [a0, a1, a2, a3, a4] (.int x :: st) h = (q_M_let S f 26 [a0, a1, a2, a3, some (.int x)] st h) := by rw [q_M_let, hz_w_at d_M_let_24]; rfl
theorem d_M_let_26 : decode c_M_let 26 = .ok (.aload_n 0, 1) := by decide +kernel
theorem e_M_let_26 {a1 a2 a3 a4 : Option Value} : q_M_let S (f + 1) 26 [some (.ref i), a1, a2, a3, a4] st h = (q_M_let S f 27 [some (.ref i), a1, a2, a3, a4] (.ref i :: st) h) := by rw [q_M_let, hz_w_at d_M_let_26]; rfl
theorem e_M_let_26n {a1 a2 a3 a4 : Option Value} : q_M_let S (f + 1) 26 [some .null, a1, a2, a3, a4] st h = (q_M_let S f 27 [some .null, a1, a2, a3, a4] (.null :: st) h) := by rw [q_M_let, hz_w_at d_M_let_26]; rfl
theorem d_M_let_27 : decode c_M_let 27 = .ok (.getfield 53, 3) := by decide +kernel
theorem e_M_let_27 : q_M_let S (f + 1) 27 L (.ref i :: st) h = (hz_rd h i 5 20 fun v => q_M_let S f 30 L (v :: st) h) := by rw [q_M_let, hz_w_at d_M_let_27]; rfl
theorem d_M_let_30 : decode c_M_let 30 = .ok (.iload_n 3, 1) := by decide +kernel
theorem e_M_let_30 {a0 a1 a2 a4 : Option Value} : q_M_let S (f + 1) 30 [a0, a1, a2, some (.int x), a4] st h = (q_M_let S f 31 [a0, a1, a2, some (.int x), a4] (.int x :: st) h) := by rw [q_M_let, hz_w_at d_M_let_30]; rfl
theorem d_M_let_31 : decode c_M_let 31 = .ok (.iload 4, 2) := by decide +kernel
theorem e_M_let_31 {a0 a1 a2 a3 : Option Value} : q_M_let S (f + 1) 31 [a0, a1, a2, a3, some (.int x)] st h = (q_M_let S f 33 [a0, a1, a2, a3, some (.int x)] (.int x :: st) h) := by rw [q_M_let, hz_w_at d_M_let_31]; rfl
theorem d_M_let_33 : decode c_M_let 33 = .ok (.iastore, 1) := by decide +kernel
theorem e_M_let_33 : q_M_let S (f + 1) 33 L (.int y :: .int x :: .ref i :: st) h = (hz_es zKT hz_kI h i x (.int y) fun h => q_M_let S f 34 L st h) := by rw [q_M_let, hz_w_at d_M_let_33]; rfl
theorem d_M_let_34 : decode c_M_let 34 = .ok (.aload_n 0, 1) := by decide +kernel
theorem e_M_let_34 {a1 a2 a3 a4 : Option Value} : q_M_let S (f + 1) 34 [some (.ref i), a1, a2, a3, a4] st h = (q_M_let S f 35 [some (.ref i), a1, a2, a3, a4] (.ref i :: st) h) := by rw [q_M_let, hz_w_at d_M_let_34]; rfl
theorem e_M_let_34n {a1 a2 a3 a4 : Option Value} : q_M_let S (f + 1) 34 [some .null, a1, a2, a3, a4] st h = (q_M_let S f 35 [some .null, a1, a2, a3, a4] (.null :: st) h) := by rw [q_M_let, hz_w_at d_M_let_34]; rfl
theorem d_M_let_35 : decode c_M_let 35 = .ok (.aload_n 0, 1) := by decide +kernel
theorem e_M_let_35 {a1 a2 a3 a4 : Option Value} : q_M_let S (f + 1) 35 [some (.ref i), a1, a2, a3, a4] st h = (q_M_let S f 36 [some (.ref i), a1, a2, a3, a4] (.ref i :: st) h) := by rw [q_M_let, hz_w_at d_M_let_35]; rfl
theorem e_M_let_35n {a1 a2 a3 a4 : Option Value} : q_M_let S (f + 1) 35 [some .null, a1, a2, a3, a4] st h = (q_M_let S f 36 [some .null, a1, a2, a3, a4] (.null :: st) h) := by rw [q_M_let, hz_w_at d_M_let_35]; rfl
theorem d_M_let_36 : decode c_M_let 36 = .ok (.iload_n 1, 1) := by decide +kernel
theorem e_M_let_36 {a0 a2 a3 a4 : Option Value} : q_M_let S (f + 1) 36 [a0, some (.int x), a2, a3, a4] st h = (q_M_let S f 37 [a0, some (.int x), a2, a3, a4] (.int x :: st) h) := by rw [q_M_let, hz_w_at d_M_let_36]; rfl
theorem d_M_let_37 : decode c_M_let 37 = .ok (.iconst 1, 1) := by decide +kernel
theorem e_M_let_37 : q_M_let S (f + 1) 37 L st h = (q_M_let S f 38 L (.int (hz_n 1) :: st) h) := by rw [q_M_let, hz_w_at d_M_let_37]; rfl
theorem d_M_let_38 : decode c_M_let 38 = .ok (.invokevirtual 126, 3) := by decide +kernel
theorem e_M_let_38 : q_M_let S (f + 1) 38 L st h = (S 38 L st h) := by rw [q_M_let, hz_w_at d_M_let_38]; rfl
theorem d_M_let_41 : decode c_M_let 41 = .ok (.iload 4, 2) := by decide +kernel
theorem e_M_let_41 {a0 a1 a2 a3 : Option Value} : q_M_let S (f + 1) 41 [a0, a1, a2, a3, some (.int x)] st h = (q_M_let S f 43 [a0, a1, a2, a3, some (.int x)] (.int x :: st) h) := by rw [q_M_let, hz_w_at d_M_let_41]; rfl
theorem d_M_let_43 : decode c_M_let 43 = .ok (.invokevirtual 180, 3) := by decide +kernel
theorem e_M_let_43 : q_M_let S (f + 1) 43 L st h = (S 43 L st h) := by rw [q_M_let, hz_w_at d_M_let_43]; rfl
theorem d_M_let_46 : decode c_M_let 46 = .ok (.return_, 1) := by decide +kernel
theorem e_M_let_46 : q_M_let S (f + 1) 46 L st h = (S 46 L st h) := by rw [q_M_let, hz_w_at d_M_let_46]; rfl
end
abbrev q_M_step (S : Nat → List (Option Value) → List Value → hz_H → Prop) := hz_w zCl zKT f_M n_M c_M_step [] S
section
variable {S : Nat → List (Option Value) → List Value → hz_H → Prop} {f : Nat} {L : List (Option Value)} {st : List Value} {h : hz_H} {x y : Int32} {i j : Nat} {X Y : Int64}
theorem d_M_step_0 : decode c_M_step 0 = .ok (.aload_n 0, 1) := by decide +kernel
theorem e_M_step_0 {a1 a2 : Option Value} : q_M_step S (f + 1) 0 [some (.ref i), a1, a2] st h = (q_M_step S f 1 [some (.ref i), a1, a2] (.ref i :: st) h) := by rw [q_M_step, hz_w_at d_M_step_0]; rfl
theorem e_M_step_0n {a1 a2 : Option Value} : q_M_step S (f + 1) 0 [some .null, a1, a2] st h = (q_M_step S f 1 [some .null, a1, a2] (.null :: st) h) := by rw [q_M_step, hz_w_at d_M_step_0]; rfl
theorem d_M_step_1 : decode c_M_step 1 = .ok (.getfield 159, 3) := by decide +kernel
theorem e_M_step_1 : q_M_step S (f + 1) 1 L (.ref i :: st) h = (hz_rd h i 5 35 fun v => q_M_step S f 4 L (v :: st) h) := by rw [q_M_step, hz_w_at d_M_step_1]; rfl
theorem d_M_step_4 : decode c_M_step 4 = .ok (.istore_n 1, 1) := by decide +kernel
theorem e_M_step_4 {a0 a1 a2 : Option Value} : q_M_step S (f + 1) 4 [a0, a1, a2] (.int x :: st) h = (q_M_step S f 5 [a0, some (.int x), a2] st h) := by rw [q_M_step, hz_w_at d_M_step_4]; rfl
theorem d_M_step_5 : decode c_M_step 5 = .ok (.aload_n 0, 1) := by decide +kernel
theorem e_M_step_5 {a1 a2 : Option Value} : q_M_step S (f + 1) 5 [some (.ref i), a1, a2] st h = (q_M_step S f 6 [some (.ref i), a1, a2] (.ref i :: st) h) := by rw [q_M_step, hz_w_at d_M_step_5]; rfl
theorem e_M_step_5n {a1 a2 : Option Value} : q_M_step S (f + 1) 5 [some .null, a1, a2] st h = (q_M_step S f 6 [some .null, a1, a2] (.null :: st) h) := by rw [q_M_step, hz_w_at d_M_step_5]; rfl
theorem d_M_step_6 : decode c_M_step 6 = .ok (.getfield 162, 3) := by decide +kernel
theorem e_M_step_6 : q_M_step S (f + 1) 6 L (.ref i :: st) h = (hz_rd h i 5 36 fun v => q_M_step S f 9 L (v :: st) h) := by rw [q_M_step, hz_w_at d_M_step_6]; rfl
theorem d_M_step_9 : decode c_M_step 9 = .ok (.istore_n 2, 1) := by decide +kernel
theorem e_M_step_9 {a0 a1 a2 : Option Value} : q_M_step S (f + 1) 9 [a0, a1, a2] (.int x :: st) h = (q_M_step S f 10 [a0, a1, some (.int x)] st h) := by rw [q_M_step, hz_w_at d_M_step_9]; rfl
theorem d_M_step_10 : decode c_M_step 10 = .ok (.aload_n 0, 1) := by decide +kernel
theorem e_M_step_10 {a1 a2 : Option Value} : q_M_step S (f + 1) 10 [some (.ref i), a1, a2] st h = (q_M_step S f 11 [some (.ref i), a1, a2] (.ref i :: st) h) := by rw [q_M_step, hz_w_at d_M_step_10]; rfl
theorem e_M_step_10n {a1 a2 : Option Value} : q_M_step S (f + 1) 10 [some .null, a1, a2] st h = (q_M_step S f 11 [some .null, a1, a2] (.null :: st) h) := by rw [q_M_step, hz_w_at d_M_step_10]; rfl
theorem d_M_step_11 : decode c_M_step 11 = .ok (.getfield 26, 3) := by decide +kernel
theorem e_M_step_11 : q_M_step S (f + 1) 11 L (.ref i :: st) h = (hz_rd h i 5 8 fun v => q_M_step S f 14 L (v :: st) h) := by rw [q_M_step, hz_w_at d_M_step_11]; rfl
theorem d_M_step_14 : decode c_M_step 14 = .ok (.iload_n 1, 1) := by decide +kernel
theorem e_M_step_14 {a0 a2 : Option Value} : q_M_step S (f + 1) 14 [a0, some (.int x), a2] st h = (q_M_step S f 15 [a0, some (.int x), a2] (.int x :: st) h) := by rw [q_M_step, hz_w_at d_M_step_14]; rfl
theorem d_M_step_15 : decode c_M_step 15 = .ok (.iaload, 1) := by decide +kernel
theorem e_M_step_15 : q_M_step S (f + 1) 15 L (.int x :: .ref i :: st) h = (hz_ea zKT hz_kI h i x fun v => q_M_step S f 16 L (v :: st) h) := by rw [q_M_step, hz_w_at d_M_step_15]; rfl
theorem d_M_step_16 : decode c_M_step 16 = .ok (.tableswitch 128 1 10 #[56, 74, 88, 101, 110, 128, 128, 128, 128, 119], 56) := by decide +kernel
theorem e_M_step_16 : q_M_step S (f + 1) 16 L (.int x :: st) h = (((x.toInt < 1 ∨ 10 < x.toInt) → q_M_step S f 144 L st h) ∧ (x.toInt = 1 → q_M_step S f 72 L st h) ∧ (x.toInt = 2 → q_M_step S f 90 L st h) ∧ (x.toInt = 3 → q_M_step S f 104 L st h) ∧ (x.toInt = 4 → q_M_step S f 117 L st h) ∧ (x.toInt = 5 → q_M_step S f 126 L st h) ∧ (x.toInt = 6 → q_M_step S f 144 L st h) ∧ (x.toInt = 7 → q_M_step S f 144 L st h) ∧ (x.toInt = 8 → q_M_step S f 144 L st h) ∧ (x.toInt = 9 → q_M_step S f 144 L st h) ∧ (x.toInt = 10 → q_M_step S f 135 L st h) ∧ True) := by rw [q_M_step, hz_w_at d_M_step_16]; rfl
theorem d_M_step_72 : decode c_M_step 72 = .ok (.aload_n 0, 1) := by decide +kernel
theorem e_M_step_72 {a1 a2 : Option Value} : q_M_step S (f + 1) 72 [some (.ref i), a1, a2] st h = (q_M_step S f 73 [some (.ref i), a1, a2] (.ref i :: st) h) := by rw [q_M_step, hz_w_at d_M_step_72]; rfl
theorem e_M_step_72n {a1 a2 : Option Value} : q_M_step S (f + 1) 72 [some .null, a1, a2] st h = (q_M_step S f 73 [some .null, a1, a2] (.null :: st) h) := by rw [q_M_step, hz_w_at d_M_step_72]; rfl
theorem d_M_step_73 : decode c_M_step 73 = .ok (.aload_n 0, 1) := by decide +kernel
theorem e_M_step_73 {a1 a2 : Option Value} : q_M_step S (f + 1) 73 [some (.ref i), a1, a2] st h = (q_M_step S f 74 [some (.ref i), a1, a2] (.ref i :: st) h) := by rw [q_M_step, hz_w_at d_M_step_73]; rfl
theorem e_M_step_73n {a1 a2 : Option Value} : q_M_step S (f + 1) 73 [some .null, a1, a2] st h = (q_M_step S f 74 [some .null, a1, a2] (.null :: st) h) := by rw [q_M_step, hz_w_at d_M_step_73]; rfl
theorem d_M_step_74 : decode c_M_step 74 = .ok (.aload_n 0, 1) := by decide +kernel
theorem e_M_step_74 {a1 a2 : Option Value} : q_M_step S (f + 1) 74 [some (.ref i), a1, a2] st h = (q_M_step S f 75 [some (.ref i), a1, a2] (.ref i :: st) h) := by rw [q_M_step, hz_w_at d_M_step_74]; rfl
theorem e_M_step_74n {a1 a2 : Option Value} : q_M_step S (f + 1) 74 [some .null, a1, a2] st h = (q_M_step S f 75 [some .null, a1, a2] (.null :: st) h) := by rw [q_M_step, hz_w_at d_M_step_74]; rfl
theorem d_M_step_75 : decode c_M_step 75 = .ok (.getfield 29, 3) := by decide +kernel
theorem e_M_step_75 : q_M_step S (f + 1) 75 L (.ref i :: st) h = (hz_rd h i 5 9 fun v => q_M_step S f 78 L (v :: st) h) := by rw [q_M_step, hz_w_at d_M_step_75]; rfl
theorem d_M_step_78 : decode c_M_step 78 = .ok (.iload_n 1, 1) := by decide +kernel
theorem e_M_step_78 {a0 a2 : Option Value} : q_M_step S (f + 1) 78 [a0, some (.int x), a2] st h = (q_M_step S f 79 [a0, some (.int x), a2] (.int x :: st) h) := by rw [q_M_step, hz_w_at d_M_step_78]; rfl
theorem d_M_step_79 : decode c_M_step 79 = .ok (.iaload, 1) := by decide +kernel
theorem e_M_step_79 : q_M_step S (f + 1) 79 L (.int x :: .ref i :: st) h = (hz_ea zKT hz_kI h i x fun v => q_M_step S f 80 L (v :: st) h) := by rw [q_M_step, hz_w_at d_M_step_79]; rfl
theorem d_M_step_80 : decode c_M_step 80 = .ok (.iload_n 2, 1) := by decide +kernel
theorem e_M_step_80 {a0 a1 : Option Value} : q_M_step S (f + 1) 80 [a0, a1, some (.int x)] st h = (q_M_step S f 81 [a0, a1, some (.int x)] (.int x :: st) h) := by rw [q_M_step, hz_w_at d_M_step_80]; rfl
theorem d_M_step_81 : decode c_M_step 81 = .ok (.invokevirtual 144, 3) := by decide +kernel
theorem e_M_step_81 : q_M_step S (f + 1) 81 L st h = (S 81 L st h) := by rw [q_M_step, hz_w_at d_M_step_81]; rfl
theorem d_M_step_84 : decode c_M_step 84 = .ok (.invokevirtual 208, 3) := by decide +kernel
theorem e_M_step_84 : q_M_step S (f + 1) 84 L st h = (S 84 L st h) := by rw [q_M_step, hz_w_at d_M_step_84]; rfl
theorem d_M_step_87 : decode c_M_step 87 = .ok (.goto 121, 3) := by decide +kernel
theorem e_M_step_87 : q_M_step S (f + 1) 87 L st h = (q_M_step S f 208 L st h) := by rw [q_M_step, hz_w_at d_M_step_87]; rfl
theorem d_M_step_90 : decode c_M_step 90 = .ok (.aload_n 0, 1) := by decide +kernel
theorem e_M_step_90 {a1 a2 : Option Value} : q_M_step S (f + 1) 90 [some (.ref i), a1, a2] st h = (q_M_step S f 91 [some (.ref i), a1, a2] (.ref i :: st) h) := by rw [q_M_step, hz_w_at d_M_step_90]; rfl
theorem e_M_step_90n {a1 a2 : Option Value} : q_M_step S (f + 1) 90 [some .null, a1, a2] st h = (q_M_step S f 91 [some .null, a1, a2] (.null :: st) h) := by rw [q_M_step, hz_w_at d_M_step_90]; rfl
theorem d_M_step_91 : decode c_M_step 91 = .ok (.iconst 0, 1) := by decide +kernel
theorem e_M_step_91 : q_M_step S (f + 1) 91 L st h = (q_M_step S f 92 L (.int (hz_n 0) :: st) h) := by rw [q_M_step, hz_w_at d_M_step_91]; rfl
theorem d_M_step_92 : decode c_M_step 92 = .ok (.aload_n 0, 1) := by decide +kernel
theorem e_M_step_92 {a1 a2 : Option Value} : q_M_step S (f + 1) 92 [some (.ref i), a1, a2] st h = (q_M_step S f 93 [some (.ref i), a1, a2] (.ref i :: st) h) := by rw [q_M_step, hz_w_at d_M_step_92]; rfl
theorem e_M_step_92n {a1 a2 : Option Value} : q_M_step S (f + 1) 92 [some .null, a1, a2] st h = (q_M_step S f 93 [some .null, a1, a2] (.null :: st) h) := by rw [q_M_step, hz_w_at d_M_step_92]; rfl
theorem d_M_step_93 : decode c_M_step 93 = .ok (.getfield 29, 3) := by decide +kernel
theorem e_M_step_93 : q_M_step S (f + 1) 93 L (.ref i :: st) h = (hz_rd h i 5 9 fun v => q_M_step S f 96 L (v :: st) h) := by rw [q_M_step, hz_w_at d_M_step_93]; rfl
theorem d_M_step_96 : decode c_M_step 96 = .ok (.iload_n 1, 1) := by decide +kernel
theorem e_M_step_96 {a0 a2 : Option Value} : q_M_step S (f + 1) 96 [a0, some (.int x), a2] st h = (q_M_step S f 97 [a0, some (.int x), a2] (.int x :: st) h) := by rw [q_M_step, hz_w_at d_M_step_96]; rfl
theorem d_M_step_97 : decode c_M_step 97 = .ok (.iaload, 1) := by decide +kernel
theorem e_M_step_97 : q_M_step S (f + 1) 97 L (.int x :: .ref i :: st) h = (hz_ea zKT hz_kI h i x fun v => q_M_step S f 98 L (v :: st) h) := by rw [q_M_step, hz_w_at d_M_step_97]; rfl
theorem d_M_step_98 : decode c_M_step 98 = .ok (.invokevirtual 187, 3) := by decide +kernel
theorem e_M_step_98 : q_M_step S (f + 1) 98 L st h = (S 98 L st h) := by rw [q_M_step, hz_w_at d_M_step_98]; rfl
theorem d_M_step_101 : decode c_M_step 101 = .ok (.goto 107, 3) := by decide +kernel
theorem e_M_step_101 : q_M_step S (f + 1) 101 L st h = (q_M_step S f 208 L st h) := by rw [q_M_step, hz_w_at d_M_step_101]; rfl
theorem d_M_step_104 : decode c_M_step 104 = .ok (.aload_n 0, 1) := by decide +kernel
theorem e_M_step_104 {a1 a2 : Option Value} : q_M_step S (f + 1) 104 [some (.ref i), a1, a2] st h = (q_M_step S f 105 [some (.ref i), a1, a2] (.ref i :: st) h) := by rw [q_M_step, hz_w_at d_M_step_104]; rfl
theorem e_M_step_104n {a1 a2 : Option Value} : q_M_step S (f + 1) 104 [some .null, a1, a2] st h = (q_M_step S f 105 [some .null, a1, a2] (.null :: st) h) := by rw [q_M_step, hz_w_at d_M_step_104]; rfl
theorem d_M_step_105 : decode c_M_step 105 = .ok (.aload_n 0, 1) := by decide +kernel
theorem e_M_step_105 {a1 a2 : Option Value} : q_M_step S (f + 1) 105 [some (.ref i), a1, a2] st h = (q_M_step S f 106 [some (.ref i), a1, a2] (.ref i :: st) h) := by rw [q_M_step, hz_w_at d_M_step_105]; rfl
theorem e_M_step_105n {a1 a2 : Option Value} : q_M_step S (f + 1) 105 [some .null, a1, a2] st h = (q_M_step S f 106 [some .null, a1, a2] (.null :: st) h) := by rw [q_M_step, hz_w_at d_M_step_105]; rfl
theorem d_M_step_106 : decode c_M_step 106 = .ok (.getfield 29, 3) := by decide +kernel
theorem e_M_step_106 : q_M_step S (f + 1) 106 L (.ref i :: st) h = (hz_rd h i 5 9 fun v => q_M_step S f 109 L (v :: st) h) := by rw [q_M_step, hz_w_at d_M_step_106]; rfl
theorem d_M_step_109 : decode c_M_step 109 = .ok (.iload_n 1, 1) := by decide +kernel
theorem e_M_step_109 {a0 a2 : Option Value} : q_M_step S (f + 1) 109 [a0, some (.int x), a2] st h = (q_M_step S f 110 [a0, some (.int x), a2] (.int x :: st) h) := by rw [q_M_step, hz_w_at d_M_step_109]; rfl
theorem d_M_step_110 : decode c_M_step 110 = .ok (.iaload, 1) := by decide +kernel
theorem e_M_step_110 : q_M_step S (f + 1) 110 L (.int x :: .ref i :: st) h = (hz_ea zKT hz_kI h i x fun v => q_M_step S f 111 L (v :: st) h) := by rw [q_M_step, hz_w_at d_M_step_110]; rfl
theorem d_M_step_111 : decode c_M_step 111 = .ok (.invokevirtual 183, 3) := by decide +kernel
theorem e_M_step_111 : q_M_step S (f + 1) 111 L st h = (S 111 L st h) := by rw [q_M_step, hz_w_at d_M_step_111]; rfl
theorem d_M_step_114 : decode c_M_step 114 = .ok (.goto 94, 3) := by decide +kernel
theorem e_M_step_114 : q_M_step S (f + 1) 114 L st h = (q_M_step S f 208 L st h) := by rw [q_M_step, hz_w_at d_M_step_114]; rfl
theorem d_M_step_117 : decode c_M_step 117 = .ok (.aload_n 0, 1) := by decide +kernel
theorem e_M_step_117 {a1 a2 : Option Value} : q_M_step S (f + 1) 117 [some (.ref i), a1, a2] st h = (q_M_step S f 118 [some (.ref i), a1, a2] (.ref i :: st) h) := by rw [q_M_step, hz_w_at d_M_step_117]; rfl
theorem e_M_step_117n {a1 a2 : Option Value} : q_M_step S (f + 1) 117 [some .null, a1, a2] st h = (q_M_step S f 118 [some .null, a1, a2] (.null :: st) h) := by rw [q_M_step, hz_w_at d_M_step_117]; rfl
theorem d_M_step_118 : decode c_M_step 118 = .ok (.iconst 1, 1) := by decide +kernel
theorem e_M_step_118 : q_M_step S (f + 1) 118 L st h = (q_M_step S f 119 L (.int (hz_n 1) :: st) h) := by rw [q_M_step, hz_w_at d_M_step_118]; rfl
theorem d_M_step_119 : decode c_M_step 119 = .ok (.iconst 0, 1) := by decide +kernel
theorem e_M_step_119 : q_M_step S (f + 1) 119 L st h = (q_M_step S f 120 L (.int (hz_n 0) :: st) h) := by rw [q_M_step, hz_w_at d_M_step_119]; rfl
theorem d_M_step_120 : decode c_M_step 120 = .ok (.invokevirtual 187, 3) := by decide +kernel
theorem e_M_step_120 : q_M_step S (f + 1) 120 L st h = (S 120 L st h) := by rw [q_M_step, hz_w_at d_M_step_120]; rfl
theorem d_M_step_123 : decode c_M_step 123 = .ok (.goto 85, 3) := by decide +kernel
theorem e_M_step_123 : q_M_step S (f + 1) 123 L st h = (q_M_step S f 208 L st h) := by rw [q_M_step, hz_w_at d_M_step_123]; rfl
theorem d_M_step_126 : decode c_M_step 126 = .ok (.aload_n 0, 1) := by decide +kernel
theorem e_M_step_126 {a1 a2 : Option Value} : q_M_step S (f + 1) 126 [some (.ref i), a1, a2] st h = (q_M_step S f 127 [some (.ref i), a1, a2] (.ref i :: st) h) := by rw [q_M_step, hz_w_at d_M_step_126]; rfl
theorem e_M_step_126n {a1 a2 : Option Value} : q_M_step S (f + 1) 126 [some .null, a1, a2] st h = (q_M_step S f 127 [some .null, a1, a2] (.null :: st) h) := by rw [q_M_step, hz_w_at d_M_step_126]; rfl
theorem d_M_step_127 : decode c_M_step 127 = .ok (.iload_n 1, 1) := by decide +kernel
theorem e_M_step_127 {a0 a2 : Option Value} : q_M_step S (f + 1) 127 [a0, some (.int x), a2] st h = (q_M_step S f 128 [a0, some (.int x), a2] (.int x :: st) h) := by rw [q_M_step, hz_w_at d_M_step_127]; rfl
theorem d_M_step_128 : decode c_M_step 128 = .ok (.iload_n 2, 1) := by decide +kernel
theorem e_M_step_128 {a0 a1 : Option Value} : q_M_step S (f + 1) 128 [a0, a1, some (.int x)] st h = (q_M_step S f 129 [a0, a1, some (.int x)] (.int x :: st) h) := by rw [q_M_step, hz_w_at d_M_step_128]; rfl
theorem d_M_step_129 : decode c_M_step 129 = .ok (.invokevirtual 211, 3) := by decide +kernel
theorem e_M_step_129 : q_M_step S (f + 1) 129 L st h = (S 129 L st h) := by rw [q_M_step, hz_w_at d_M_step_129]; rfl
theorem d_M_step_132 : decode c_M_step 132 = .ok (.goto 76, 3) := by decide +kernel
theorem e_M_step_132 : q_M_step S (f + 1) 132 L st h = (q_M_step S f 208 L st h) := by rw [q_M_step, hz_w_at d_M_step_132]; rfl
theorem d_M_step_135 : decode c_M_step 135 = .ok (.aload_n 0, 1) := by decide +kernel
theorem e_M_step_135 {a1 a2 : Option Value} : q_M_step S (f + 1) 135 [some (.ref i), a1, a2] st h = (q_M_step S f 136 [some (.ref i), a1, a2] (.ref i :: st) h) := by rw [q_M_step, hz_w_at d_M_step_135]; rfl
theorem e_M_step_135n {a1 a2 : Option Value} : q_M_step S (f + 1) 135 [some .null, a1, a2] st h = (q_M_step S f 136 [some .null, a1, a2] (.null :: st) h) := by rw [q_M_step, hz_w_at d_M_step_135]; rfl
theorem d_M_step_136 : decode c_M_step 136 = .ok (.iload_n 1, 1) := by decide +kernel
theorem e_M_step_136 {a0 a2 : Option Value} : q_M_step S (f + 1) 136 [a0, some (.int x), a2] st h = (q_M_step S f 137 [a0, some (.int x), a2] (.int x :: st) h) := by rw [q_M_step, hz_w_at d_M_step_136]; rfl
theorem d_M_step_137 : decode c_M_step 137 = .ok (.iload_n 2, 1) := by decide +kernel
theorem e_M_step_137 {a0 a1 : Option Value} : q_M_step S (f + 1) 137 [a0, a1, some (.int x)] st h = (q_M_step S f 138 [a0, a1, some (.int x)] (.int x :: st) h) := by rw [q_M_step, hz_w_at d_M_step_137]; rfl
theorem d_M_step_138 : decode c_M_step 138 = .ok (.invokevirtual 214, 3) := by decide +kernel
theorem e_M_step_138 : q_M_step S (f + 1) 138 L st h = (S 138 L st h) := by rw [q_M_step, hz_w_at d_M_step_138]; rfl
theorem d_M_step_141 : decode c_M_step 141 = .ok (.goto 67, 3) := by decide +kernel
theorem e_M_step_141 : q_M_step S (f + 1) 141 L st h = (q_M_step S f 208 L st h) := by rw [q_M_step, hz_w_at d_M_step_141]; rfl
theorem d_M_step_144 : decode c_M_step 144 = .ok (.aload_n 0, 1) := by decide +kernel
theorem e_M_step_144 {a1 a2 : Option Value} : q_M_step S (f + 1) 144 [some (.ref i), a1, a2] st h = (q_M_step S f 145 [some (.ref i), a1, a2] (.ref i :: st) h) := by rw [q_M_step, hz_w_at d_M_step_144]; rfl
theorem e_M_step_144n {a1 a2 : Option Value} : q_M_step S (f + 1) 144 [some .null, a1, a2] st h = (q_M_step S f 145 [some .null, a1, a2] (.null :: st) h) := by rw [q_M_step, hz_w_at d_M_step_144]; rfl
theorem d_M_step_145 : decode c_M_step 145 = .ok (.aload_n 0, 1) := by decide +kernel
theorem e_M_step_145 {a1 a2 : Option Value} : q_M_step S (f + 1) 145 [some (.ref i), a1, a2] st h = (q_M_step S f 146 [some (.ref i), a1, a2] (.ref i :: st) h) := by rw [q_M_step, hz_w_at d_M_step_145]; rfl
theorem e_M_step_145n {a1 a2 : Option Value} : q_M_step S (f + 1) 145 [some .null, a1, a2] st h = (q_M_step S f 146 [some .null, a1, a2] (.null :: st) h) := by rw [q_M_step, hz_w_at d_M_step_145]; rfl
theorem d_M_step_146 : decode c_M_step 146 = .ok (.getfield 26, 3) := by decide +kernel
theorem e_M_step_146 : q_M_step S (f + 1) 146 L (.ref i :: st) h = (hz_rd h i 5 8 fun v => q_M_step S f 149 L (v :: st) h) := by rw [q_M_step, hz_w_at d_M_step_146]; rfl
theorem d_M_step_149 : decode c_M_step 149 = .ok (.iload_n 1, 1) := by decide +kernel
theorem e_M_step_149 {a0 a2 : Option Value} : q_M_step S (f + 1) 149 [a0, some (.int x), a2] st h = (q_M_step S f 150 [a0, some (.int x), a2] (.int x :: st) h) := by rw [q_M_step, hz_w_at d_M_step_149]; rfl
theorem d_M_step_150 : decode c_M_step 150 = .ok (.iaload, 1) := by decide +kernel
theorem e_M_step_150 : q_M_step S (f + 1) 150 L (.int x :: .ref i :: st) h = (hz_ea zKT hz_kI h i x fun v => q_M_step S f 151 L (v :: st) h) := by rw [q_M_step, hz_w_at d_M_step_150]; rfl
theorem d_M_step_151 : decode c_M_step 151 = .ok (.bipush 6, 2) := by decide +kernel
theorem e_M_step_151 : q_M_step S (f + 1) 151 L st h = (q_M_step S f 153 L (.int (hz_n 6) :: st) h) := by rw [q_M_step, hz_w_at d_M_step_151]; rfl
theorem d_M_step_153 : decode c_M_step 153 = .ok (.if_icmp .ne 7, 3) := by decide +kernel
theorem e_M_step_153 : q_M_step S (f + 1) 153 L (.int y :: .int x :: st) h = ((¬ x.toInt = y.toInt → q_M_step S f 160 L st h) ∧ (¬ (¬ x.toInt = y.toInt) → q_M_step S f 156 L st h)) := by rw [q_M_step, hz_w_at d_M_step_153]; rfl
theorem d_M_step_156 : decode c_M_step 156 = .ok (.iconst 2, 1) := by decide +kernel
theorem e_M_step_156 : q_M_step S (f + 1) 156 L st h = (q_M_step S f 157 L (.int (hz_n 2) :: st) h) := by rw [q_M_step, hz_w_at d_M_step_156]; rfl
theorem d_M_step_157 : decode c_M_step 157 = .ok (.goto 35, 3) := by decide +kernel
theorem e_M_step_157 : q_M_step S (f + 1) 157 L st h = (q_M_step S f 192 L st h) := by rw [q_M_step, hz_w_at d_M_step_157]; rfl
theorem d_M_step_160 : decode c_M_step 160 = .ok (.aload_n 0, 1) := by decide +kernel
theorem e_M_step_160 {a1 a2 : Option Value} : q_M_step S (f + 1) 160 [some (.ref i), a1, a2] st h = (q_M_step S f 161 [some (.ref i), a1, a2] (.ref i :: st) h) := by rw [q_M_step, hz_w_at d_M_step_160]; rfl
theorem e_M_step_160n {a1 a2 : Option Value} : q_M_step S (f + 1) 160 [some .null, a1, a2] st h = (q_M_step S f 161 [some .null, a1, a2] (.null :: st) h) := by rw [q_M_step, hz_w_at d_M_step_160]; rfl
theorem d_M_step_161 : decode c_M_step 161 = .ok (.getfield 26, 3) := by decide +kernel
theorem e_M_step_161 : q_M_step S (f + 1) 161 L (.ref i :: st) h = (hz_rd h i 5 8 fun v => q_M_step S f 164 L (v :: st) h) := by rw [q_M_step, hz_w_at d_M_step_161]; rfl
theorem d_M_step_164 : decode c_M_step 164 = .ok (.iload_n 1, 1) := by decide +kernel
theorem e_M_step_164 {a0 a2 : Option Value} : q_M_step S (f + 1) 164 [a0, some (.int x), a2] st h = (q_M_step S f 165 [a0, some (.int x), a2] (.int x :: st) h) := by rw [q_M_step, hz_w_at d_M_step_164]; rfl
theorem d_M_step_165 : decode c_M_step 165 = .ok (.iaload, 1) := by decide +kernel
theorem e_M_step_165 : q_M_step S (f + 1) 165 L (.int x :: .ref i :: st) h = (hz_ea zKT hz_kI h i x fun v => q_M_step S f 166 L (v :: st) h) := by rw [q_M_step, hz_w_at d_M_step_165]; rfl
theorem d_M_step_166 : decode c_M_step 166 = .ok (.bipush 7, 2) := by decide +kernel
theorem e_M_step_166 : q_M_step S (f + 1) 166 L st h = (q_M_step S f 168 L (.int (hz_n 7) :: st) h) := by rw [q_M_step, hz_w_at d_M_step_166]; rfl
theorem d_M_step_168 : decode c_M_step 168 = .ok (.if_icmp .ne 7, 3) := by decide +kernel
theorem e_M_step_168 : q_M_step S (f + 1) 168 L (.int y :: .int x :: st) h = ((¬ x.toInt = y.toInt → q_M_step S f 175 L st h) ∧ (¬ (¬ x.toInt = y.toInt) → q_M_step S f 171 L st h)) := by rw [q_M_step, hz_w_at d_M_step_168]; rfl
theorem d_M_step_171 : decode c_M_step 171 = .ok (.iconst 3, 1) := by decide +kernel
theorem e_M_step_171 : q_M_step S (f + 1) 171 L st h = (q_M_step S f 172 L (.int (hz_n 3) :: st) h) := by rw [q_M_step, hz_w_at d_M_step_171]; rfl
theorem d_M_step_172 : decode c_M_step 172 = .ok (.goto 20, 3) := by decide +kernel
theorem e_M_step_172 : q_M_step S (f + 1) 172 L st h = (q_M_step S f 192 L st h) := by rw [q_M_step, hz_w_at d_M_step_172]; rfl
theorem d_M_step_175 : decode c_M_step 175 = .ok (.aload_n 0, 1) := by decide +kernel
theorem e_M_step_175 {a1 a2 : Option Value} : q_M_step S (f + 1) 175 [some (.ref i), a1, a2] st h = (q_M_step S f 176 [some (.ref i), a1, a2] (.ref i :: st) h) := by rw [q_M_step, hz_w_at d_M_step_175]; rfl
theorem e_M_step_175n {a1 a2 : Option Value} : q_M_step S (f + 1) 175 [some .null, a1, a2] st h = (q_M_step S f 176 [some .null, a1, a2] (.null :: st) h) := by rw [q_M_step, hz_w_at d_M_step_175]; rfl
theorem d_M_step_176 : decode c_M_step 176 = .ok (.getfield 26, 3) := by decide +kernel
theorem e_M_step_176 : q_M_step S (f + 1) 176 L (.ref i :: st) h = (hz_rd h i 5 8 fun v => q_M_step S f 179 L (v :: st) h) := by rw [q_M_step, hz_w_at d_M_step_176]; rfl
theorem d_M_step_179 : decode c_M_step 179 = .ok (.iload_n 1, 1) := by decide +kernel
theorem e_M_step_179 {a0 a2 : Option Value} : q_M_step S (f + 1) 179 [a0, some (.int x), a2] st h = (q_M_step S f 180 [a0, some (.int x), a2] (.int x :: st) h) := by rw [q_M_step, hz_w_at d_M_step_179]; rfl
theorem d_M_step_180 : decode c_M_step 180 = .ok (.iaload, 1) := by decide +kernel
theorem e_M_step_180 : q_M_step S (f + 1) 180 L (.int x :: .ref i :: st) h = (hz_ea zKT hz_kI h i x fun v => q_M_step S f 181 L (v :: st) h) := by rw [q_M_step, hz_w_at d_M_step_180]; rfl
theorem d_M_step_181 : decode c_M_step 181 = .ok (.bipush 8, 2) := by decide +kernel
theorem e_M_step_181 : q_M_step S (f + 1) 181 L st h = (q_M_step S f 183 L (.int (hz_n 8) :: st) h) := by rw [q_M_step, hz_w_at d_M_step_181]; rfl
theorem d_M_step_183 : decode c_M_step 183 = .ok (.if_icmp .ne 7, 3) := by decide +kernel
theorem e_M_step_183 : q_M_step S (f + 1) 183 L (.int y :: .int x :: st) h = ((¬ x.toInt = y.toInt → q_M_step S f 190 L st h) ∧ (¬ (¬ x.toInt = y.toInt) → q_M_step S f 186 L st h)) := by rw [q_M_step, hz_w_at d_M_step_183]; rfl
theorem d_M_step_186 : decode c_M_step 186 = .ok (.iconst 5, 1) := by decide +kernel
theorem e_M_step_186 : q_M_step S (f + 1) 186 L st h = (q_M_step S f 187 L (.int (hz_n 5) :: st) h) := by rw [q_M_step, hz_w_at d_M_step_186]; rfl
theorem d_M_step_187 : decode c_M_step 187 = .ok (.goto 5, 3) := by decide +kernel
theorem e_M_step_187 : q_M_step S (f + 1) 187 L st h = (q_M_step S f 192 L st h) := by rw [q_M_step, hz_w_at d_M_step_187]; rfl
theorem d_M_step_190 : decode c_M_step 190 = .ok (.bipush 6, 2) := by decide +kernel
theorem e_M_step_190 : q_M_step S (f + 1) 190 L st h = (q_M_step S f 192 L (.int (hz_n 6) :: st) h) := by rw [q_M_step, hz_w_at d_M_step_190]; rfl
theorem d_M_step_192 : decode c_M_step 192 = .ok (.iload_n 1, 1) := by decide +kernel
theorem e_M_step_192 {a0 a2 : Option Value} : q_M_step S (f + 1) 192 [a0, some (.int x), a2] st h = (q_M_step S f 193 [a0, some (.int x), a2] (.int x :: st) h) := by rw [q_M_step, hz_w_at d_M_step_192]; rfl
theorem d_M_step_193 : decode c_M_step 193 = .ok (.iload_n 2, 1) := by decide +kernel
theorem e_M_step_193 {a0 a1 : Option Value} : q_M_step S (f + 1) 193 [a0, a1, some (.int x)] st h = (q_M_step S f 194 [a0, a1, some (.int x)] (.int x :: st) h) := by rw [q_M_step, hz_w_at d_M_step_193]; rfl
theorem d_M_step_194 : decode c_M_step 194 = .ok (.invokevirtual 190, 3) := by decide +kernel
theorem e_M_step_194 : q_M_step S (f + 1) 194 L st h = (S 194 L st h) := by rw [q_M_step, hz_w_at d_M_step_194]; rfl
theorem d_M_step_197 : decode c_M_step 197 = .ok (.aload_n 0, 1) := by decide +kernel
theorem e_M_step_197 {a1 a2 : Option Value} : q_M_step S (f + 1) 197 [some (.ref i), a1, a2] st h = (q_M_step S f 198 [some (.ref i), a1, a2] (.ref i :: st) h) := by rw [q_M_step, hz_w_at d_M_step_197]; rfl
theorem e_M_step_197n {a1 a2 : Option Value} : q_M_step S (f + 1) 197 [some .null, a1, a2] st h = (q_M_step S f 198 [some .null, a1, a2] (.null :: st) h) := by rw [q_M_step, hz_w_at d_M_step_197]; rfl
theorem d_M_step_198 : decode c_M_step 198 = .ok (.aload_n 0, 1) := by decide +kernel
theorem e_M_step_198 {a1 a2 : Option Value} : q_M_step S (f + 1) 198 [some (.ref i), a1, a2] st h = (q_M_step S f 199 [some (.ref i), a1, a2] (.ref i :: st) h) := by rw [q_M_step, hz_w_at d_M_step_198]; rfl
theorem e_M_step_198n {a1 a2 : Option Value} : q_M_step S (f + 1) 198 [some .null, a1, a2] st h = (q_M_step S f 199 [some .null, a1, a2] (.null :: st) h) := by rw [q_M_step, hz_w_at d_M_step_198]; rfl
theorem d_M_step_199 : decode c_M_step 199 = .ok (.iload_n 1, 1) := by decide +kernel
theorem e_M_step_199 {a0 a2 : Option Value} : q_M_step S (f + 1) 199 [a0, some (.int x), a2] st h = (q_M_step S f 200 [a0, some (.int x), a2] (.int x :: st) h) := by rw [q_M_step, hz_w_at d_M_step_199]; rfl
theorem d_M_step_200 : decode c_M_step 200 = .ok (.iconst 0, 1) := by decide +kernel
theorem e_M_step_200 : q_M_step S (f + 1) 200 L st h = (q_M_step S f 201 L (.int (hz_n 0) :: st) h) := by rw [q_M_step, hz_w_at d_M_step_200]; rfl
theorem d_M_step_201 : decode c_M_step 201 = .ok (.invokevirtual 126, 3) := by decide +kernel
theorem e_M_step_201 : q_M_step S (f + 1) 201 L st h = (S 201 L st h) := by rw [q_M_step, hz_w_at d_M_step_201]; rfl
theorem d_M_step_204 : decode c_M_step 204 = .ok (.iload_n 2, 1) := by decide +kernel
theorem e_M_step_204 {a0 a1 : Option Value} : q_M_step S (f + 1) 204 [a0, a1, some (.int x)] st h = (q_M_step S f 205 [a0, a1, some (.int x)] (.int x :: st) h) := by rw [q_M_step, hz_w_at d_M_step_204]; rfl
theorem d_M_step_205 : decode c_M_step 205 = .ok (.invokevirtual 180, 3) := by decide +kernel
theorem e_M_step_205 : q_M_step S (f + 1) 205 L st h = (S 205 L st h) := by rw [q_M_step, hz_w_at d_M_step_205]; rfl
theorem d_M_step_208 : decode c_M_step 208 = .ok (.return_, 1) := by decide +kernel
theorem e_M_step_208 : q_M_step S (f + 1) 208 L st h = (S 208 L st h) := by rw [q_M_step, hz_w_at d_M_step_208]; rfl
end
abbrev q_M_feed (S : Nat → List (Option Value) → List Value → hz_H → Prop) := hz_w zCl zKT f_M n_M c_M_feed [114, 162] S
section
variable {S : Nat → List (Option Value) → List Value → hz_H → Prop} {f : Nat} {L : List (Option Value)} {st : List Value} {h : hz_H} {x y : Int32} {i j : Nat} {X Y : Int64}
theorem d_M_feed_0 : decode c_M_feed 0 = .ok (.iload_n 2, 1) := by decide +kernel
theorem e_M_feed_0 {a0 a1 a3 a4 a5 a6 a7 a8 a9 : Option Value} : q_M_feed S (f + 1) 0 [a0, a1, some (.int x), a3, a4, a5, a6, a7, a8, a9] st h = (q_M_feed S f 1 [a0, a1, some (.int x), a3, a4, a5, a6, a7, a8, a9] (.int x :: st) h) := by rw [q_M_feed, hz_w_at d_M_feed_0]; rfl
theorem d_M_feed_1 : decode c_M_feed 1 = .ok (.aload_n 0, 1) := by decide +kernel
theorem e_M_feed_1 {a1 a2 a3 a4 a5 a6 a7 a8 a9 : Option Value} : q_M_feed S (f + 1) 1 [some (.ref i), a1, a2, a3, a4, a5, a6, a7, a8, a9] st h = (q_M_feed S f 2 [some (.ref i), a1, a2, a3, a4, a5, a6, a7, a8, a9] (.ref i :: st) h) := by rw [q_M_feed, hz_w_at d_M_feed_1]; rfl
theorem e_M_feed_1n {a1 a2 a3 a4 a5 a6 a7 a8 a9 : Option Value} : q_M_feed S (f + 1) 1 [some .null, a1, a2, a3, a4, a5, a6, a7, a8, a9] st h = (q_M_feed S f 2 [some .null, a1, a2, a3, a4, a5, a6, a7, a8, a9] (.null :: st) h) := by rw [q_M_feed, hz_w_at d_M_feed_1]; rfl
theorem d_M_feed_2 : decode c_M_feed 2 = .ok (.getfield 32, 3) := by decide +kernel
theorem e_M_feed_2 : q_M_feed S (f + 1) 2 L (.ref i :: st) h = (hz_rd h i 5 10 fun v => q_M_feed S f 5 L (v :: st) h) := by rw [q_M_feed, hz_w_at d_M_feed_2]; rfl
theorem d_M_feed_5 : decode c_M_feed 5 = .ok (.iload_n 1, 1) := by decide +kernel
theorem e_M_feed_5 {a0 a2 a3 a4 a5 a6 a7 a8 a9 : Option Value} : q_M_feed S (f + 1) 5 [a0, some (.int x), a2, a3, a4, a5, a6, a7, a8, a9] st h = (q_M_feed S f 6 [a0, some (.int x), a2, a3, a4, a5, a6, a7, a8, a9] (.int x :: st) h) := by rw [q_M_feed, hz_w_at d_M_feed_5]; rfl
theorem d_M_feed_6 : decode c_M_feed 6 = .ok (.iaload, 1) := by decide +kernel
theorem e_M_feed_6 : q_M_feed S (f + 1) 6 L (.int x :: .ref i :: st) h = (hz_ea zKT hz_kI h i x fun v => q_M_feed S f 7 L (v :: st) h) := by rw [q_M_feed, hz_w_at d_M_feed_6]; rfl
theorem d_M_feed_7 : decode c_M_feed 7 = .ok (.if_icmp .ne 4, 3) := by decide +kernel
theorem e_M_feed_7 : q_M_feed S (f + 1) 7 L (.int y :: .int x :: st) h = ((¬ x.toInt = y.toInt → q_M_feed S f 11 L st h) ∧ (¬ (¬ x.toInt = y.toInt) → q_M_feed S f 10 L st h)) := by rw [q_M_feed, hz_w_at d_M_feed_7]; rfl
theorem d_M_feed_10 : decode c_M_feed 10 = .ok (.return_, 1) := by decide +kernel
theorem e_M_feed_10 : q_M_feed S (f + 1) 10 L st h = (S 10 L st h) := by rw [q_M_feed, hz_w_at d_M_feed_10]; rfl
theorem d_M_feed_11 : decode c_M_feed 11 = .ok (.aload_n 0, 1) := by decide +kernel
theorem e_M_feed_11 {a1 a2 a3 a4 a5 a6 a7 a8 a9 : Option Value} : q_M_feed S (f + 1) 11 [some (.ref i), a1, a2, a3, a4, a5, a6, a7, a8, a9] st h = (q_M_feed S f 12 [some (.ref i), a1, a2, a3, a4, a5, a6, a7, a8, a9] (.ref i :: st) h) := by rw [q_M_feed, hz_w_at d_M_feed_11]; rfl
theorem e_M_feed_11n {a1 a2 a3 a4 a5 a6 a7 a8 a9 : Option Value} : q_M_feed S (f + 1) 11 [some .null, a1, a2, a3, a4, a5, a6, a7, a8, a9] st h = (q_M_feed S f 12 [some .null, a1, a2, a3, a4, a5, a6, a7, a8, a9] (.null :: st) h) := by rw [q_M_feed, hz_w_at d_M_feed_11]; rfl
theorem d_M_feed_12 : decode c_M_feed 12 = .ok (.getfield 165, 3) := by decide +kernel
theorem e_M_feed_12 : q_M_feed S (f + 1) 12 L (.ref i :: st) h = (hz_rd h i 5 37 fun v => q_M_feed S f 15 L (v :: st) h) := by rw [q_M_feed, hz_w_at d_M_feed_12]; rfl
theorem d_M_feed_15 : decode c_M_feed 15 = .ok (.iconst 3, 1) := by decide +kernel
theorem e_M_feed_15 : q_M_feed S (f + 1) 15 L st h = (q_M_feed S f 16 L (.int (hz_n 3) :: st) h) := by rw [q_M_feed, hz_w_at d_M_feed_15]; rfl
theorem d_M_feed_16 : decode c_M_feed 16 = .ok (.if_icmp .eq 10, 3) := by decide +kernel
theorem e_M_feed_16 : q_M_feed S (f + 1) 16 L (.int y :: .int x :: st) h = ((x.toInt = y.toInt → q_M_feed S f 26 L st h) ∧ (¬ (x.toInt = y.toInt) → q_M_feed S f 19 L st h)) := by rw [q_M_feed, hz_w_at d_M_feed_16]; rfl
theorem d_M_feed_19 : decode c_M_feed 19 = .ok (.aload_n 0, 1) := by decide +kernel
theorem e_M_feed_19 {a1 a2 a3 a4 a5 a6 a7 a8 a9 : Option Value} : q_M_feed S (f + 1) 19 [some (.ref i), a1, a2, a3, a4, a5, a6, a7, a8, a9] st h = (q_M_feed S f 20 [some (.ref i), a1, a2, a3, a4, a5, a6, a7, a8, a9] (.ref i :: st) h) := by rw [q_M_feed, hz_w_at d_M_feed_19]; rfl
theorem e_M_feed_19n {a1 a2 a3 a4 a5 a6 a7 a8 a9 : Option Value} : q_M_feed S (f + 1) 19 [some .null, a1, a2, a3, a4, a5, a6, a7, a8, a9] st h = (q_M_feed S f 20 [some .null, a1, a2, a3, a4, a5, a6, a7, a8, a9] (.null :: st) h) := by rw [q_M_feed, hz_w_at d_M_feed_19]; rfl
theorem d_M_feed_20 : decode c_M_feed 20 = .ok (.bipush (-3), 2) := by decide +kernel
theorem e_M_feed_20 : q_M_feed S (f + 1) 20 L st h = (q_M_feed S f 22 L (.int (hz_n (-3)) :: st) h) := by rw [q_M_feed, hz_w_at d_M_feed_20]; rfl
theorem d_M_feed_22 : decode c_M_feed 22 = .ok (.putfield 177, 3) := by decide +kernel
theorem e_M_feed_22 : q_M_feed S (f + 1) 22 L (.int x :: .ref i :: st) h = (hz_wr h i 5 34 (.int x) fun h => q_M_feed S f 25 L st h) := by rw [q_M_feed, hz_w_at d_M_feed_22]; rfl
theorem d_M_feed_25 : decode c_M_feed 25 = .ok (.return_, 1) := by decide +kernel
theorem e_M_feed_25 : q_M_feed S (f + 1) 25 L st h = (S 25 L st h) := by rw [q_M_feed, hz_w_at d_M_feed_25]; rfl
theorem d_M_feed_26 : decode c_M_feed 26 = .ok (.aload_n 0, 1) := by decide +kernel
theorem e_M_feed_26 {a1 a2 a3 a4 a5 a6 a7 a8 a9 : Option Value} : q_M_feed S (f + 1) 26 [some (.ref i), a1, a2, a3, a4, a5, a6, a7, a8, a9] st h = (q_M_feed S f 27 [some (.ref i), a1, a2, a3, a4, a5, a6, a7, a8, a9] (.ref i :: st) h) := by rw [q_M_feed, hz_w_at d_M_feed_26]; rfl
theorem e_M_feed_26n {a1 a2 a3 a4 a5 a6 a7 a8 a9 : Option Value} : q_M_feed S (f + 1) 26 [some .null, a1, a2, a3, a4, a5, a6, a7, a8, a9] st h = (q_M_feed S f 27 [some .null, a1, a2, a3, a4, a5, a6, a7, a8, a9] (.null :: st) h) := by rw [q_M_feed, hz_w_at d_M_feed_26]; rfl
theorem d_M_feed_27 : decode c_M_feed 27 = .ok (.getfield 168, 3) := by decide +kernel
theorem e_M_feed_27 : q_M_feed S (f + 1) 27 L (.ref i :: st) h = (hz_rd h i 5 38 fun v => q_M_feed S f 30 L (v :: st) h) := by rw [q_M_feed, hz_w_at d_M_feed_27]; rfl
theorem d_M_feed_30 : decode c_M_feed 30 = .ok (.istore 4, 2) := by decide +kernel
theorem e_M_feed_30 {a0 a1 a2 a3 a4 a5 a6 a7 a8 a9 : Option Value} : q_M_feed S (f + 1) 30 [a0, a1, a2, a3, a4, a5, a6, a7, a8, a9] (.int x :: st) h = (q_M_feed S f 32 [a0, a1, a2, a3, some (.int x), a5, a6, a7, a8, a9] st h) := by rw [q_M_feed, hz_w_at d_M_feed_30]; rfl
theorem d_M_feed_32 : decode c_M_feed 32 = .ok (.iload 4, 2) := by decide +kernel
theorem e_M_feed_32 {a0 a1 a2 a3 a5 a6 a7 a8 a9 : Option Value} : q_M_feed S (f + 1) 32 [a0, a1, a2, a3, some (.int x), a5, a6, a7, a8, a9] st h = (q_M_feed S f 34 [a0, a1, a2, a3, some (.int x), a5, a6, a7, a8, a9] (.int x :: st) h) := by rw [q_M_feed, hz_w_at d_M_feed_32]; rfl
theorem d_M_feed_34 : decode c_M_feed 34 = .ok (.ifCond .ge 10, 3) := by decide +kernel
theorem e_M_feed_34 : q_M_feed S (f + 1) 34 L (.int x :: st) h = ((0 ≤ x.toInt → q_M_feed S f 44 L st h) ∧ (¬ (0 ≤ x.toInt) → q_M_feed S f 37 L st h)) := by rw [q_M_feed, hz_w_at d_M_feed_34]; rfl
theorem d_M_feed_37 : decode c_M_feed 37 = .ok (.iconst (-1), 1) := by decide +kernel
theorem e_M_feed_37 : q_M_feed S (f + 1) 37 L st h = (q_M_feed S f 38 L (.int (hz_n (-1)) :: st) h) := by rw [q_M_feed, hz_w_at d_M_feed_37]; rfl
theorem d_M_feed_38 : decode c_M_feed 38 = .ok (.iload 4, 2) := by decide +kernel
theorem e_M_feed_38 {a0 a1 a2 a3 a5 a6 a7 a8 a9 : Option Value} : q_M_feed S (f + 1) 38 [a0, a1, a2, a3, some (.int x), a5, a6, a7, a8, a9] st h = (q_M_feed S f 40 [a0, a1, a2, a3, some (.int x), a5, a6, a7, a8, a9] (.int x :: st) h) := by rw [q_M_feed, hz_w_at d_M_feed_38]; rfl
theorem d_M_feed_40 : decode c_M_feed 40 = .ok (.isub, 1) := by decide +kernel
theorem e_M_feed_40 : q_M_feed S (f + 1) 40 L (.int y :: .int x :: st) h = (q_M_feed S f 41 L (.int (x - y) :: st) h) := by rw [q_M_feed, hz_w_at d_M_feed_40]; rfl
theorem d_M_feed_41 : decode c_M_feed 41 = .ok (.goto 10, 3) := by decide +kernel
theorem e_M_feed_41 : q_M_feed S (f + 1) 41 L st h = (q_M_feed S f 51 L st h) := by rw [q_M_feed, hz_w_at d_M_feed_41]; rfl
theorem d_M_feed_44 : decode c_M_feed 44 = .ok (.aload_n 0, 1) := by decide +kernel
theorem e_M_feed_44 {a1 a2 a3 a4 a5 a6 a7 a8 a9 : Option Value} : q_M_feed S (f + 1) 44 [some (.ref i), a1, a2, a3, a4, a5, a6, a7, a8, a9] st h = (q_M_feed S f 45 [some (.ref i), a1, a2, a3, a4, a5, a6, a7, a8, a9] (.ref i :: st) h) := by rw [q_M_feed, hz_w_at d_M_feed_44]; rfl
theorem e_M_feed_44n {a1 a2 a3 a4 a5 a6 a7 a8 a9 : Option Value} : q_M_feed S (f + 1) 44 [some .null, a1, a2, a3, a4, a5, a6, a7, a8, a9] st h = (q_M_feed S f 45 [some .null, a1, a2, a3, a4, a5, a6, a7, a8, a9] (.null :: st) h) := by rw [q_M_feed, hz_w_at d_M_feed_44]; rfl
theorem d_M_feed_45 : decode c_M_feed 45 = .ok (.getfield 62, 3) := by decide +kernel
theorem e_M_feed_45 : q_M_feed S (f + 1) 45 L (.ref i :: st) h = (hz_rd h i 5 24 fun v => q_M_feed S f 48 L (v :: st) h) := by rw [q_M_feed, hz_w_at d_M_feed_45]; rfl
theorem d_M_feed_48 : decode c_M_feed 48 = .ok (.iload 4, 2) := by decide +kernel
theorem e_M_feed_48 {a0 a1 a2 a3 a5 a6 a7 a8 a9 : Option Value} : q_M_feed S (f + 1) 48 [a0, a1, a2, a3, some (.int x), a5, a6, a7, a8, a9] st h = (q_M_feed S f 50 [a0, a1, a2, a3, some (.int x), a5, a6, a7, a8, a9] (.int x :: st) h) := by rw [q_M_feed, hz_w_at d_M_feed_48]; rfl
theorem d_M_feed_50 : decode c_M_feed 50 = .ok (.iaload, 1) := by decide +kernel
theorem e_M_feed_50 : q_M_feed S (f + 1) 50 L (.int x :: .ref i :: st) h = (hz_ea zKT hz_kI h i x fun v => q_M_feed S f 51 L (v :: st) h) := by rw [q_M_feed, hz_w_at d_M_feed_50]; rfl
theorem d_M_feed_51 : decode c_M_feed 51 = .ok (.istore 5, 2) := by decide +kernel
theorem e_M_feed_51 {a0 a1 a2 a3 a4 a5 a6 a7 a8 a9 : Option Value} : q_M_feed S (f + 1) 51 [a0, a1, a2, a3, a4, a5, a6, a7, a8, a9] (.int x :: st) h = (q_M_feed S f 53 [a0, a1, a2, a3, a4, some (.int x), a6, a7, a8, a9] st h) := by rw [q_M_feed, hz_w_at d_M_feed_51]; rfl
theorem d_M_feed_53 : decode c_M_feed 53 = .ok (.iload 4, 2) := by decide +kernel
theorem e_M_feed_53 {a0 a1 a2 a3 a5 a6 a7 a8 a9 : Option Value} : q_M_feed S (f + 1) 53 [a0, a1, a2, a3, some (.int x), a5, a6, a7, a8, a9] st h = (q_M_feed S f 55 [a0, a1, a2, a3, some (.int x), a5, a6, a7, a8, a9] (.int x :: st) h) := by rw [q_M_feed, hz_w_at d_M_feed_53]; rfl
theorem d_M_feed_55 : decode c_M_feed 55 = .ok (.ifCond .ge 7, 3) := by decide +kernel
theorem e_M_feed_55 : q_M_feed S (f + 1) 55 L (.int x :: st) h = ((0 ≤ x.toInt → q_M_feed S f 62 L st h) ∧ (¬ (0 ≤ x.toInt) → q_M_feed S f 58 L st h)) := by rw [q_M_feed, hz_w_at d_M_feed_55]; rfl
theorem d_M_feed_58 : decode c_M_feed 58 = .ok (.iconst 0, 1) := by decide +kernel
theorem e_M_feed_58 : q_M_feed S (f + 1) 58 L st h = (q_M_feed S f 59 L (.int (hz_n 0) :: st) h) := by rw [q_M_feed, hz_w_at d_M_feed_58]; rfl
theorem d_M_feed_59 : decode c_M_feed 59 = .ok (.goto 12, 3) := by decide +kernel
theorem e_M_feed_59 : q_M_feed S (f + 1) 59 L st h = (q_M_feed S f 71 L st h) := by rw [q_M_feed, hz_w_at d_M_feed_59]; rfl
theorem d_M_feed_62 : decode c_M_feed 62 = .ok (.aload_n 0, 1) := by decide +kernel
theorem e_M_feed_62 {a1 a2 a3 a4 a5 a6 a7 a8 a9 : Option Value} : q_M_feed S (f + 1) 62 [some (.ref i), a1, a2, a3, a4, a5, a6, a7, a8, a9] st h = (q_M_feed S f 63 [some (.ref i), a1, a2, a3, a4, a5, a6, a7, a8, a9] (.ref i :: st) h) := by rw [q_M_feed, hz_w_at d_M_feed_62]; rfl
theorem e_M_feed_62n {a1 a2 a3 a4 a5 a6 a7 a8 a9 : Option Value} : q_M_feed S (f + 1) 62 [some .null, a1, a2, a3, a4, a5, a6, a7, a8, a9] st h = (q_M_feed S f 63 [some .null, a1, a2, a3, a4, a5, a6, a7, a8, a9] (.null :: st) h) := by rw [q_M_feed, hz_w_at d_M_feed_62]; rfl
theorem d_M_feed_63 : decode c_M_feed 63 = .ok (.getfield 62, 3) := by decide +kernel
theorem e_M_feed_63 : q_M_feed S (f + 1) 63 L (.ref i :: st) h = (hz_rd h i 5 24 fun v => q_M_feed S f 66 L (v :: st) h) := by rw [q_M_feed, hz_w_at d_M_feed_63]; rfl
theorem d_M_feed_66 : decode c_M_feed 66 = .ok (.iload 4, 2) := by decide +kernel
theorem e_M_feed_66 {a0 a1 a2 a3 a5 a6 a7 a8 a9 : Option Value} : q_M_feed S (f + 1) 66 [a0, a1, a2, a3, some (.int x), a5, a6, a7, a8, a9] st h = (q_M_feed S f 68 [a0, a1, a2, a3, some (.int x), a5, a6, a7, a8, a9] (.int x :: st) h) := by rw [q_M_feed, hz_w_at d_M_feed_66]; rfl
theorem d_M_feed_68 : decode c_M_feed 68 = .ok (.iconst 1, 1) := by decide +kernel
theorem e_M_feed_68 : q_M_feed S (f + 1) 68 L st h = (q_M_feed S f 69 L (.int (hz_n 1) :: st) h) := by rw [q_M_feed, hz_w_at d_M_feed_68]; rfl
theorem d_M_feed_69 : decode c_M_feed 69 = .ok (.iadd, 1) := by decide +kernel
theorem e_M_feed_69 : q_M_feed S (f + 1) 69 L (.int y :: .int x :: st) h = (q_M_feed S f 70 L (.int (x + y) :: st) h) := by rw [q_M_feed, hz_w_at d_M_feed_69]; rfl
theorem d_M_feed_70 : decode c_M_feed 70 = .ok (.iaload, 1) := by decide +kernel
theorem e_M_feed_70 : q_M_feed S (f + 1) 70 L (.int x :: .ref i :: st) h = (hz_ea zKT hz_kI h i x fun v => q_M_feed S f 71 L (v :: st) h) := by rw [q_M_feed, hz_w_at d_M_feed_70]; rfl
theorem d_M_feed_71 : decode c_M_feed 71 = .ok (.istore 6, 2) := by decide +kernel
theorem e_M_feed_71 {a0 a1 a2 a3 a4 a5 a6 a7 a8 a9 : Option Value} : q_M_feed S (f + 1) 71 [a0, a1, a2, a3, a4, a5, a6, a7, a8, a9] (.int x :: st) h = (q_M_feed S f 73 [a0, a1, a2, a3, a4, a5, some (.int x), a7, a8, a9] st h) := by rw [q_M_feed, hz_w_at d_M_feed_71]; rfl
theorem d_M_feed_73 : decode c_M_feed 73 = .ok (.aload_n 0, 1) := by decide +kernel
theorem e_M_feed_73 {a1 a2 a3 a4 a5 a6 a7 a8 a9 : Option Value} : q_M_feed S (f + 1) 73 [some (.ref i), a1, a2, a3, a4, a5, a6, a7, a8, a9] st h = (q_M_feed S f 74 [some (.ref i), a1, a2, a3, a4, a5, a6, a7, a8, a9] (.ref i :: st) h) := by rw [q_M_feed, hz_w_at d_M_feed_73]; rfl
theorem e_M_feed_73n {a1 a2 a3 a4 a5 a6 a7 a8 a9 : Option Value} : q_M_feed S (f + 1) 73 [some .null, a1, a2, a3, a4, a5, a6, a7, a8, a9] st h = (q_M_feed S f 74 [some .null, a1, a2, a3, a4, a5, a6, a7, a8, a9] (.null :: st) h) := by rw [q_M_feed, hz_w_at d_M_feed_73]; rfl
theorem d_M_feed_74 : decode c_M_feed 74 = .ok (.getfield 20, 3) := by decide +kernel
theorem e_M_feed_74 : q_M_feed S (f + 1) 74 L (.ref i :: st) h = (hz_rd h i 5 6 fun v => q_M_feed S f 77 L (v :: st) h) := by rw [q_M_feed, hz_w_at d_M_feed_74]; rfl
theorem d_M_feed_77 : decode c_M_feed 77 = .ok (.iload 5, 2) := by decide +kernel
theorem e_M_feed_77 {a0 a1 a2 a3 a4 a6 a7 a8 a9 : Option Value} : q_M_feed S (f + 1) 77 [a0, a1, a2, a3, a4, some (.int x), a6, a7, a8, a9] st h = (q_M_feed S f 79 [a0, a1, a2, a3, a4, some (.int x), a6, a7, a8, a9] (.int x :: st) h) := by rw [q_M_feed, hz_w_at d_M_feed_77]; rfl
theorem d_M_feed_79 : decode c_M_feed 79 = .ok (.iaload, 1) := by decide +kernel
theorem e_M_feed_79 : q_M_feed S (f + 1) 79 L (.int x :: .ref i :: st) h = (hz_ea zKT hz_kI h i x fun v => q_M_feed S f 80 L (v :: st) h) := by rw [q_M_feed, hz_w_at d_M_feed_79]; rfl
theorem d_M_feed_80 : decode c_M_feed 80 = .ok (.iload 6, 2) := by decide +kernel
theorem e_M_feed_80 {a0 a1 a2 a3 a4 a5 a7 a8 a9 : Option Value} : q_M_feed S (f + 1) 80 [a0, a1, a2, a3, a4, a5, some (.int x), a7, a8, a9] st h = (q_M_feed S f 82 [a0, a1, a2, a3, a4, a5, some (.int x), a7, a8, a9] (.int x :: st) h) := by rw [q_M_feed, hz_w_at d_M_feed_80]; rfl
theorem d_M_feed_82 : decode c_M_feed 82 = .ok (.isub, 1) := by decide +kernel
theorem e_M_feed_82 : q_M_feed S (f + 1) 82 L (.int y :: .int x :: st) h = (q_M_feed S f 83 L (.int (x - y) :: st) h) := by rw [q_M_feed, hz_w_at d_M_feed_82]; rfl
theorem d_M_feed_83 : decode c_M_feed 83 = .ok (.istore 7, 2) := by decide +kernel
theorem e_M_feed_83 {a0 a1 a2 a3 a4 a5 a6 a7 a8 a9 : Option Value} : q_M_feed S (f + 1) 83 [a0, a1, a2, a3, a4, a5, a6, a7, a8, a9] (.int x :: st) h = (q_M_feed S f 85 [a0, a1, a2, a3, a4, a5, a6, some (.int x), a8, a9] st h) := by rw [q_M_feed, hz_w_at d_M_feed_83]; rfl
theorem d_M_feed_85 : decode c_M_feed 85 = .ok (.aload_n 0, 1) := by decide +kernel
theorem e_M_feed_85 {a1 a2 a3 a4 a5 a6 a7 a8 a9 : Option Value} : q_M_feed S (f + 1) 85 [some (.ref i), a1, a2, a3, a4, a5, a6, a7, a8, a9] st h = (q_M_feed S f 86 [some (.ref i), a1, a2, a3, a4, a5, a6, a7, a8, a9] (.ref i :: st) h) := by rw [q_M_feed, hz_w_at d_M_feed_85]; rfl
theorem e_M_feed_85n {a1 a2 a3 a4 a5 a6 a7 a8 a9 : Option Value} : q_M_feed S (f + 1) 85 [some .null, a1, a2, a3, a4, a5, a6, a7, a8, a9] st h = (q_M_feed S f 86 [some .null, a1, a2, a3, a4, a5, a6, a7, a8, a9] (.null :: st) h) := by rw [q_M_feed, hz_w_at d_M_feed_85]; rfl
theorem d_M_feed_86 : decode c_M_feed 86 = .ok (.getfield 32, 3) := by decide +kernel
theorem e_M_feed_86 : q_M_feed S (f + 1) 86 L (.ref i :: st) h = (hz_rd h i 5 10 fun v => q_M_feed S f 89 L (v :: st) h) := by rw [q_M_feed, hz_w_at d_M_feed_86]; rfl
theorem d_M_feed_89 : decode c_M_feed 89 = .ok (.iload_n 1, 1) := by decide +kernel
theorem e_M_feed_89 {a0 a2 a3 a4 a5 a6 a7 a8 a9 : Option Value} : q_M_feed S (f + 1) 89 [a0, some (.int x), a2, a3, a4, a5, a6, a7, a8, a9] st h = (q_M_feed S f 90 [a0, some (.int x), a2, a3, a4, a5, a6, a7, a8, a9] (.int x :: st) h) := by rw [q_M_feed, hz_w_at d_M_feed_89]; rfl
theorem d_M_feed_90 : decode c_M_feed 90 = .ok (.iaload, 1) := by decide +kernel
theorem e_M_feed_90 : q_M_feed S (f + 1) 90 L (.int x :: .ref i :: st) h = (hz_ea zKT hz_kI h i x fun v => q_M_feed S f 91 L (v :: st) h) := by rw [q_M_feed, hz_w_at d_M_feed_90]; rfl
theorem d_M_feed_91 : decode c_M_feed 91 = .ok (.iload_n 2, 1) := by decide +kernel
theorem e_M_feed_91 {a0 a1 a3 a4 a5 a6 a7 a8 a9 : Option Value} : q_M_feed S (f + 1) 91 [a0, a1, some (.int x), a3, a4, a5, a6, a7, a8, a9] st h = (q_M_feed S f 92 [a0, a1, some (.int x), a3, a4, a5, a6, a7, a8, a9] (.int x :: st) h) := by rw [q_M_feed, hz_w_at d_M_feed_91]; rfl
theorem d_M_feed_92 : decode c_M_feed 92 = .ok (.isub, 1) := by decide +kernel
theorem e_M_feed_92 : q_M_feed S (f + 1) 92 L (.int y :: .int x :: st) h = (q_M_feed S f 93 L (.int (x - y) :: st) h) := by rw [q_M_feed, hz_w_at d_M_feed_92]; rfl
theorem d_M_feed_93 : decode c_M_feed 93 = .ok (.iload 7, 2) := by decide +kernel
theorem e_M_feed_93 {a0 a1 a2 a3 a4 a5 a6 a8 a9 : Option Value} : q_M_feed S (f + 1) 93 [a0, a1, a2, a3, a4, a5, a6, some (.int x), a8, a9] st h = (q_M_feed S f 95 [a0, a1, a2, a3, a4, a5, a6, some (.int x), a8, a9] (.int x :: st) h) := by rw [q_M_feed, hz_w_at d_M_feed_93]; rfl
theorem d_M_feed_95 : decode c_M_feed 95 = .ok (.if_icmp .ge 13, 3) := by decide +kernel
theorem e_M_feed_95 : q_M_feed S (f + 1) 95 L (.int y :: .int x :: st) h = ((y.toInt ≤ x.toInt → q_M_feed S f 108 L st h) ∧ (¬ (y.toInt ≤ x.toInt) → q_M_feed S f 98 L st h)) := by rw [q_M_feed, hz_w_at d_M_feed_95]; rfl
theorem d_M_feed_98 : decode c_M_feed 98 = .ok (.aload_n 0, 1) := by decide +kernel
theorem e_M_feed_98 {a1 a2 a3 a4 a5 a6 a7 a8 a9 : Option Value} : q_M_feed S (f + 1) 98 [some (.ref i), a1, a2, a3, a4, a5, a6, a7, a8, a9] st h = (q_M_feed S f 99 [some (.ref i), a1, a2, a3, a4, a5, a6, a7, a8, a9] (.ref i :: st) h) := by rw [q_M_feed, hz_w_at d_M_feed_98]; rfl
theorem e_M_feed_98n {a1 a2 a3 a4 a5 a6 a7 a8 a9 : Option Value} : q_M_feed S (f + 1) 98 [some .null, a1, a2, a3, a4, a5, a6, a7, a8, a9] st h = (q_M_feed S f 99 [some .null, a1, a2, a3, a4, a5, a6, a7, a8, a9] (.null :: st) h) := by rw [q_M_feed, hz_w_at d_M_feed_98]; rfl
theorem d_M_feed_99 : decode c_M_feed 99 = .ok (.iload 4, 2) := by decide +kernel
theorem e_M_feed_99 {a0 a1 a2 a3 a5 a6 a7 a8 a9 : Option Value} : q_M_feed S (f + 1) 99 [a0, a1, a2, a3, some (.int x), a5, a6, a7, a8, a9] st h = (q_M_feed S f 101 [a0, a1, a2, a3, some (.int x), a5, a6, a7, a8, a9] (.int x :: st) h) := by rw [q_M_feed, hz_w_at d_M_feed_99]; rfl
theorem d_M_feed_101 : decode c_M_feed 101 = .ok (.iload_n 1, 1) := by decide +kernel
theorem e_M_feed_101 {a0 a2 a3 a4 a5 a6 a7 a8 a9 : Option Value} : q_M_feed S (f + 1) 101 [a0, some (.int x), a2, a3, a4, a5, a6, a7, a8, a9] st h = (q_M_feed S f 102 [a0, some (.int x), a2, a3, a4, a5, a6, a7, a8, a9] (.int x :: st) h) := by rw [q_M_feed, hz_w_at d_M_feed_101]; rfl
theorem d_M_feed_102 : decode c_M_feed 102 = .ok (.iload_n 2, 1) := by decide +kernel
theorem e_M_feed_102 {a0 a1 a3 a4 a5 a6 a7 a8 a9 : Option Value} : q_M_feed S (f + 1) 102 [a0, a1, some (.int x), a3, a4, a5, a6, a7, a8, a9] st h = (q_M_feed S f 103 [a0, a1, some (.int x), a3, a4, a5, a6, a7, a8, a9] (.int x :: st) h) := by rw [q_M_feed, hz_w_at d_M_feed_102]; rfl
theorem d_M_feed_103 : decode c_M_feed 103 = .ok (.iload_n 3, 1) := by decide +kernel
theorem e_M_feed_103 {a0 a1 a2 a4 a5 a6 a7 a8 a9 : Option Value} : q_M_feed S (f + 1) 103 [a0, a1, a2, some (.int x), a4, a5, a6, a7, a8, a9] st h = (q_M_feed S f 104 [a0, a1, a2, some (.int x), a4, a5, a6, a7, a8, a9] (.int x :: st) h) := by rw [q_M_feed, hz_w_at d_M_feed_103]; rfl
theorem d_M_feed_104 : decode c_M_feed 104 = .ok (.invokevirtual 217, 3) := by decide +kernel
theorem e_M_feed_104 : q_M_feed S (f + 1) 104 L st h = (S 104 L st h) := by rw [q_M_feed, hz_w_at d_M_feed_104]; rfl
theorem d_M_feed_107 : decode c_M_feed 107 = .ok (.return_, 1) := by decide +kernel
theorem e_M_feed_107 : q_M_feed S (f + 1) 107 L st h = (S 107 L st h) := by rw [q_M_feed, hz_w_at d_M_feed_107]; rfl
theorem d_M_feed_108 : decode c_M_feed 108 = .ok (.iconst (-1), 1) := by decide +kernel
theorem e_M_feed_108 : q_M_feed S (f + 1) 108 L st h = (q_M_feed S f 109 L (.int (hz_n (-1)) :: st) h) := by rw [q_M_feed, hz_w_at d_M_feed_108]; rfl
theorem d_M_feed_109 : decode c_M_feed 109 = .ok (.istore 8, 2) := by decide +kernel
theorem e_M_feed_109 {a0 a1 a2 a3 a4 a5 a6 a7 a8 a9 : Option Value} : q_M_feed S (f + 1) 109 [a0, a1, a2, a3, a4, a5, a6, a7, a8, a9] (.int x :: st) h = (q_M_feed S f 111 [a0, a1, a2, a3, a4, a5, a6, a7, some (.int x), a9] st h) := by rw [q_M_feed, hz_w_at d_M_feed_109]; rfl
theorem d_M_feed_111 : decode c_M_feed 111 = .ok (.iconst 0, 1) := by decide +kernel
theorem e_M_feed_111 : q_M_feed S (f + 1) 111 L st h = (q_M_feed S f 112 L (.int (hz_n 0) :: st) h) := by rw [q_M_feed, hz_w_at d_M_feed_111]; rfl
theorem d_M_feed_112 : decode c_M_feed 112 = .ok (.istore 9, 2) := by decide +kernel
theorem e_M_feed_112 {a0 a1 a2 a3 a4 a5 a6 a7 a8 a9 : Option Value} : q_M_feed S (f + 1) 112 [a0, a1, a2, a3, a4, a5, a6, a7, a8, a9] (.int x :: st) h = (S 114 [a0, a1, a2, a3, a4, a5, a6, a7, a8, some (.int x)] st h) := by rw [q_M_feed, hz_w_at d_M_feed_112]; rfl
theorem d_M_feed_114 : decode c_M_feed 114 = .ok (.iload 9, 2) := by decide +kernel
theorem e_M_feed_114 {a0 a1 a2 a3 a4 a5 a6 a7 a8 : Option Value} : q_M_feed S (f + 1) 114 [a0, a1, a2, a3, a4, a5, a6, a7, a8, some (.int x)] st h = (q_M_feed S f 116 [a0, a1, a2, a3, a4, a5, a6, a7, a8, some (.int x)] (.int x :: st) h) := by rw [q_M_feed, hz_w_at d_M_feed_114]; rfl
theorem d_M_feed_116 : decode c_M_feed 116 = .ok (.iload 6, 2) := by decide +kernel
theorem e_M_feed_116 {a0 a1 a2 a3 a4 a5 a7 a8 a9 : Option Value} : q_M_feed S (f + 1) 116 [a0, a1, a2, a3, a4, a5, some (.int x), a7, a8, a9] st h = (q_M_feed S f 118 [a0, a1, a2, a3, a4, a5, some (.int x), a7, a8, a9] (.int x :: st) h) := by rw [q_M_feed, hz_w_at d_M_feed_116]; rfl
theorem d_M_feed_118 : decode c_M_feed 118 = .ok (.if_icmp .ge 41, 3) := by decide +kernel
theorem e_M_feed_118 : q_M_feed S (f + 1) 118 L (.int y :: .int x :: st) h = ((y.toInt ≤ x.toInt → q_M_feed S f 159 L st h) ∧ (¬ (y.toInt ≤ x.toInt) → q_M_feed S f 121 L st h)) := by rw [q_M_feed, hz_w_at d_M_feed_118]; rfl
theorem d_M_feed_121 : decode c_M_feed 121 = .ok (.aload_n 0, 1) := by decide +kernel
theorem e_M_feed_121 {a1 a2 a3 a4 a5 a6 a7 a8 a9 : Option Value} : q_M_feed S (f + 1) 121 [some (.ref i), a1, a2, a3, a4, a5, a6, a7, a8, a9] st h = (q_M_feed S f 122 [some (.ref i), a1, a2, a3, a4, a5, a6, a7, a8, a9] (.ref i :: st) h) := by rw [q_M_feed, hz_w_at d_M_feed_121]; rfl
theorem e_M_feed_121n {a1 a2 a3 a4 a5 a6 a7 a8 a9 : Option Value} : q_M_feed S (f + 1) 121 [some .null, a1, a2, a3, a4, a5, a6, a7, a8, a9] st h = (q_M_feed S f 122 [some .null, a1, a2, a3, a4, a5, a6, a7, a8, a9] (.null :: st) h) := by rw [q_M_feed, hz_w_at d_M_feed_121]; rfl
theorem d_M_feed_122 : decode c_M_feed 122 = .ok (.aload_n 0, 1) := by decide +kernel
theorem e_M_feed_122 {a1 a2 a3 a4 a5 a6 a7 a8 a9 : Option Value} : q_M_feed S (f + 1) 122 [some (.ref i), a1, a2, a3, a4, a5, a6, a7, a8, a9] st h = (q_M_feed S f 123 [some (.ref i), a1, a2, a3, a4, a5, a6, a7, a8, a9] (.ref i :: st) h) := by rw [q_M_feed, hz_w_at d_M_feed_122]; rfl
theorem e_M_feed_122n {a1 a2 a3 a4 a5 a6 a7 a8 a9 : Option Value} : q_M_feed S (f + 1) 122 [some .null, a1, a2, a3, a4, a5, a6, a7, a8, a9] st h = (q_M_feed S f 123 [some .null, a1, a2, a3, a4, a5, a6, a7, a8, a9] (.null :: st) h) := by rw [q_M_feed, hz_w_at d_M_feed_122]; rfl
theorem d_M_feed_123 : decode c_M_feed 123 = .ok (.getfield 23, 3) := by decide +kernel
theorem e_M_feed_123 : q_M_feed S (f + 1) 123 L (.ref i :: st) h = (hz_rd h i 5 7 fun v => q_M_feed S f 126 L (v :: st) h) := by rw [q_M_feed, hz_w_at d_M_feed_123]; rfl
theorem d_M_feed_126 : decode c_M_feed 126 = .ok (.iconst 4, 1) := by decide +kernel
theorem e_M_feed_126 : q_M_feed S (f + 1) 126 L st h = (q_M_feed S f 127 L (.int (hz_n 4) :: st) h) := by rw [q_M_feed, hz_w_at d_M_feed_126]; rfl
theorem d_M_feed_127 : decode c_M_feed 127 = .ok (.iload 5, 2) := by decide +kernel
theorem e_M_feed_127 {a0 a1 a2 a3 a4 a6 a7 a8 a9 : Option Value} : q_M_feed S (f + 1) 127 [a0, a1, a2, a3, a4, some (.int x), a6, a7, a8, a9] st h = (q_M_feed S f 129 [a0, a1, a2, a3, a4, some (.int x), a6, a7, a8, a9] (.int x :: st) h) := by rw [q_M_feed, hz_w_at d_M_feed_127]; rfl
theorem d_M_feed_129 : decode c_M_feed 129 = .ok (.imul, 1) := by decide +kernel
theorem e_M_feed_129 : q_M_feed S (f + 1) 129 L (.int y :: .int x :: st) h = (q_M_feed S f 130 L (.int (x * y) :: st) h) := by rw [q_M_feed, hz_w_at d_M_feed_129]; rfl
theorem d_M_feed_130 : decode c_M_feed 130 = .ok (.iload 9, 2) := by decide +kernel
theorem e_M_feed_130 {a0 a1 a2 a3 a4 a5 a6 a7 a8 : Option Value} : q_M_feed S (f + 1) 130 [a0, a1, a2, a3, a4, a5, a6, a7, a8, some (.int x)] st h = (q_M_feed S f 132 [a0, a1, a2, a3, a4, a5, a6, a7, a8, some (.int x)] (.int x :: st) h) := by rw [q_M_feed, hz_w_at d_M_feed_130]; rfl
theorem d_M_feed_132 : decode c_M_feed 132 = .ok (.iadd, 1) := by decide +kernel
theorem e_M_feed_132 : q_M_feed S (f + 1) 132 L (.int y :: .int x :: st) h = (q_M_feed S f 133 L (.int (x + y) :: st) h) := by rw [q_M_feed, hz_w_at d_M_feed_132]; rfl
theorem d_M_feed_133 : decode c_M_feed 133 = .ok (.iaload, 1) := by decide +kernel
theorem e_M_feed_133 : q_M_feed S (f + 1) 133 L (.int x :: .ref i :: st) h = (hz_ea zKT hz_kI h i x fun v => q_M_feed S f 134 L (v :: st) h) := by rw [q_M_feed, hz_w_at d_M_feed_133]; rfl
theorem d_M_feed_134 : decode c_M_feed 134 = .ok (.aload_n 0, 1) := by decide +kernel
theorem e_M_feed_134 {a1 a2 a3 a4 a5 a6 a7 a8 a9 : Option Value} : q_M_feed S (f + 1) 134 [some (.ref i), a1, a2, a3, a4, a5, a6, a7, a8, a9] st h = (q_M_feed S f 135 [some (.ref i), a1, a2, a3, a4, a5, a6, a7, a8, a9] (.ref i :: st) h) := by rw [q_M_feed, hz_w_at d_M_feed_134]; rfl
theorem e_M_feed_134n {a1 a2 a3 a4 a5 a6 a7 a8 a9 : Option Value} : q_M_feed S (f + 1) 134 [some .null, a1, a2, a3, a4, a5, a6, a7, a8, a9] st h = (q_M_feed S f 135 [some .null, a1, a2, a3, a4, a5, a6, a7, a8, a9] (.null :: st) h) := by rw [q_M_feed, hz_w_at d_M_feed_134]; rfl
theorem d_M_feed_135 : decode c_M_feed 135 = .ok (.getfield 62, 3) := by decide +kernel
theorem e_M_feed_135 : q_M_feed S (f + 1) 135 L (.ref i :: st) h = (hz_rd h i 5 24 fun v => q_M_feed S f 138 L (v :: st) h) := by rw [q_M_feed, hz_w_at d_M_feed_135]; rfl
theorem d_M_feed_138 : decode c_M_feed 138 = .ok (.iload 4, 2) := by decide +kernel
theorem e_M_feed_138 {a0 a1 a2 a3 a5 a6 a7 a8 a9 : Option Value} : q_M_feed S (f + 1) 138 [a0, a1, a2, a3, some (.int x), a5, a6, a7, a8, a9] st h = (q_M_feed S f 140 [a0, a1, a2, a3, some (.int x), a5, a6, a7, a8, a9] (.int x :: st) h) := by rw [q_M_feed, hz_w_at d_M_feed_138]; rfl
theorem d_M_feed_140 : decode c_M_feed 140 = .ok (.iconst 2, 1) := by decide +kernel
theorem e_M_feed_140 : q_M_feed S (f + 1) 140 L st h = (q_M_feed S f 141 L (.int (hz_n 2) :: st) h) := by rw [q_M_feed, hz_w_at d_M_feed_140]; rfl
theorem d_M_feed_141 : decode c_M_feed 141 = .ok (.iadd, 1) := by decide +kernel
theorem e_M_feed_141 : q_M_feed S (f + 1) 141 L (.int y :: .int x :: st) h = (q_M_feed S f 142 L (.int (x + y) :: st) h) := by rw [q_M_feed, hz_w_at d_M_feed_141]; rfl
theorem d_M_feed_142 : decode c_M_feed 142 = .ok (.iload 9, 2) := by decide +kernel
theorem e_M_feed_142 {a0 a1 a2 a3 a4 a5 a6 a7 a8 : Option Value} : q_M_feed S (f + 1) 142 [a0, a1, a2, a3, a4, a5, a6, a7, a8, some (.int x)] st h = (q_M_feed S f 144 [a0, a1, a2, a3, a4, a5, a6, a7, a8, some (.int x)] (.int x :: st) h) := by rw [q_M_feed, hz_w_at d_M_feed_142]; rfl
theorem d_M_feed_144 : decode c_M_feed 144 = .ok (.iadd, 1) := by decide +kernel
theorem e_M_feed_144 : q_M_feed S (f + 1) 144 L (.int y :: .int x :: st) h = (q_M_feed S f 145 L (.int (x + y) :: st) h) := by rw [q_M_feed, hz_w_at d_M_feed_144]; rfl
theorem d_M_feed_145 : decode c_M_feed 145 = .ok (.iaload, 1) := by decide +kernel
theorem e_M_feed_145 : q_M_feed S (f + 1) 145 L (.int x :: .ref i :: st) h = (hz_ea zKT hz_kI h i x fun v => q_M_feed S f 146 L (v :: st) h) := by rw [q_M_feed, hz_w_at d_M_feed_145]; rfl
theorem d_M_feed_146 : decode c_M_feed 146 = .ok (.iload 8, 2) := by decide +kernel
theorem e_M_feed_146 {a0 a1 a2 a3 a4 a5 a6 a7 a9 : Option Value} : q_M_feed S (f + 1) 146 [a0, a1, a2, a3, a4, a5, a6, a7, some (.int x), a9] st h = (q_M_feed S f 148 [a0, a1, a2, a3, a4, a5, a6, a7, some (.int x), a9] (.int x :: st) h) := by rw [q_M_feed, hz_w_at d_M_feed_146]; rfl
theorem d_M_feed_148 : decode c_M_feed 148 = .ok (.invokevirtual 205, 3) := by decide +kernel
theorem e_M_feed_148 : q_M_feed S (f + 1) 148 L st h = (S 148 L st h) := by rw [q_M_feed, hz_w_at d_M_feed_148]; rfl
theorem d_M_feed_151 : decode c_M_feed 151 = .ok (.istore 8, 2) := by decide +kernel
theorem e_M_feed_151 {a0 a1 a2 a3 a4 a5 a6 a7 a8 a9 : Option Value} : q_M_feed S (f + 1) 151 [a0, a1, a2, a3, a4, a5, a6, a7, a8, a9] (.int x :: st) h = (q_M_feed S f 153 [a0, a1, a2, a3, a4, a5, a6, a7, some (.int x), a9] st h) := by rw [q_M_feed, hz_w_at d_M_feed_151]; rfl
theorem d_M_feed_153 : decode c_M_feed 153 = .ok (.iinc 9 1, 3) := by decide +kernel
theorem e_M_feed_153 {a0 a1 a2 a3 a4 a5 a6 a7 a8 : Option Value} : q_M_feed S (f + 1) 153 [a0, a1, a2, a3, a4, a5, a6, a7, a8, some (.int x)] st h = (q_M_feed S f 156 [a0, a1, a2, a3, a4, a5, a6, a7, a8, some (.int (x + hz_n 1))] st h) := by rw [q_M_feed, hz_w_at d_M_feed_153]; rfl
theorem d_M_feed_156 : decode c_M_feed 156 = .ok (.goto (-42), 3) := by decide +kernel
theorem e_M_feed_156 : q_M_feed S (f + 1) 156 L st h = (S 114 L st h) := by rw [q_M_feed, hz_w_at d_M_feed_156]; rfl
theorem d_M_feed_159 : decode c_M_feed 159 = .ok (.iconst 0, 1) := by decide +kernel
theorem e_M_feed_159 : q_M_feed S (f + 1) 159 L st h = (q_M_feed S f 160 L (.int (hz_n 0) :: st) h) := by rw [q_M_feed, hz_w_at d_M_feed_159]; rfl
theorem d_M_feed_160 : decode c_M_feed 160 = .ok (.istore 9, 2) := by decide +kernel
theorem e_M_feed_160 {a0 a1 a2 a3 a4 a5 a6 a7 a8 a9 : Option Value} : q_M_feed S (f + 1) 160 [a0, a1, a2, a3, a4, a5, a6, a7, a8, a9] (.int x :: st) h = (S 162 [a0, a1, a2, a3, a4, a5, a6, a7, a8, some (.int x)] st h) := by rw [q_M_feed, hz_w_at d_M_feed_160]; rfl
theorem d_M_feed_162 : decode c_M_feed 162 = .ok (.iload 9, 2) := by decide +kernel
theorem e_M_feed_162 {a0 a1 a2 a3 a4 a5 a6 a7 a8 : Option Value} : q_M_feed S (f + 1) 162 [a0, a1, a2, a3, a4, a5, a6, a7, a8, some (.int x)] st h = (q_M_feed S f 164 [a0, a1, a2, a3, a4, a5, a6, a7, a8, some (.int x)] (.int x :: st) h) := by rw [q_M_feed, hz_w_at d_M_feed_162]; rfl
theorem d_M_feed_164 : decode c_M_feed 164 = .ok (.iload 7, 2) := by decide +kernel
theorem e_M_feed_164 {a0 a1 a2 a3 a4 a5 a6 a8 a9 : Option Value} : q_M_feed S (f + 1) 164 [a0, a1, a2, a3, a4, a5, a6, some (.int x), a8, a9] st h = (q_M_feed S f 166 [a0, a1, a2, a3, a4, a5, a6, some (.int x), a8, a9] (.int x :: st) h) := by rw [q_M_feed, hz_w_at d_M_feed_164]; rfl
theorem d_M_feed_166 : decode c_M_feed 166 = .ok (.if_icmp .ge 48, 3) := by decide +kernel
theorem e_M_feed_166 : q_M_feed S (f + 1) 166 L (.int y :: .int x :: st) h = ((y.toInt ≤ x.toInt → q_M_feed S f 214 L st h) ∧ (¬ (y.toInt ≤ x.toInt) → q_M_feed S f 169 L st h)) := by rw [q_M_feed, hz_w_at d_M_feed_166]; rfl
theorem d_M_feed_169 : decode c_M_feed 169 = .ok (.aload_n 0, 1) := by decide +kernel
theorem e_M_feed_169 {a1 a2 a3 a4 a5 a6 a7 a8 a9 : Option Value} : q_M_feed S (f + 1) 169 [some (.ref i), a1, a2, a3, a4, a5, a6, a7, a8, a9] st h = (q_M_feed S f 170 [some (.ref i), a1, a2, a3, a4, a5, a6, a7, a8, a9] (.ref i :: st) h) := by rw [q_M_feed, hz_w_at d_M_feed_169]; rfl
theorem e_M_feed_169n {a1 a2 a3 a4 a5 a6 a7 a8 a9 : Option Value} : q_M_feed S (f + 1) 169 [some .null, a1, a2, a3, a4, a5, a6, a7, a8, a9] st h = (q_M_feed S f 170 [some .null, a1, a2, a3, a4, a5, a6, a7, a8, a9] (.null :: st) h) := by rw [q_M_feed, hz_w_at d_M_feed_169]; rfl
theorem d_M_feed_170 : decode c_M_feed 170 = .ok (.aload_n 0, 1) := by decide +kernel
theorem e_M_feed_170 {a1 a2 a3 a4 a5 a6 a7 a8 a9 : Option Value} : q_M_feed S (f + 1) 170 [some (.ref i), a1, a2, a3, a4, a5, a6, a7, a8, a9] st h = (q_M_feed S f 171 [some (.ref i), a1, a2, a3, a4, a5, a6, a7, a8, a9] (.ref i :: st) h) := by rw [q_M_feed, hz_w_at d_M_feed_170]; rfl
theorem e_M_feed_170n {a1 a2 a3 a4 a5 a6 a7 a8 a9 : Option Value} : q_M_feed S (f + 1) 170 [some .null, a1, a2, a3, a4, a5, a6, a7, a8, a9] st h = (q_M_feed S f 171 [some .null, a1, a2, a3, a4, a5, a6, a7, a8, a9] (.null :: st) h) := by rw [q_M_feed, hz_w_at d_M_feed_170]; rfl
theorem d_M_feed_171 : decode c_M_feed 171 = .ok (.getfield 23, 3) := by decide +kernel
theorem e_M_feed_171 : q_M_feed S (f + 1) 171 L (.ref i :: st) h = (hz_rd h i 5 7 fun v => q_M_feed S f 174 L (v :: st) h) := by rw [q_M_feed, hz_w_at d_M_feed_171]; rfl
theorem d_M_feed_174 : decode c_M_feed 174 = .ok (.iconst 4, 1) := by decide +kernel
theorem e_M_feed_174 : q_M_feed S (f + 1) 174 L st h = (q_M_feed S f 175 L (.int (hz_n 4) :: st) h) := by rw [q_M_feed, hz_w_at d_M_feed_174]; rfl
theorem d_M_feed_175 : decode c_M_feed 175 = .ok (.iload 5, 2) := by decide +kernel
theorem e_M_feed_175 {a0 a1 a2 a3 a4 a6 a7 a8 a9 : Option Value} : q_M_feed S (f + 1) 175 [a0, a1, a2, a3, a4, some (.int x), a6, a7, a8, a9] st h = (q_M_feed S f 177 [a0, a1, a2, a3, a4, some (.int x), a6, a7, a8, a9] (.int x :: st) h) := by rw [q_M_feed, hz_w_at d_M_feed_175]; rfl
theorem d_M_feed_177 : decode c_M_feed 177 = .ok (.imul, 1) := by decide +kernel
theorem e_M_feed_177 : q_M_feed S (f + 1) 177 L (.int y :: .int x :: st) h = (q_M_feed S f 178 L (.int (x * y) :: st) h) := by rw [q_M_feed, hz_w_at d_M_feed_177]; rfl
theorem d_M_feed_178 : decode c_M_feed 178 = .ok (.iload 6, 2) := by decide +kernel
theorem e_M_feed_178 {a0 a1 a2 a3 a4 a5 a7 a8 a9 : Option Value} : q_M_feed S (f + 1) 178 [a0, a1, a2, a3, a4, a5, some (.int x), a7, a8, a9] st h = (q_M_feed S f 180 [a0, a1, a2, a3, a4, a5, some (.int x), a7, a8, a9] (.int x :: st) h) := by rw [q_M_feed, hz_w_at d_M_feed_178]; rfl
theorem d_M_feed_180 : decode c_M_feed 180 = .ok (.iadd, 1) := by decide +kernel
theorem e_M_feed_180 : q_M_feed S (f + 1) 180 L (.int y :: .int x :: st) h = (q_M_feed S f 181 L (.int (x + y) :: st) h) := by rw [q_M_feed, hz_w_at d_M_feed_180]; rfl
theorem d_M_feed_181 : decode c_M_feed 181 = .ok (.iload 9, 2) := by decide +kernel
theorem e_M_feed_181 {a0 a1 a2 a3 a4 a5 a6 a7 a8 : Option Value} : q_M_feed S (f + 1) 181 [a0, a1, a2, a3, a4, a5, a6, a7, a8, some (.int x)] st h = (q_M_feed S f 183 [a0, a1, a2, a3, a4, a5, a6, a7, a8, some (.int x)] (.int x :: st) h) := by rw [q_M_feed, hz_w_at d_M_feed_181]; rfl
theorem d_M_feed_183 : decode c_M_feed 183 = .ok (.iadd, 1) := by decide +kernel
theorem e_M_feed_183 : q_M_feed S (f + 1) 183 L (.int y :: .int x :: st) h = (q_M_feed S f 184 L (.int (x + y) :: st) h) := by rw [q_M_feed, hz_w_at d_M_feed_183]; rfl
theorem d_M_feed_184 : decode c_M_feed 184 = .ok (.iaload, 1) := by decide +kernel
theorem e_M_feed_184 : q_M_feed S (f + 1) 184 L (.int x :: .ref i :: st) h = (hz_ea zKT hz_kI h i x fun v => q_M_feed S f 185 L (v :: st) h) := by rw [q_M_feed, hz_w_at d_M_feed_184]; rfl
theorem d_M_feed_185 : decode c_M_feed 185 = .ok (.aload_n 0, 1) := by decide +kernel
theorem e_M_feed_185 {a1 a2 a3 a4 a5 a6 a7 a8 a9 : Option Value} : q_M_feed S (f + 1) 185 [some (.ref i), a1, a2, a3, a4, a5, a6, a7, a8, a9] st h = (q_M_feed S f 186 [some (.ref i), a1, a2, a3, a4, a5, a6, a7, a8, a9] (.ref i :: st) h) := by rw [q_M_feed, hz_w_at d_M_feed_185]; rfl
theorem e_M_feed_185n {a1 a2 a3 a4 a5 a6 a7 a8 a9 : Option Value} : q_M_feed S (f + 1) 185 [some .null, a1, a2, a3, a4, a5, a6, a7, a8, a9] st h = (q_M_feed S f 186 [some .null, a1, a2, a3, a4, a5, a6, a7, a8, a9] (.null :: st) h) := by rw [q_M_feed, hz_w_at d_M_feed_185]; rfl
theorem d_M_feed_186 : decode c_M_feed 186 = .ok (.aload_n 0, 1) := by decide +kernel
theorem e_M_feed_186 {a1 a2 a3 a4 a5 a6 a7 a8 a9 : Option Value} : q_M_feed S (f + 1) 186 [some (.ref i), a1, a2, a3, a4, a5, a6, a7, a8, a9] st h = (q_M_feed S f 187 [some (.ref i), a1, a2, a3, a4, a5, a6, a7, a8, a9] (.ref i :: st) h) := by rw [q_M_feed, hz_w_at d_M_feed_186]; rfl
theorem e_M_feed_186n {a1 a2 a3 a4 a5 a6 a7 a8 a9 : Option Value} : q_M_feed S (f + 1) 186 [some .null, a1, a2, a3, a4, a5, a6, a7, a8, a9] st h = (q_M_feed S f 187 [some .null, a1, a2, a3, a4, a5, a6, a7, a8, a9] (.null :: st) h) := by rw [q_M_feed, hz_w_at d_M_feed_186]; rfl
theorem d_M_feed_187 : decode c_M_feed 187 = .ok (.iload_n 1, 1) := by decide +kernel
theorem e_M_feed_187 {a0 a2 a3 a4 a5 a6 a7 a8 a9 : Option Value} : q_M_feed S (f + 1) 187 [a0, some (.int x), a2, a3, a4, a5, a6, a7, a8, a9] st h = (q_M_feed S f 188 [a0, some (.int x), a2, a3, a4, a5, a6, a7, a8, a9] (.int x :: st) h) := by rw [q_M_feed, hz_w_at d_M_feed_187]; rfl
theorem d_M_feed_188 : decode c_M_feed 188 = .ok (.iconst 1, 1) := by decide +kernel
theorem e_M_feed_188 : q_M_feed S (f + 1) 188 L st h = (q_M_feed S f 189 L (.int (hz_n 1) :: st) h) := by rw [q_M_feed, hz_w_at d_M_feed_188]; rfl
theorem d_M_feed_189 : decode c_M_feed 189 = .ok (.iload_n 2, 1) := by decide +kernel
theorem e_M_feed_189 {a0 a1 a3 a4 a5 a6 a7 a8 a9 : Option Value} : q_M_feed S (f + 1) 189 [a0, a1, some (.int x), a3, a4, a5, a6, a7, a8, a9] st h = (q_M_feed S f 190 [a0, a1, some (.int x), a3, a4, a5, a6, a7, a8, a9] (.int x :: st) h) := by rw [q_M_feed, hz_w_at d_M_feed_189]; rfl
theorem d_M_feed_190 : decode c_M_feed 190 = .ok (.iadd, 1) := by decide +kernel
theorem e_M_feed_190 : q_M_feed S (f + 1) 190 L (.int y :: .int x :: st) h = (q_M_feed S f 191 L (.int (x + y) :: st) h) := by rw [q_M_feed, hz_w_at d_M_feed_190]; rfl
theorem d_M_feed_191 : decode c_M_feed 191 = .ok (.iload 9, 2) := by decide +kernel
theorem e_M_feed_191 {a0 a1 a2 a3 a4 a5 a6 a7 a8 : Option Value} : q_M_feed S (f + 1) 191 [a0, a1, a2, a3, a4, a5, a6, a7, a8, some (.int x)] st h = (q_M_feed S f 193 [a0, a1, a2, a3, a4, a5, a6, a7, a8, some (.int x)] (.int x :: st) h) := by rw [q_M_feed, hz_w_at d_M_feed_191]; rfl
theorem d_M_feed_193 : decode c_M_feed 193 = .ok (.iadd, 1) := by decide +kernel
theorem e_M_feed_193 : q_M_feed S (f + 1) 193 L (.int y :: .int x :: st) h = (q_M_feed S f 194 L (.int (x + y) :: st) h) := by rw [q_M_feed, hz_w_at d_M_feed_193]; rfl
theorem d_M_feed_194 : decode c_M_feed 194 = .ok (.invokevirtual 126, 3) := by decide +kernel
theorem e_M_feed_194 : q_M_feed S (f + 1) 194 L st h = (S 194 L st h) := by rw [q_M_feed, hz_w_at d_M_feed_194]; rfl
theorem d_M_feed_197 : decode c_M_feed 197 = .ok (.iload_n 3, 1) := by decide +kernel
theorem e_M_feed_197 {a0 a1 a2 a4 a5 a6 a7 a8 a9 : Option Value} : q_M_feed S (f + 1) 197 [a0, a1, a2, some (.int x), a4, a5, a6, a7, a8, a9] st h = (q_M_feed S f 198 [a0, a1, a2, some (.int x), a4, a5, a6, a7, a8, a9] (.int x :: st) h) := by rw [q_M_feed, hz_w_at d_M_feed_197]; rfl
theorem d_M_feed_198 : decode c_M_feed 198 = .ok (.invokevirtual 199, 3) := by decide +kernel
theorem e_M_feed_198 : q_M_feed S (f + 1) 198 L st h = (S 198 L st h) := by rw [q_M_feed, hz_w_at d_M_feed_198]; rfl
theorem d_M_feed_201 : decode c_M_feed 201 = .ok (.iload 8, 2) := by decide +kernel
theorem e_M_feed_201 {a0 a1 a2 a3 a4 a5 a6 a7 a9 : Option Value} : q_M_feed S (f + 1) 201 [a0, a1, a2, a3, a4, a5, a6, a7, some (.int x), a9] st h = (q_M_feed S f 203 [a0, a1, a2, a3, a4, a5, a6, a7, some (.int x), a9] (.int x :: st) h) := by rw [q_M_feed, hz_w_at d_M_feed_201]; rfl
theorem d_M_feed_203 : decode c_M_feed 203 = .ok (.invokevirtual 205, 3) := by decide +kernel
theorem e_M_feed_203 : q_M_feed S (f + 1) 203 L st h = (S 203 L st h) := by rw [q_M_feed, hz_w_at d_M_feed_203]; rfl
theorem d_M_feed_206 : decode c_M_feed 206 = .ok (.istore 8, 2) := by decide +kernel
theorem e_M_feed_206 {a0 a1 a2 a3 a4 a5 a6 a7 a8 a9 : Option Value} : q_M_feed S (f + 1) 206 [a0, a1, a2, a3, a4, a5, a6, a7, a8, a9] (.int x :: st) h = (q_M_feed S f 208 [a0, a1, a2, a3, a4, a5, a6, a7, some (.int x), a9] st h) := by rw [q_M_feed, hz_w_at d_M_feed_206]; rfl
theorem d_M_feed_208 : decode c_M_feed 208 = .ok (.iinc 9 1, 3) := by decide +kernel
theorem e_M_feed_208 {a0 a1 a2 a3 a4 a5 a6 a7 a8 : Option Value} : q_M_feed S (f + 1) 208 [a0, a1, a2, a3, a4, a5, a6, a7, a8, some (.int x)] st h = (q_M_feed S f 211 [a0, a1, a2, a3, a4, a5, a6, a7, a8, some (.int (x + hz_n 1))] st h) := by rw [q_M_feed, hz_w_at d_M_feed_208]; rfl
theorem d_M_feed_211 : decode c_M_feed 211 = .ok (.goto (-49), 3) := by decide +kernel
theorem e_M_feed_211 : q_M_feed S (f + 1) 211 L st h = (S 162 L st h) := by rw [q_M_feed, hz_w_at d_M_feed_211]; rfl
theorem d_M_feed_214 : decode c_M_feed 214 = .ok (.iload_n 2, 1) := by decide +kernel
theorem e_M_feed_214 {a0 a1 a3 a4 a5 a6 a7 a8 a9 : Option Value} : q_M_feed S (f + 1) 214 [a0, a1, some (.int x), a3, a4, a5, a6, a7, a8, a9] st h = (q_M_feed S f 215 [a0, a1, some (.int x), a3, a4, a5, a6, a7, a8, a9] (.int x :: st) h) := by rw [q_M_feed, hz_w_at d_M_feed_214]; rfl
theorem d_M_feed_215 : decode c_M_feed 215 = .ok (.iload 7, 2) := by decide +kernel
theorem e_M_feed_215 {a0 a1 a2 a3 a4 a5 a6 a8 a9 : Option Value} : q_M_feed S (f + 1) 215 [a0, a1, a2, a3, a4, a5, a6, some (.int x), a8, a9] st h = (q_M_feed S f 217 [a0, a1, a2, a3, a4, a5, a6, some (.int x), a8, a9] (.int x :: st) h) := by rw [q_M_feed, hz_w_at d_M_feed_215]; rfl
theorem d_M_feed_217 : decode c_M_feed 217 = .ok (.iadd, 1) := by decide +kernel
theorem e_M_feed_217 : q_M_feed S (f + 1) 217 L (.int y :: .int x :: st) h = (q_M_feed S f 218 L (.int (x + y) :: st) h) := by rw [q_M_feed, hz_w_at d_M_feed_217]; rfl
theorem d_M_feed_218 : decode c_M_feed 218 = .ok (.aload_n 0, 1) := by decide +kernel
theorem e_M_feed_218 {a1 a2 a3 a4 a5 a6 a7 a8 a9 : Option Value} : q_M_feed S (f + 1) 218 [some (.ref i), a1, a2, a3, a4, a5, a6, a7, a8, a9] st h = (q_M_feed S f 219 [some (.ref i), a1, a2, a3, a4, a5, a6, a7, a8, a9] (.ref i :: st) h) := by rw [q_M_feed, hz_w_at d_M_feed_218]; rfl
theorem e_M_feed_218n {a1 a2 a3 a4 a5 a6 a7 a8 a9 : Option Value} : q_M_feed S (f + 1) 218 [some .null, a1, a2, a3, a4, a5, a6, a7, a8, a9] st h = (q_M_feed S f 219 [some .null, a1, a2, a3, a4, a5, a6, a7, a8, a9] (.null :: st) h) := by rw [q_M_feed, hz_w_at d_M_feed_218]; rfl
theorem d_M_feed_219 : decode c_M_feed 219 = .ok (.getfield 32, 3) := by decide +kernel
theorem e_M_feed_219 : q_M_feed S (f + 1) 219 L (.ref i :: st) h = (hz_rd h i 5 10 fun v => q_M_feed S f 222 L (v :: st) h) := by rw [q_M_feed, hz_w_at d_M_feed_219]; rfl
theorem d_M_feed_222 : decode c_M_feed 222 = .ok (.iload_n 1, 1) := by decide +kernel
theorem e_M_feed_222 {a0 a2 a3 a4 a5 a6 a7 a8 a9 : Option Value} : q_M_feed S (f + 1) 222 [a0, some (.int x), a2, a3, a4, a5, a6, a7, a8, a9] st h = (q_M_feed S f 223 [a0, some (.int x), a2, a3, a4, a5, a6, a7, a8, a9] (.int x :: st) h) := by rw [q_M_feed, hz_w_at d_M_feed_222]; rfl
theorem d_M_feed_223 : decode c_M_feed 223 = .ok (.iaload, 1) := by decide +kernel
theorem e_M_feed_223 : q_M_feed S (f + 1) 223 L (.int x :: .ref i :: st) h = (hz_ea zKT hz_kI h i x fun v => q_M_feed S f 224 L (v :: st) h) := by rw [q_M_feed, hz_w_at d_M_feed_223]; rfl
theorem d_M_feed_224 : decode c_M_feed 224 = .ok (.if_icmp .ge 21, 3) := by decide +kernel
theorem e_M_feed_224 : q_M_feed S (f + 1) 224 L (.int y :: .int x :: st) h = ((y.toInt ≤ x.toInt → q_M_feed S f 245 L st h) ∧ (¬ (y.toInt ≤ x.toInt) → q_M_feed S f 227 L st h)) := by rw [q_M_feed, hz_w_at d_M_feed_224]; rfl
theorem d_M_feed_227 : decode c_M_feed 227 = .ok (.aload_n 0, 1) := by decide +kernel
theorem e_M_feed_227 {a1 a2 a3 a4 a5 a6 a7 a8 a9 : Option Value} : q_M_feed S (f + 1) 227 [some (.ref i), a1, a2, a3, a4, a5, a6, a7, a8, a9] st h = (q_M_feed S f 228 [some (.ref i), a1, a2, a3, a4, a5, a6, a7, a8, a9] (.ref i :: st) h) := by rw [q_M_feed, hz_w_at d_M_feed_227]; rfl
theorem e_M_feed_227n {a1 a2 a3 a4 a5 a6 a7 a8 a9 : Option Value} : q_M_feed S (f + 1) 227 [some .null, a1, a2, a3, a4, a5, a6, a7, a8, a9] st h = (q_M_feed S f 228 [some .null, a1, a2, a3, a4, a5, a6, a7, a8, a9] (.null :: st) h) := by rw [q_M_feed, hz_w_at d_M_feed_227]; rfl
theorem d_M_feed_228 : decode c_M_feed 228 = .ok (.bipush 10, 2) := by decide +kernel
theorem e_M_feed_228 : q_M_feed S (f + 1) 228 L st h = (q_M_feed S f 230 L (.int (hz_n 10) :: st) h) := by rw [q_M_feed, hz_w_at d_M_feed_228]; rfl
theorem d_M_feed_230 : decode c_M_feed 230 = .ok (.iload_n 1, 1) := by decide +kernel
theorem e_M_feed_230 {a0 a2 a3 a4 a5 a6 a7 a8 a9 : Option Value} : q_M_feed S (f + 1) 230 [a0, some (.int x), a2, a3, a4, a5, a6, a7, a8, a9] st h = (q_M_feed S f 231 [a0, some (.int x), a2, a3, a4, a5, a6, a7, a8, a9] (.int x :: st) h) := by rw [q_M_feed, hz_w_at d_M_feed_230]; rfl
theorem d_M_feed_231 : decode c_M_feed 231 = .ok (.bipush 8, 2) := by decide +kernel
theorem e_M_feed_231 : q_M_feed S (f + 1) 231 L st h = (q_M_feed S f 233 L (.int (hz_n 8) :: st) h) := by rw [q_M_feed, hz_w_at d_M_feed_231]; rfl
theorem d_M_feed_233 : decode c_M_feed 233 = .ok (.iload_n 3, 1) := by decide +kernel
theorem e_M_feed_233 {a0 a1 a2 a4 a5 a6 a7 a8 a9 : Option Value} : q_M_feed S (f + 1) 233 [a0, a1, a2, some (.int x), a4, a5, a6, a7, a8, a9] st h = (q_M_feed S f 234 [a0, a1, a2, some (.int x), a4, a5, a6, a7, a8, a9] (.int x :: st) h) := by rw [q_M_feed, hz_w_at d_M_feed_233]; rfl
theorem d_M_feed_234 : decode c_M_feed 234 = .ok (.iconst 1, 1) := by decide +kernel
theorem e_M_feed_234 : q_M_feed S (f + 1) 234 L st h = (q_M_feed S f 235 L (.int (hz_n 1) :: st) h) := by rw [q_M_feed, hz_w_at d_M_feed_234]; rfl
theorem d_M_feed_235 : decode c_M_feed 235 = .ok (.iadd, 1) := by decide +kernel
theorem e_M_feed_235 : q_M_feed S (f + 1) 235 L (.int y :: .int x :: st) h = (q_M_feed S f 236 L (.int (x + y) :: st) h) := by rw [q_M_feed, hz_w_at d_M_feed_235]; rfl
theorem d_M_feed_236 : decode c_M_feed 236 = .ok (.imul, 1) := by decide +kernel
theorem e_M_feed_236 : q_M_feed S (f + 1) 236 L (.int y :: .int x :: st) h = (q_M_feed S f 237 L (.int (x * y) :: st) h) := by rw [q_M_feed, hz_w_at d_M_feed_236]; rfl
theorem d_M_feed_237 : decode c_M_feed 237 = .ok (.iload_n 2, 1) := by decide +kernel
theorem e_M_feed_237 {a0 a1 a3 a4 a5 a6 a7 a8 a9 : Option Value} : q_M_feed S (f + 1) 237 [a0, a1, some (.int x), a3, a4, a5, a6, a7, a8, a9] st h = (q_M_feed S f 238 [a0, a1, some (.int x), a3, a4, a5, a6, a7, a8, a9] (.int x :: st) h) := by rw [q_M_feed, hz_w_at d_M_feed_237]; rfl
theorem d_M_feed_238 : decode c_M_feed 238 = .ok (.iadd, 1) := by decide +kernel
theorem e_M_feed_238 : q_M_feed S (f + 1) 238 L (.int y :: .int x :: st) h = (q_M_feed S f 239 L (.int (x + y) :: st) h) := by rw [q_M_feed, hz_w_at d_M_feed_238]; rfl
theorem d_M_feed_239 : decode c_M_feed 239 = .ok (.iload 7, 2) := by decide +kernel
theorem e_M_feed_239 {a0 a1 a2 a3 a4 a5 a6 a8 a9 : Option Value} : q_M_feed S (f + 1) 239 [a0, a1, a2, a3, a4, a5, a6, some (.int x), a8, a9] st h = (q_M_feed S f 241 [a0, a1, a2, a3, a4, a5, a6, some (.int x), a8, a9] (.int x :: st) h) := by rw [q_M_feed, hz_w_at d_M_feed_239]; rfl
theorem d_M_feed_241 : decode c_M_feed 241 = .ok (.iadd, 1) := by decide +kernel
theorem e_M_feed_241 : q_M_feed S (f + 1) 241 L (.int y :: .int x :: st) h = (q_M_feed S f 242 L (.int (x + y) :: st) h) := by rw [q_M_feed, hz_w_at d_M_feed_241]; rfl
theorem d_M_feed_242 : decode c_M_feed 242 = .ok (.invokevirtual 190, 3) := by decide +kernel
theorem e_M_feed_242 : q_M_feed S (f + 1) 242 L st h = (S 242 L st h) := by rw [q_M_feed, hz_w_at d_M_feed_242]; rfl
theorem d_M_feed_245 : decode c_M_feed 245 = .ok (.aload_n 0, 1) := by decide +kernel
theorem e_M_feed_245 {a1 a2 a3 a4 a5 a6 a7 a8 a9 : Option Value} : q_M_feed S (f + 1) 245 [some (.ref i), a1, a2, a3, a4, a5, a6, a7, a8, a9] st h = (q_M_feed S f 246 [some (.ref i), a1, a2, a3, a4, a5, a6, a7, a8, a9] (.ref i :: st) h) := by rw [q_M_feed, hz_w_at d_M_feed_245]; rfl
theorem e_M_feed_245n {a1 a2 a3 a4 a5 a6 a7 a8 a9 : Option Value} : q_M_feed S (f + 1) 245 [some .null, a1, a2, a3, a4, a5, a6, a7, a8, a9] st h = (q_M_feed S f 246 [some .null, a1, a2, a3, a4, a5, a6, a7, a8, a9] (.null :: st) h) := by rw [q_M_feed, hz_w_at d_M_feed_245]; rfl
theorem d_M_feed_246 : decode c_M_feed 246 = .ok (.iload 5, 2) := by decide +kernel
theorem e_M_feed_246 {a0 a1 a2 a3 a4 a6 a7 a8 a9 : Option Value} : q_M_feed S (f + 1) 246 [a0, a1, a2, a3, a4, some (.int x), a6, a7, a8, a9] st h = (q_M_feed S f 248 [a0, a1, a2, a3, a4, some (.int x), a6, a7, a8, a9] (.int x :: st) h) := by rw [q_M_feed, hz_w_at d_M_feed_246]; rfl
theorem d_M_feed_248 : decode c_M_feed 248 = .ok (.iload 8, 2) := by decide +kernel
theorem e_M_feed_248 {a0 a1 a2 a3 a4 a5 a6 a7 a9 : Option Value} : q_M_feed S (f + 1) 248 [a0, a1, a2, a3, a4, a5, a6, a7, some (.int x), a9] st h = (q_M_feed S f 250 [a0, a1, a2, a3, a4, a5, a6, a7, some (.int x), a9] (.int x :: st) h) := by rw [q_M_feed, hz_w_at d_M_feed_248]; rfl
theorem d_M_feed_250 : decode c_M_feed 250 = .ok (.invokevirtual 196, 3) := by decide +kernel
theorem e_M_feed_250 : q_M_feed S (f + 1) 250 L st h = (S 250 L st h) := by rw [q_M_feed, hz_w_at d_M_feed_250]; rfl
theorem d_M_feed_253 : decode c_M_feed 253 = .ok (.return_, 1) := by decide +kernel
theorem e_M_feed_253 : q_M_feed S (f + 1) 253 L st h = (S 253 L st h) := by rw [q_M_feed, hz_w_at d_M_feed_253]; rfl
end
abbrev q_M_extend (S : Nat → List (Option Value) → List Value → hz_H → Prop) := hz_w zCl zKT f_M n_M c_M_extend [96, 135] S
section
variable {S : Nat → List (Option Value) → List Value → hz_H → Prop} {f : Nat} {L : List (Option Value)} {st : List Value} {h : hz_H} {x y : Int32} {i j : Nat} {X Y : Int64}
theorem d_M_extend_0 : decode c_M_extend 0 = .ok (.iload_n 1, 1) := by decide +kernel
theorem e_M_extend_0 {a0 a2 a3 a4 a5 a6 a7 a8 : Option Value} : q_M_extend S (f + 1) 0 [a0, some (.int x), a2, a3, a4, a5, a6, a7, a8] st h = (q_M_extend S f 1 [a0, some (.int x), a2, a3, a4, a5, a6, a7, a8] (.int x :: st) h) := by rw [q_M_extend, hz_w_at d_M_extend_0]; rfl
theorem d_M_extend_1 : decode c_M_extend 1 = .ok (.ifCond .ge 9, 3) := by decide +kernel
theorem e_M_extend_1 : q_M_extend S (f + 1) 1 L (.int x :: st) h = ((0 ≤ x.toInt → q_M_extend S f 10 L st h) ∧ (¬ (0 ≤ x.toInt) → q_M_extend S f 4 L st h)) := by rw [q_M_extend, hz_w_at d_M_extend_1]; rfl
theorem d_M_extend_4 : decode c_M_extend 4 = .ok (.iconst (-1), 1) := by decide +kernel
theorem e_M_extend_4 : q_M_extend S (f + 1) 4 L st h = (q_M_extend S f 5 L (.int (hz_n (-1)) :: st) h) := by rw [q_M_extend, hz_w_at d_M_extend_4]; rfl
theorem d_M_extend_5 : decode c_M_extend 5 = .ok (.iload_n 1, 1) := by decide +kernel
theorem e_M_extend_5 {a0 a2 a3 a4 a5 a6 a7 a8 : Option Value} : q_M_extend S (f + 1) 5 [a0, some (.int x), a2, a3, a4, a5, a6, a7, a8] st h = (q_M_extend S f 6 [a0, some (.int x), a2, a3, a4, a5, a6, a7, a8] (.int x :: st) h) := by rw [q_M_extend, hz_w_at d_M_extend_5]; rfl
theorem d_M_extend_6 : decode c_M_extend 6 = .ok (.isub, 1) := by decide +kernel
theorem e_M_extend_6 : q_M_extend S (f + 1) 6 L (.int y :: .int x :: st) h = (q_M_extend S f 7 L (.int (x - y) :: st) h) := by rw [q_M_extend, hz_w_at d_M_extend_6]; rfl
theorem d_M_extend_7 : decode c_M_extend 7 = .ok (.goto 9, 3) := by decide +kernel
theorem e_M_extend_7 : q_M_extend S (f + 1) 7 L st h = (q_M_extend S f 16 L st h) := by rw [q_M_extend, hz_w_at d_M_extend_7]; rfl
theorem d_M_extend_10 : decode c_M_extend 10 = .ok (.aload_n 0, 1) := by decide +kernel
theorem e_M_extend_10 {a1 a2 a3 a4 a5 a6 a7 a8 : Option Value} : q_M_extend S (f + 1) 10 [some (.ref i), a1, a2, a3, a4, a5, a6, a7, a8] st h = (q_M_extend S f 11 [some (.ref i), a1, a2, a3, a4, a5, a6, a7, a8] (.ref i :: st) h) := by rw [q_M_extend, hz_w_at d_M_extend_10]; rfl
theorem e_M_extend_10n {a1 a2 a3 a4 a5 a6 a7 a8 : Option Value} : q_M_extend S (f + 1) 10 [some .null, a1, a2, a3, a4, a5, a6, a7, a8] st h = (q_M_extend S f 11 [some .null, a1, a2, a3, a4, a5, a6, a7, a8] (.null :: st) h) := by rw [q_M_extend, hz_w_at d_M_extend_10]; rfl
theorem d_M_extend_11 : decode c_M_extend 11 = .ok (.getfield 62, 3) := by decide +kernel
theorem e_M_extend_11 : q_M_extend S (f + 1) 11 L (.ref i :: st) h = (hz_rd h i 5 24 fun v => q_M_extend S f 14 L (v :: st) h) := by rw [q_M_extend, hz_w_at d_M_extend_11]; rfl
theorem d_M_extend_14 : decode c_M_extend 14 = .ok (.iload_n 1, 1) := by decide +kernel
theorem e_M_extend_14 {a0 a2 a3 a4 a5 a6 a7 a8 : Option Value} : q_M_extend S (f + 1) 14 [a0, some (.int x), a2, a3, a4, a5, a6, a7, a8] st h = (q_M_extend S f 15 [a0, some (.int x), a2, a3, a4, a5, a6, a7, a8] (.int x :: st) h) := by rw [q_M_extend, hz_w_at d_M_extend_14]; rfl
theorem d_M_extend_15 : decode c_M_extend 15 = .ok (.iaload, 1) := by decide +kernel
theorem e_M_extend_15 : q_M_extend S (f + 1) 15 L (.int x :: .ref i :: st) h = (hz_ea zKT hz_kI h i x fun v => q_M_extend S f 16 L (v :: st) h) := by rw [q_M_extend, hz_w_at d_M_extend_15]; rfl
theorem d_M_extend_16 : decode c_M_extend 16 = .ok (.istore 5, 2) := by decide +kernel
theorem e_M_extend_16 {a0 a1 a2 a3 a4 a5 a6 a7 a8 : Option Value} : q_M_extend S (f + 1) 16 [a0, a1, a2, a3, a4, a5, a6, a7, a8] (.int x :: st) h = (q_M_extend S f 18 [a0, a1, a2, a3, a4, some (.int x), a6, a7, a8] st h) := by rw [q_M_extend, hz_w_at d_M_extend_16]; rfl
theorem d_M_extend_18 : decode c_M_extend 18 = .ok (.iload_n 1, 1) := by decide +kernel
theorem e_M_extend_18 {a0 a2 a3 a4 a5 a6 a7 a8 : Option Value} : q_M_extend S (f + 1) 18 [a0, some (.int x), a2, a3, a4, a5, a6, a7, a8] st h = (q_M_extend S f 19 [a0, some (.int x), a2, a3, a4, a5, a6, a7, a8] (.int x :: st) h) := by rw [q_M_extend, hz_w_at d_M_extend_18]; rfl
theorem d_M_extend_19 : decode c_M_extend 19 = .ok (.ifCond .ge 7, 3) := by decide +kernel
theorem e_M_extend_19 : q_M_extend S (f + 1) 19 L (.int x :: st) h = ((0 ≤ x.toInt → q_M_extend S f 26 L st h) ∧ (¬ (0 ≤ x.toInt) → q_M_extend S f 22 L st h)) := by rw [q_M_extend, hz_w_at d_M_extend_19]; rfl
theorem d_M_extend_22 : decode c_M_extend 22 = .ok (.iconst 0, 1) := by decide +kernel
theorem e_M_extend_22 : q_M_extend S (f + 1) 22 L st h = (q_M_extend S f 23 L (.int (hz_n 0) :: st) h) := by rw [q_M_extend, hz_w_at d_M_extend_22]; rfl
theorem d_M_extend_23 : decode c_M_extend 23 = .ok (.goto 11, 3) := by decide +kernel
theorem e_M_extend_23 : q_M_extend S (f + 1) 23 L st h = (q_M_extend S f 34 L st h) := by rw [q_M_extend, hz_w_at d_M_extend_23]; rfl
theorem d_M_extend_26 : decode c_M_extend 26 = .ok (.aload_n 0, 1) := by decide +kernel
theorem e_M_extend_26 {a1 a2 a3 a4 a5 a6 a7 a8 : Option Value} : q_M_extend S (f + 1) 26 [some (.ref i), a1, a2, a3, a4, a5, a6, a7, a8] st h = (q_M_extend S f 27 [some (.ref i), a1, a2, a3, a4, a5, a6, a7, a8] (.ref i :: st) h) := by rw [q_M_extend, hz_w_at d_M_extend_26]; rfl
theorem e_M_extend_26n {a1 a2 a3 a4 a5 a6 a7 a8 : Option Value} : q_M_extend S (f + 1) 26 [some .null, a1, a2, a3, a4, a5, a6, a7, a8] st h = (q_M_extend S f 27 [some .null, a1, a2, a3, a4, a5, a6, a7, a8] (.null :: st) h) := by rw [q_M_extend, hz_w_at d_M_extend_26]; rfl
theorem d_M_extend_27 : decode c_M_extend 27 = .ok (.getfield 62, 3) := by decide +kernel
theorem e_M_extend_27 : q_M_extend S (f + 1) 27 L (.ref i :: st) h = (hz_rd h i 5 24 fun v => q_M_extend S f 30 L (v :: st) h) := by rw [q_M_extend, hz_w_at d_M_extend_27]; rfl
theorem d_M_extend_30 : decode c_M_extend 30 = .ok (.iload_n 1, 1) := by decide +kernel
theorem e_M_extend_30 {a0 a2 a3 a4 a5 a6 a7 a8 : Option Value} : q_M_extend S (f + 1) 30 [a0, some (.int x), a2, a3, a4, a5, a6, a7, a8] st h = (q_M_extend S f 31 [a0, some (.int x), a2, a3, a4, a5, a6, a7, a8] (.int x :: st) h) := by rw [q_M_extend, hz_w_at d_M_extend_30]; rfl
theorem d_M_extend_31 : decode c_M_extend 31 = .ok (.iconst 1, 1) := by decide +kernel
theorem e_M_extend_31 : q_M_extend S (f + 1) 31 L st h = (q_M_extend S f 32 L (.int (hz_n 1) :: st) h) := by rw [q_M_extend, hz_w_at d_M_extend_31]; rfl
theorem d_M_extend_32 : decode c_M_extend 32 = .ok (.iadd, 1) := by decide +kernel
theorem e_M_extend_32 : q_M_extend S (f + 1) 32 L (.int y :: .int x :: st) h = (q_M_extend S f 33 L (.int (x + y) :: st) h) := by rw [q_M_extend, hz_w_at d_M_extend_32]; rfl
theorem d_M_extend_33 : decode c_M_extend 33 = .ok (.iaload, 1) := by decide +kernel
theorem e_M_extend_33 : q_M_extend S (f + 1) 33 L (.int x :: .ref i :: st) h = (hz_ea zKT hz_kI h i x fun v => q_M_extend S f 34 L (v :: st) h) := by rw [q_M_extend, hz_w_at d_M_extend_33]; rfl
theorem d_M_extend_34 : decode c_M_extend 34 = .ok (.istore 6, 2) := by decide +kernel
theorem e_M_extend_34 {a0 a1 a2 a3 a4 a5 a6 a7 a8 : Option Value} : q_M_extend S (f + 1) 34 [a0, a1, a2, a3, a4, a5, a6, a7, a8] (.int x :: st) h = (q_M_extend S f 36 [a0, a1, a2, a3, a4, a5, some (.int x), a7, a8] st h) := by rw [q_M_extend, hz_w_at d_M_extend_34]; rfl
theorem d_M_extend_36 : decode c_M_extend 36 = .ok (.aload_n 0, 1) := by decide +kernel
theorem e_M_extend_36 {a1 a2 a3 a4 a5 a6 a7 a8 : Option Value} : q_M_extend S (f + 1) 36 [some (.ref i), a1, a2, a3, a4, a5, a6, a7, a8] st h = (q_M_extend S f 37 [some (.ref i), a1, a2, a3, a4, a5, a6, a7, a8] (.ref i :: st) h) := by rw [q_M_extend, hz_w_at d_M_extend_36]; rfl
theorem e_M_extend_36n {a1 a2 a3 a4 a5 a6 a7 a8 : Option Value} : q_M_extend S (f + 1) 36 [some .null, a1, a2, a3, a4, a5, a6, a7, a8] st h = (q_M_extend S f 37 [some .null, a1, a2, a3, a4, a5, a6, a7, a8] (.null :: st) h) := by rw [q_M_extend, hz_w_at d_M_extend_36]; rfl
theorem d_M_extend_37 : decode c_M_extend 37 = .ok (.getfield 153, 3) := by decide +kernel
theorem e_M_extend_37 : q_M_extend S (f + 1) 37 L (.ref i :: st) h = (hz_rd h i 5 23 fun v => q_M_extend S f 40 L (v :: st) h) := by rw [q_M_extend, hz_w_at d_M_extend_37]; rfl
theorem d_M_extend_40 : decode c_M_extend 40 = .ok (.istore 7, 2) := by decide +kernel
theorem e_M_extend_40 {a0 a1 a2 a3 a4 a5 a6 a7 a8 : Option Value} : q_M_extend S (f + 1) 40 [a0, a1, a2, a3, a4, a5, a6, a7, a8] (.int x :: st) h = (q_M_extend S f 42 [a0, a1, a2, a3, a4, a5, a6, some (.int x), a8] st h) := by rw [q_M_extend, hz_w_at d_M_extend_40]; rfl
theorem d_M_extend_42 : decode c_M_extend 42 = .ok (.aload_n 0, 1) := by decide +kernel
theorem e_M_extend_42 {a1 a2 a3 a4 a5 a6 a7 a8 : Option Value} : q_M_extend S (f + 1) 42 [some (.ref i), a1, a2, a3, a4, a5, a6, a7, a8] st h = (q_M_extend S f 43 [some (.ref i), a1, a2, a3, a4, a5, a6, a7, a8] (.ref i :: st) h) := by rw [q_M_extend, hz_w_at d_M_extend_42]; rfl
theorem e_M_extend_42n {a1 a2 a3 a4 a5 a6 a7 a8 : Option Value} : q_M_extend S (f + 1) 42 [some .null, a1, a2, a3, a4, a5, a6, a7, a8] st h = (q_M_extend S f 43 [some .null, a1, a2, a3, a4, a5, a6, a7, a8] (.null :: st) h) := by rw [q_M_extend, hz_w_at d_M_extend_42]; rfl
theorem d_M_extend_43 : decode c_M_extend 43 = .ok (.aload_n 0, 1) := by decide +kernel
theorem e_M_extend_43 {a1 a2 a3 a4 a5 a6 a7 a8 : Option Value} : q_M_extend S (f + 1) 43 [some (.ref i), a1, a2, a3, a4, a5, a6, a7, a8] st h = (q_M_extend S f 44 [some (.ref i), a1, a2, a3, a4, a5, a6, a7, a8] (.ref i :: st) h) := by rw [q_M_extend, hz_w_at d_M_extend_43]; rfl
theorem e_M_extend_43n {a1 a2 a3 a4 a5 a6 a7 a8 : Option Value} : q_M_extend S (f + 1) 43 [some .null, a1, a2, a3, a4, a5, a6, a7, a8] st h = (q_M_extend S f 44 [some .null, a1, a2, a3, a4, a5, a6, a7, a8] (.null :: st) h) := by rw [q_M_extend, hz_w_at d_M_extend_43]; rfl
theorem d_M_extend_44 : decode c_M_extend 44 = .ok (.getfield 153, 3) := by decide +kernel
theorem e_M_extend_44 : q_M_extend S (f + 1) 44 L (.ref i :: st) h = (hz_rd h i 5 23 fun v => q_M_extend S f 47 L (v :: st) h) := by rw [q_M_extend, hz_w_at d_M_extend_44]; rfl
theorem d_M_extend_47 : decode c_M_extend 47 = .ok (.iconst 2, 1) := by decide +kernel
theorem e_M_extend_47 : q_M_extend S (f + 1) 47 L st h = (q_M_extend S f 48 L (.int (hz_n 2) :: st) h) := by rw [q_M_extend, hz_w_at d_M_extend_47]; rfl
theorem d_M_extend_48 : decode c_M_extend 48 = .ok (.iadd, 1) := by decide +kernel
theorem e_M_extend_48 : q_M_extend S (f + 1) 48 L (.int y :: .int x :: st) h = (q_M_extend S f 49 L (.int (x + y) :: st) h) := by rw [q_M_extend, hz_w_at d_M_extend_48]; rfl
theorem d_M_extend_49 : decode c_M_extend 49 = .ok (.iload 6, 2) := by decide +kernel
theorem e_M_extend_49 {a0 a1 a2 a3 a4 a5 a7 a8 : Option Value} : q_M_extend S (f + 1) 49 [a0, a1, a2, a3, a4, a5, some (.int x), a7, a8] st h = (q_M_extend S f 51 [a0, a1, a2, a3, a4, a5, some (.int x), a7, a8] (.int x :: st) h) := by rw [q_M_extend, hz_w_at d_M_extend_49]; rfl
theorem d_M_extend_51 : decode c_M_extend 51 = .ok (.iadd, 1) := by decide +kernel
theorem e_M_extend_51 : q_M_extend S (f + 1) 51 L (.int y :: .int x :: st) h = (q_M_extend S f 52 L (.int (x + y) :: st) h) := by rw [q_M_extend, hz_w_at d_M_extend_51]; rfl
theorem d_M_extend_52 : decode c_M_extend 52 = .ok (.aload_n 0, 1) := by decide +kernel
theorem e_M_extend_52 {a1 a2 a3 a4 a5 a6 a7 a8 : Option Value} : q_M_extend S (f + 1) 52 [some (.ref i), a1, a2, a3, a4, a5, a6, a7, a8] st h = (q_M_extend S f 53 [some (.ref i), a1, a2, a3, a4, a5, a6, a7, a8] (.ref i :: st) h) := by rw [q_M_extend, hz_w_at d_M_extend_52]; rfl
theorem e_M_extend_52n {a1 a2 a3 a4 a5 a6 a7 a8 : Option Value} : q_M_extend S (f + 1) 52 [some .null, a1, a2, a3, a4, a5, a6, a7, a8] st h = (q_M_extend S f 53 [some .null, a1, a2, a3, a4, a5, a6, a7, a8] (.null :: st) h) := by rw [q_M_extend, hz_w_at d_M_extend_52]; rfl
theorem d_M_extend_53 : decode c_M_extend 53 = .ok (.getfield 32, 3) := by decide +kernel
theorem e_M_extend_53 : q_M_extend S (f + 1) 53 L (.ref i :: st) h = (hz_rd h i 5 10 fun v => q_M_extend S f 56 L (v :: st) h) := by rw [q_M_extend, hz_w_at d_M_extend_53]; rfl
theorem d_M_extend_56 : decode c_M_extend 56 = .ok (.iload_n 2, 1) := by decide +kernel
theorem e_M_extend_56 {a0 a1 a3 a4 a5 a6 a7 a8 : Option Value} : q_M_extend S (f + 1) 56 [a0, a1, some (.int x), a3, a4, a5, a6, a7, a8] st h = (q_M_extend S f 57 [a0, a1, some (.int x), a3, a4, a5, a6, a7, a8] (.int x :: st) h) := by rw [q_M_extend, hz_w_at d_M_extend_56]; rfl
theorem d_M_extend_57 : decode c_M_extend 57 = .ok (.iaload, 1) := by decide +kernel
theorem e_M_extend_57 : q_M_extend S (f + 1) 57 L (.int x :: .ref i :: st) h = (hz_ea zKT hz_kI h i x fun v => q_M_extend S f 58 L (v :: st) h) := by rw [q_M_extend, hz_w_at d_M_extend_57]; rfl
theorem d_M_extend_58 : decode c_M_extend 58 = .ok (.iadd, 1) := by decide +kernel
theorem e_M_extend_58 : q_M_extend S (f + 1) 58 L (.int y :: .int x :: st) h = (q_M_extend S f 59 L (.int (x + y) :: st) h) := by rw [q_M_extend, hz_w_at d_M_extend_58]; rfl
theorem d_M_extend_59 : decode c_M_extend 59 = .ok (.iload_n 3, 1) := by decide +kernel
theorem e_M_extend_59 {a0 a1 a2 a4 a5 a6 a7 a8 : Option Value} : q_M_extend S (f + 1) 59 [a0, a1, a2, some (.int x), a4, a5, a6, a7, a8] st h = (q_M_extend S f 60 [a0, a1, a2, some (.int x), a4, a5, a6, a7, a8] (.int x :: st) h) := by rw [q_M_extend, hz_w_at d_M_extend_59]; rfl
theorem d_M_extend_60 : decode c_M_extend 60 = .ok (.isub, 1) := by decide +kernel
theorem e_M_extend_60 : q_M_extend S (f + 1) 60 L (.int y :: .int x :: st) h = (q_M_extend S f 61 L (.int (x - y) :: st) h) := by rw [q_M_extend, hz_w_at d_M_extend_60]; rfl
theorem d_M_extend_61 : decode c_M_extend 61 = .ok (.putfield 153, 3) := by decide +kernel
theorem e_M_extend_61 : q_M_extend S (f + 1) 61 L (.int x :: .ref i :: st) h = (hz_wr h i 5 23 (.int x) fun h => q_M_extend S f 64 L st h) := by rw [q_M_extend, hz_w_at d_M_extend_61]; rfl
theorem d_M_extend_64 : decode c_M_extend 64 = .ok (.aload_n 0, 1) := by decide +kernel
theorem e_M_extend_64 {a1 a2 a3 a4 a5 a6 a7 a8 : Option Value} : q_M_extend S (f + 1) 64 [some (.ref i), a1, a2, a3, a4, a5, a6, a7, a8] st h = (q_M_extend S f 65 [some (.ref i), a1, a2, a3, a4, a5, a6, a7, a8] (.ref i :: st) h) := by rw [q_M_extend, hz_w_at d_M_extend_64]; rfl
theorem e_M_extend_64n {a1 a2 a3 a4 a5 a6 a7 a8 : Option Value} : q_M_extend S (f + 1) 64 [some .null, a1, a2, a3, a4, a5, a6, a7, a8] st h = (q_M_extend S f 65 [some .null, a1, a2, a3, a4, a5, a6, a7, a8] (.null :: st) h) := by rw [q_M_extend, hz_w_at d_M_extend_64]; rfl
theorem d_M_extend_65 : decode c_M_extend 65 = .ok (.getfield 62, 3) := by decide +kernel
theorem e_M_extend_65 : q_M_extend S (f + 1) 65 L (.ref i :: st) h = (hz_rd h i 5 24 fun v => q_M_extend S f 68 L (v :: st) h) := by rw [q_M_extend, hz_w_at d_M_extend_65]; rfl
theorem d_M_extend_68 : decode c_M_extend 68 = .ok (.iload 7, 2) := by decide +kernel
theorem e_M_extend_68 {a0 a1 a2 a3 a4 a5 a6 a8 : Option Value} : q_M_extend S (f + 1) 68 [a0, a1, a2, a3, a4, a5, a6, some (.int x), a8] st h = (q_M_extend S f 70 [a0, a1, a2, a3, a4, a5, a6, some (.int x), a8] (.int x :: st) h) := by rw [q_M_extend, hz_w_at d_M_extend_68]; rfl
theorem d_M_extend_70 : decode c_M_extend 70 = .ok (.iload 5, 2) := by decide +kernel
theorem e_M_extend_70 {a0 a1 a2 a3 a4 a6 a7 a8 : Option Value} : q_M_extend S (f + 1) 70 [a0, a1, a2, a3, a4, some (.int x), a6, a7, a8] st h = (q_M_extend S f 72 [a0, a1, a2, a3, a4, some (.int x), a6, a7, a8] (.int x :: st) h) := by rw [q_M_extend, hz_w_at d_M_extend_70]; rfl
theorem d_M_extend_72 : decode c_M_extend 72 = .ok (.iastore, 1) := by decide +kernel
theorem e_M_extend_72 : q_M_extend S (f + 1) 72 L (.int y :: .int x :: .ref i :: st) h = (hz_es zKT hz_kI h i x (.int y) fun h => q_M_extend S f 73 L st h) := by rw [q_M_extend, hz_w_at d_M_extend_72]; rfl
theorem d_M_extend_73 : decode c_M_extend 73 = .ok (.aload_n 0, 1) := by decide +kernel
theorem e_M_extend_73 {a1 a2 a3 a4 a5 a6 a7 a8 : Option Value} : q_M_extend S (f + 1) 73 [some (.ref i), a1, a2, a3, a4, a5, a6, a7, a8] st h = (q_M_extend S f 74 [some (.ref i), a1, a2, a3, a4, a5, a6, a7, a8] (.ref i :: st) h) := by rw [q_M_extend, hz_w_at d_M_extend_73]; rfl
theorem e_M_extend_73n {a1 a2 a3 a4 a5 a6 a7 a8 : Option Value} : q_M_extend S (f + 1) 73 [some .null, a1, a2, a3, a4, a5, a6, a7, a8] st h = (q_M_extend S f 74 [some .null, a1, a2, a3, a4, a5, a6, a7, a8] (.null :: st) h) := by rw [q_M_extend, hz_w_at d_M_extend_73]; rfl
theorem d_M_extend_74 : decode c_M_extend 74 = .ok (.getfield 62, 3) := by decide +kernel
theorem e_M_extend_74 : q_M_extend S (f + 1) 74 L (.ref i :: st) h = (hz_rd h i 5 24 fun v => q_M_extend S f 77 L (v :: st) h) := by rw [q_M_extend, hz_w_at d_M_extend_74]; rfl
theorem d_M_extend_77 : decode c_M_extend 77 = .ok (.iload 7, 2) := by decide +kernel
theorem e_M_extend_77 {a0 a1 a2 a3 a4 a5 a6 a8 : Option Value} : q_M_extend S (f + 1) 77 [a0, a1, a2, a3, a4, a5, a6, some (.int x), a8] st h = (q_M_extend S f 79 [a0, a1, a2, a3, a4, a5, a6, some (.int x), a8] (.int x :: st) h) := by rw [q_M_extend, hz_w_at d_M_extend_77]; rfl
theorem d_M_extend_79 : decode c_M_extend 79 = .ok (.iconst 1, 1) := by decide +kernel
theorem e_M_extend_79 : q_M_extend S (f + 1) 79 L st h = (q_M_extend S f 80 L (.int (hz_n 1) :: st) h) := by rw [q_M_extend, hz_w_at d_M_extend_79]; rfl
theorem d_M_extend_80 : decode c_M_extend 80 = .ok (.iadd, 1) := by decide +kernel
theorem e_M_extend_80 : q_M_extend S (f + 1) 80 L (.int y :: .int x :: st) h = (q_M_extend S f 81 L (.int (x + y) :: st) h) := by rw [q_M_extend, hz_w_at d_M_extend_80]; rfl
theorem d_M_extend_81 : decode c_M_extend 81 = .ok (.iload 6, 2) := by decide +kernel
theorem e_M_extend_81 {a0 a1 a2 a3 a4 a5 a7 a8 : Option Value} : q_M_extend S (f + 1) 81 [a0, a1, a2, a3, a4, a5, some (.int x), a7, a8] st h = (q_M_extend S f 83 [a0, a1, a2, a3, a4, a5, some (.int x), a7, a8] (.int x :: st) h) := by rw [q_M_extend, hz_w_at d_M_extend_81]; rfl
theorem d_M_extend_83 : decode c_M_extend 83 = .ok (.aload_n 0, 1) := by decide +kernel
theorem e_M_extend_83 {a1 a2 a3 a4 a5 a6 a7 a8 : Option Value} : q_M_extend S (f + 1) 83 [some (.ref i), a1, a2, a3, a4, a5, a6, a7, a8] st h = (q_M_extend S f 84 [some (.ref i), a1, a2, a3, a4, a5, a6, a7, a8] (.ref i :: st) h) := by rw [q_M_extend, hz_w_at d_M_extend_83]; rfl
theorem e_M_extend_83n {a1 a2 a3 a4 a5 a6 a7 a8 : Option Value} : q_M_extend S (f + 1) 83 [some .null, a1, a2, a3, a4, a5, a6, a7, a8] st h = (q_M_extend S f 84 [some .null, a1, a2, a3, a4, a5, a6, a7, a8] (.null :: st) h) := by rw [q_M_extend, hz_w_at d_M_extend_83]; rfl
theorem d_M_extend_84 : decode c_M_extend 84 = .ok (.getfield 32, 3) := by decide +kernel
theorem e_M_extend_84 : q_M_extend S (f + 1) 84 L (.ref i :: st) h = (hz_rd h i 5 10 fun v => q_M_extend S f 87 L (v :: st) h) := by rw [q_M_extend, hz_w_at d_M_extend_84]; rfl
theorem d_M_extend_87 : decode c_M_extend 87 = .ok (.iload_n 2, 1) := by decide +kernel
theorem e_M_extend_87 {a0 a1 a3 a4 a5 a6 a7 a8 : Option Value} : q_M_extend S (f + 1) 87 [a0, a1, some (.int x), a3, a4, a5, a6, a7, a8] st h = (q_M_extend S f 88 [a0, a1, some (.int x), a3, a4, a5, a6, a7, a8] (.int x :: st) h) := by rw [q_M_extend, hz_w_at d_M_extend_87]; rfl
theorem d_M_extend_88 : decode c_M_extend 88 = .ok (.iaload, 1) := by decide +kernel
theorem e_M_extend_88 : q_M_extend S (f + 1) 88 L (.int x :: .ref i :: st) h = (hz_ea zKT hz_kI h i x fun v => q_M_extend S f 89 L (v :: st) h) := by rw [q_M_extend, hz_w_at d_M_extend_88]; rfl
theorem d_M_extend_89 : decode c_M_extend 89 = .ok (.iadd, 1) := by decide +kernel
theorem e_M_extend_89 : q_M_extend S (f + 1) 89 L (.int y :: .int x :: st) h = (q_M_extend S f 90 L (.int (x + y) :: st) h) := by rw [q_M_extend, hz_w_at d_M_extend_89]; rfl
theorem d_M_extend_90 : decode c_M_extend 90 = .ok (.iload_n 3, 1) := by decide +kernel
theorem e_M_extend_90 {a0 a1 a2 a4 a5 a6 a7 a8 : Option Value} : q_M_extend S (f + 1) 90 [a0, a1, a2, some (.int x), a4, a5, a6, a7, a8] st h = (q_M_extend S f 91 [a0, a1, a2, some (.int x), a4, a5, a6, a7, a8] (.int x :: st) h) := by rw [q_M_extend, hz_w_at d_M_extend_90]; rfl
theorem d_M_extend_91 : decode c_M_extend 91 = .ok (.isub, 1) := by decide +kernel
theorem e_M_extend_91 : q_M_extend S (f + 1) 91 L (.int y :: .int x :: st) h = (q_M_extend S f 92 L (.int (x - y) :: st) h) := by rw [q_M_extend, hz_w_at d_M_extend_91]; rfl
theorem d_M_extend_92 : decode c_M_extend 92 = .ok (.iastore, 1) := by decide +kernel
theorem e_M_extend_92 : q_M_extend S (f + 1) 92 L (.int y :: .int x :: .ref i :: st) h = (hz_es zKT hz_kI h i x (.int y) fun h => q_M_extend S f 93 L st h) := by rw [q_M_extend, hz_w_at d_M_extend_92]; rfl
theorem d_M_extend_93 : decode c_M_extend 93 = .ok (.iconst 0, 1) := by decide +kernel
theorem e_M_extend_93 : q_M_extend S (f + 1) 93 L st h = (q_M_extend S f 94 L (.int (hz_n 0) :: st) h) := by rw [q_M_extend, hz_w_at d_M_extend_93]; rfl
theorem d_M_extend_94 : decode c_M_extend 94 = .ok (.istore 8, 2) := by decide +kernel
theorem e_M_extend_94 {a0 a1 a2 a3 a4 a5 a6 a7 a8 : Option Value} : q_M_extend S (f + 1) 94 [a0, a1, a2, a3, a4, a5, a6, a7, a8] (.int x :: st) h = (S 96 [a0, a1, a2, a3, a4, a5, a6, a7, some (.int x)] st h) := by rw [q_M_extend, hz_w_at d_M_extend_94]; rfl
theorem d_M_extend_96 : decode c_M_extend 96 = .ok (.iload 8, 2) := by decide +kernel
theorem e_M_extend_96 {a0 a1 a2 a3 a4 a5 a6 a7 : Option Value} : q_M_extend S (f + 1) 96 [a0, a1, a2, a3, a4, a5, a6, a7, some (.int x)] st h = (q_M_extend S f 98 [a0, a1, a2, a3, a4, a5, a6, a7, some (.int x)] (.int x :: st) h) := by rw [q_M_extend, hz_w_at d_M_extend_96]; rfl
theorem d_M_extend_98 : decode c_M_extend 98 = .ok (.iload 6, 2) := by decide +kernel
theorem e_M_extend_98 {a0 a1 a2 a3 a4 a5 a7 a8 : Option Value} : q_M_extend S (f + 1) 98 [a0, a1, a2, a3, a4, a5, some (.int x), a7, a8] st h = (q_M_extend S f 100 [a0, a1, a2, a3, a4, a5, some (.int x), a7, a8] (.int x :: st) h) := by rw [q_M_extend, hz_w_at d_M_extend_98]; rfl
theorem d_M_extend_100 : decode c_M_extend 100 = .ok (.if_icmp .ge 32, 3) := by decide +kernel
theorem e_M_extend_100 : q_M_extend S (f + 1) 100 L (.int y :: .int x :: st) h = ((y.toInt ≤ x.toInt → q_M_extend S f 132 L st h) ∧ (¬ (y.toInt ≤ x.toInt) → q_M_extend S f 103 L st h)) := by rw [q_M_extend, hz_w_at d_M_extend_100]; rfl
theorem d_M_extend_103 : decode c_M_extend 103 = .ok (.aload_n 0, 1) := by decide +kernel
theorem e_M_extend_103 {a1 a2 a3 a4 a5 a6 a7 a8 : Option Value} : q_M_extend S (f + 1) 103 [some (.ref i), a1, a2, a3, a4, a5, a6, a7, a8] st h = (q_M_extend S f 104 [some (.ref i), a1, a2, a3, a4, a5, a6, a7, a8] (.ref i :: st) h) := by rw [q_M_extend, hz_w_at d_M_extend_103]; rfl
theorem e_M_extend_103n {a1 a2 a3 a4 a5 a6 a7 a8 : Option Value} : q_M_extend S (f + 1) 103 [some .null, a1, a2, a3, a4, a5, a6, a7, a8] st h = (q_M_extend S f 104 [some .null, a1, a2, a3, a4, a5, a6, a7, a8] (.null :: st) h) := by rw [q_M_extend, hz_w_at d_M_extend_103]; rfl
theorem d_M_extend_104 : decode c_M_extend 104 = .ok (.getfield 62, 3) := by decide +kernel
theorem e_M_extend_104 : q_M_extend S (f + 1) 104 L (.ref i :: st) h = (hz_rd h i 5 24 fun v => q_M_extend S f 107 L (v :: st) h) := by rw [q_M_extend, hz_w_at d_M_extend_104]; rfl
theorem d_M_extend_107 : decode c_M_extend 107 = .ok (.iload 7, 2) := by decide +kernel
theorem e_M_extend_107 {a0 a1 a2 a3 a4 a5 a6 a8 : Option Value} : q_M_extend S (f + 1) 107 [a0, a1, a2, a3, a4, a5, a6, some (.int x), a8] st h = (q_M_extend S f 109 [a0, a1, a2, a3, a4, a5, a6, some (.int x), a8] (.int x :: st) h) := by rw [q_M_extend, hz_w_at d_M_extend_107]; rfl
theorem d_M_extend_109 : decode c_M_extend 109 = .ok (.iconst 2, 1) := by decide +kernel
theorem e_M_extend_109 : q_M_extend S (f + 1) 109 L st h = (q_M_extend S f 110 L (.int (hz_n 2) :: st) h) := by rw [q_M_extend, hz_w_at d_M_extend_109]; rfl
theorem d_M_extend_110 : decode c_M_extend 110 = .ok (.iadd, 1) := by decide +kernel
theorem e_M_extend_110 : q_M_extend S (f + 1) 110 L (.int y :: .int x :: st) h = (q_M_extend S f 111 L (.int (x + y) :: st) h) := by rw [q_M_extend, hz_w_at d_M_extend_110]; rfl
theorem d_M_extend_111 : decode c_M_extend 111 = .ok (.iload 8, 2) := by decide +kernel
theorem e_M_extend_111 {a0 a1 a2 a3 a4 a5 a6 a7 : Option Value} : q_M_extend S (f + 1) 111 [a0, a1, a2, a3, a4, a5, a6, a7, some (.int x)] st h = (q_M_extend S f 113 [a0, a1, a2, a3, a4, a5, a6, a7, some (.int x)] (.int x :: st) h) := by rw [q_M_extend, hz_w_at d_M_extend_111]; rfl
theorem d_M_extend_113 : decode c_M_extend 113 = .ok (.iadd, 1) := by decide +kernel
theorem e_M_extend_113 : q_M_extend S (f + 1) 113 L (.int y :: .int x :: st) h = (q_M_extend S f 114 L (.int (x + y) :: st) h) := by rw [q_M_extend, hz_w_at d_M_extend_113]; rfl
theorem d_M_extend_114 : decode c_M_extend 114 = .ok (.aload_n 0, 1) := by decide +kernel
theorem e_M_extend_114 {a1 a2 a3 a4 a5 a6 a7 a8 : Option Value} : q_M_extend S (f + 1) 114 [some (.ref i), a1, a2, a3, a4, a5, a6, a7, a8] st h = (q_M_extend S f 115 [some (.ref i), a1, a2, a3, a4, a5, a6, a7, a8] (.ref i :: st) h) := by rw [q_M_extend, hz_w_at d_M_extend_114]; rfl
theorem e_M_extend_114n {a1 a2 a3 a4 a5 a6 a7 a8 : Option Value} : q_M_extend S (f + 1) 114 [some .null, a1, a2, a3, a4, a5, a6, a7, a8] st h = (q_M_extend S f 115 [some .null, a1, a2, a3, a4, a5, a6, a7, a8] (.null :: st) h) := by rw [q_M_extend, hz_w_at d_M_extend_114]; rfl
theorem d_M_extend_115 : decode c_M_extend 115 = .ok (.getfield 62, 3) := by decide +kernel
theorem e_M_extend_115 : q_M_extend S (f + 1) 115 L (.ref i :: st) h = (hz_rd h i 5 24 fun v => q_M_extend S f 118 L (v :: st) h) := by rw [q_M_extend, hz_w_at d_M_extend_115]; rfl
theorem d_M_extend_118 : decode c_M_extend 118 = .ok (.iload_n 1, 1) := by decide +kernel
theorem e_M_extend_118 {a0 a2 a3 a4 a5 a6 a7 a8 : Option Value} : q_M_extend S (f + 1) 118 [a0, some (.int x), a2, a3, a4, a5, a6, a7, a8] st h = (q_M_extend S f 119 [a0, some (.int x), a2, a3, a4, a5, a6, a7, a8] (.int x :: st) h) := by rw [q_M_extend, hz_w_at d_M_extend_118]; rfl
theorem d_M_extend_119 : decode c_M_extend 119 = .ok (.iconst 2, 1) := by decide +kernel
theorem e_M_extend_119 : q_M_extend S (f + 1) 119 L st h = (q_M_extend S f 120 L (.int (hz_n 2) :: st) h) := by rw [q_M_extend, hz_w_at d_M_extend_119]; rfl
theorem d_M_extend_120 : decode c_M_extend 120 = .ok (.iadd, 1) := by decide +kernel
theorem e_M_extend_120 : q_M_extend S (f + 1) 120 L (.int y :: .int x :: st) h = (q_M_extend S f 121 L (.int (x + y) :: st) h) := by rw [q_M_extend, hz_w_at d_M_extend_120]; rfl
theorem d_M_extend_121 : decode c_M_extend 121 = .ok (.iload 8, 2) := by decide +kernel
theorem e_M_extend_121 {a0 a1 a2 a3 a4 a5 a6 a7 : Option Value} : q_M_extend S (f + 1) 121 [a0, a1, a2, a3, a4, a5, a6, a7, some (.int x)] st h = (q_M_extend S f 123 [a0, a1, a2, a3, a4, a5, a6, a7, some (.int x)] (.int x :: st) h) := by rw [q_M_extend, hz_w_at d_M_extend_121]; rfl
theorem d_M_extend_123 : decode c_M_extend 123 = .ok (.iadd, 1) := by decide +kernel
theorem e_M_extend_123 : q_M_extend S (f + 1) 123 L (.int y :: .int x :: st) h = (q_M_extend S f 124 L (.int (x + y) :: st) h) := by rw [q_M_extend, hz_w_at d_M_extend_123]; rfl
theorem d_M_extend_124 : decode c_M_extend 124 = .ok (.iaload, 1) := by decide +kernel
theorem e_M_extend_124 : q_M_extend S (f + 1) 124 L (.int x :: .ref i :: st) h = (hz_ea zKT hz_kI h i x fun v => q_M_extend S f 125 L (v :: st) h) := by rw [q_M_extend, hz_w_at d_M_extend_124]; rfl
theorem d_M_extend_125 : decode c_M_extend 125 = .ok (.iastore, 1) := by decide +kernel
theorem e_M_extend_125 : q_M_extend S (f + 1) 125 L (.int y :: .int x :: .ref i :: st) h = (hz_es zKT hz_kI h i x (.int y) fun h => q_M_extend S f 126 L st h) := by rw [q_M_extend, hz_w_at d_M_extend_125]; rfl
theorem d_M_extend_126 : decode c_M_extend 126 = .ok (.iinc 8 1, 3) := by decide +kernel
theorem e_M_extend_126 {a0 a1 a2 a3 a4 a5 a6 a7 : Option Value} : q_M_extend S (f + 1) 126 [a0, a1, a2, a3, a4, a5, a6, a7, some (.int x)] st h = (q_M_extend S f 129 [a0, a1, a2, a3, a4, a5, a6, a7, some (.int (x + hz_n 1))] st h) := by rw [q_M_extend, hz_w_at d_M_extend_126]; rfl
theorem d_M_extend_129 : decode c_M_extend 129 = .ok (.goto (-33), 3) := by decide +kernel
theorem e_M_extend_129 : q_M_extend S (f + 1) 129 L st h = (S 96 L st h) := by rw [q_M_extend, hz_w_at d_M_extend_129]; rfl
theorem d_M_extend_132 : decode c_M_extend 132 = .ok (.iload_n 3, 1) := by decide +kernel
theorem e_M_extend_132 {a0 a1 a2 a4 a5 a6 a7 a8 : Option Value} : q_M_extend S (f + 1) 132 [a0, a1, a2, some (.int x), a4, a5, a6, a7, a8] st h = (q_M_extend S f 133 [a0, a1, a2, some (.int x), a4, a5, a6, a7, a8] (.int x :: st) h) := by rw [q_M_extend, hz_w_at d_M_extend_132]; rfl
theorem d_M_extend_133 : decode c_M_extend 133 = .ok (.istore 8, 2) := by decide +kernel
theorem e_M_extend_133 {a0 a1 a2 a3 a4 a5 a6 a7 a8 : Option Value} : q_M_extend S (f + 1) 133 [a0, a1, a2, a3, a4, a5, a6, a7, a8] (.int x :: st) h = (S 135 [a0, a1, a2, a3, a4, a5, a6, a7, some (.int x)] st h) := by rw [q_M_extend, hz_w_at d_M_extend_133]; rfl
theorem d_M_extend_135 : decode c_M_extend 135 = .ok (.iload 8, 2) := by decide +kernel
theorem e_M_extend_135 {a0 a1 a2 a3 a4 a5 a6 a7 : Option Value} : q_M_extend S (f + 1) 135 [a0, a1, a2, a3, a4, a5, a6, a7, some (.int x)] st h = (q_M_extend S f 137 [a0, a1, a2, a3, a4, a5, a6, a7, some (.int x)] (.int x :: st) h) := by rw [q_M_extend, hz_w_at d_M_extend_135]; rfl
theorem d_M_extend_137 : decode c_M_extend 137 = .ok (.aload_n 0, 1) := by decide +kernel
theorem e_M_extend_137 {a1 a2 a3 a4 a5 a6 a7 a8 : Option Value} : q_M_extend S (f + 1) 137 [some (.ref i), a1, a2, a3, a4, a5, a6, a7, a8] st h = (q_M_extend S f 138 [some (.ref i), a1, a2, a3, a4, a5, a6, a7, a8] (.ref i :: st) h) := by rw [q_M_extend, hz_w_at d_M_extend_137]; rfl
theorem e_M_extend_137n {a1 a2 a3 a4 a5 a6 a7 a8 : Option Value} : q_M_extend S (f + 1) 137 [some .null, a1, a2, a3, a4, a5, a6, a7, a8] st h = (q_M_extend S f 138 [some .null, a1, a2, a3, a4, a5, a6, a7, a8] (.null :: st) h) := by rw [q_M_extend, hz_w_at d_M_extend_137]; rfl
theorem d_M_extend_138 : decode c_M_extend 138 = .ok (.getfield 32, 3) := by decide +kernel
theorem e_M_extend_138 : q_M_extend S (f + 1) 138 L (.ref i :: st) h = (hz_rd h i 5 10 fun v => q_M_extend S f 141 L (v :: st) h) := by rw [q_M_extend, hz_w_at d_M_extend_138]; rfl
theorem d_M_extend_141 : decode c_M_extend 141 = .ok (.iload_n 2, 1) := by decide +kernel
theorem e_M_extend_141 {a0 a1 a3 a4 a5 a6 a7 a8 : Option Value} : q_M_extend S (f + 1) 141 [a0, a1, some (.int x), a3, a4, a5, a6, a7, a8] st h = (q_M_extend S f 142 [a0, a1, some (.int x), a3, a4, a5, a6, a7, a8] (.int x :: st) h) := by rw [q_M_extend, hz_w_at d_M_extend_141]; rfl
theorem d_M_extend_142 : decode c_M_extend 142 = .ok (.iaload, 1) := by decide +kernel
theorem e_M_extend_142 : q_M_extend S (f + 1) 142 L (.int x :: .ref i :: st) h = (hz_ea zKT hz_kI h i x fun v => q_M_extend S f 143 L (v :: st) h) := by rw [q_M_extend, hz_w_at d_M_extend_142]; rfl
theorem d_M_extend_143 : decode c_M_extend 143 = .ok (.if_icmp .ge 41, 3) := by decide +kernel
theorem e_M_extend_143 : q_M_extend S (f + 1) 143 L (.int y :: .int x :: st) h = ((y.toInt ≤ x.toInt → q_M_extend S f 184 L st h) ∧ (¬ (y.toInt ≤ x.toInt) → q_M_extend S f 146 L st h)) := by rw [q_M_extend, hz_w_at d_M_extend_143]; rfl
theorem d_M_extend_146 : decode c_M_extend 146 = .ok (.aload_n 0, 1) := by decide +kernel
theorem e_M_extend_146 {a1 a2 a3 a4 a5 a6 a7 a8 : Option Value} : q_M_extend S (f + 1) 146 [some (.ref i), a1, a2, a3, a4, a5, a6, a7, a8] st h = (q_M_extend S f 147 [some (.ref i), a1, a2, a3, a4, a5, a6, a7, a8] (.ref i :: st) h) := by rw [q_M_extend, hz_w_at d_M_extend_146]; rfl
theorem e_M_extend_146n {a1 a2 a3 a4 a5 a6 a7 a8 : Option Value} : q_M_extend S (f + 1) 146 [some .null, a1, a2, a3, a4, a5, a6, a7, a8] st h = (q_M_extend S f 147 [some .null, a1, a2, a3, a4, a5, a6, a7, a8] (.null :: st) h) := by rw [q_M_extend, hz_w_at d_M_extend_146]; rfl
theorem d_M_extend_147 : decode c_M_extend 147 = .ok (.getfield 62, 3) := by decide +kernel
theorem e_M_extend_147 : q_M_extend S (f + 1) 147 L (.ref i :: st) h = (hz_rd h i 5 24 fun v => q_M_extend S f 150 L (v :: st) h) := by rw [q_M_extend, hz_w_at d_M_extend_147]; rfl
theorem d_M_extend_150 : decode c_M_extend 150 = .ok (.iload 7, 2) := by decide +kernel
theorem e_M_extend_150 {a0 a1 a2 a3 a4 a5 a6 a8 : Option Value} : q_M_extend S (f + 1) 150 [a0, a1, a2, a3, a4, a5, a6, some (.int x), a8] st h = (q_M_extend S f 152 [a0, a1, a2, a3, a4, a5, a6, some (.int x), a8] (.int x :: st) h) := by rw [q_M_extend, hz_w_at d_M_extend_150]; rfl
theorem d_M_extend_152 : decode c_M_extend 152 = .ok (.iconst 2, 1) := by decide +kernel
theorem e_M_extend_152 : q_M_extend S (f + 1) 152 L st h = (q_M_extend S f 153 L (.int (hz_n 2) :: st) h) := by rw [q_M_extend, hz_w_at d_M_extend_152]; rfl
theorem d_M_extend_153 : decode c_M_extend 153 = .ok (.iadd, 1) := by decide +kernel
theorem e_M_extend_153 : q_M_extend S (f + 1) 153 L (.int y :: .int x :: st) h = (q_M_extend S f 154 L (.int (x + y) :: st) h) := by rw [q_M_extend, hz_w_at d_M_extend_153]; rfl
theorem d_M_extend_154 : decode c_M_extend 154 = .ok (.iload 6, 2) := by decide +kernel
theorem e_M_extend_154 {a0 a1 a2 a3 a4 a5 a7 a8 : Option Value} : q_M_extend S (f + 1) 154 [a0, a1, a2, a3, a4, a5, some (.int x), a7, a8] st h = (q_M_extend S f 156 [a0, a1, a2, a3, a4, a5, some (.int x), a7, a8] (.int x :: st) h) := by rw [q_M_extend, hz_w_at d_M_extend_154]; rfl
theorem d_M_extend_156 : decode c_M_extend 156 = .ok (.iadd, 1) := by decide +kernel
theorem e_M_extend_156 : q_M_extend S (f + 1) 156 L (.int y :: .int x :: st) h = (q_M_extend S f 157 L (.int (x + y) :: st) h) := by rw [q_M_extend, hz_w_at d_M_extend_156]; rfl
theorem d_M_extend_157 : decode c_M_extend 157 = .ok (.iload 8, 2) := by decide +kernel
theorem e_M_extend_157 {a0 a1 a2 a3 a4 a5 a6 a7 : Option Value} : q_M_extend S (f + 1) 157 [a0, a1, a2, a3, a4, a5, a6, a7, some (.int x)] st h = (q_M_extend S f 159 [a0, a1, a2, a3, a4, a5, a6, a7, some (.int x)] (.int x :: st) h) := by rw [q_M_extend, hz_w_at d_M_extend_157]; rfl
theorem d_M_extend_159 : decode c_M_extend 159 = .ok (.iadd, 1) := by decide +kernel
theorem e_M_extend_159 : q_M_extend S (f + 1) 159 L (.int y :: .int x :: st) h = (q_M_extend S f 160 L (.int (x + y) :: st) h) := by rw [q_M_extend, hz_w_at d_M_extend_159]; rfl
theorem d_M_extend_160 : decode c_M_extend 160 = .ok (.iload_n 3, 1) := by decide +kernel
theorem e_M_extend_160 {a0 a1 a2 a4 a5 a6 a7 a8 : Option Value} : q_M_extend S (f + 1) 160 [a0, a1, a2, some (.int x), a4, a5, a6, a7, a8] st h = (q_M_extend S f 161 [a0, a1, a2, some (.int x), a4, a5, a6, a7, a8] (.int x :: st) h) := by rw [q_M_extend, hz_w_at d_M_extend_160]; rfl
theorem d_M_extend_161 : decode c_M_extend 161 = .ok (.isub, 1) := by decide +kernel
theorem e_M_extend_161 : q_M_extend S (f + 1) 161 L (.int y :: .int x :: st) h = (q_M_extend S f 162 L (.int (x - y) :: st) h) := by rw [q_M_extend, hz_w_at d_M_extend_161]; rfl
theorem d_M_extend_162 : decode c_M_extend 162 = .ok (.aload_n 0, 1) := by decide +kernel
theorem e_M_extend_162 {a1 a2 a3 a4 a5 a6 a7 a8 : Option Value} : q_M_extend S (f + 1) 162 [some (.ref i), a1, a2, a3, a4, a5, a6, a7, a8] st h = (q_M_extend S f 163 [some (.ref i), a1, a2, a3, a4, a5, a6, a7, a8] (.ref i :: st) h) := by rw [q_M_extend, hz_w_at d_M_extend_162]; rfl
theorem e_M_extend_162n {a1 a2 a3 a4 a5 a6 a7 a8 : Option Value} : q_M_extend S (f + 1) 162 [some .null, a1, a2, a3, a4, a5, a6, a7, a8] st h = (q_M_extend S f 163 [some .null, a1, a2, a3, a4, a5, a6, a7, a8] (.null :: st) h) := by rw [q_M_extend, hz_w_at d_M_extend_162]; rfl
theorem d_M_extend_163 : decode c_M_extend 163 = .ok (.aload_n 0, 1) := by decide +kernel
theorem e_M_extend_163 {a1 a2 a3 a4 a5 a6 a7 a8 : Option Value} : q_M_extend S (f + 1) 163 [some (.ref i), a1, a2, a3, a4, a5, a6, a7, a8] st h = (q_M_extend S f 164 [some (.ref i), a1, a2, a3, a4, a5, a6, a7, a8] (.ref i :: st) h) := by rw [q_M_extend, hz_w_at d_M_extend_163]; rfl
theorem e_M_extend_163n {a1 a2 a3 a4 a5 a6 a7 a8 : Option Value} : q_M_extend S (f + 1) 163 [some .null, a1, a2, a3, a4, a5, a6, a7, a8] st h = (q_M_extend S f 164 [some .null, a1, a2, a3, a4, a5, a6, a7, a8] (.null :: st) h) := by rw [q_M_extend, hz_w_at d_M_extend_163]; rfl
theorem d_M_extend_164 : decode c_M_extend 164 = .ok (.iload_n 2, 1) := by decide +kernel
theorem e_M_extend_164 {a0 a1 a3 a4 a5 a6 a7 a8 : Option Value} : q_M_extend S (f + 1) 164 [a0, a1, some (.int x), a3, a4, a5, a6, a7, a8] st h = (q_M_extend S f 165 [a0, a1, some (.int x), a3, a4, a5, a6, a7, a8] (.int x :: st) h) := by rw [q_M_extend, hz_w_at d_M_extend_164]; rfl
theorem d_M_extend_165 : decode c_M_extend 165 = .ok (.iconst 1, 1) := by decide +kernel
theorem e_M_extend_165 : q_M_extend S (f + 1) 165 L st h = (q_M_extend S f 166 L (.int (hz_n 1) :: st) h) := by rw [q_M_extend, hz_w_at d_M_extend_165]; rfl
theorem d_M_extend_166 : decode c_M_extend 166 = .ok (.iload 8, 2) := by decide +kernel
theorem e_M_extend_166 {a0 a1 a2 a3 a4 a5 a6 a7 : Option Value} : q_M_extend S (f + 1) 166 [a0, a1, a2, a3, a4, a5, a6, a7, some (.int x)] st h = (q_M_extend S f 168 [a0, a1, a2, a3, a4, a5, a6, a7, some (.int x)] (.int x :: st) h) := by rw [q_M_extend, hz_w_at d_M_extend_166]; rfl
theorem d_M_extend_168 : decode c_M_extend 168 = .ok (.iadd, 1) := by decide +kernel
theorem e_M_extend_168 : q_M_extend S (f + 1) 168 L (.int y :: .int x :: st) h = (q_M_extend S f 169 L (.int (x + y) :: st) h) := by rw [q_M_extend, hz_w_at d_M_extend_168]; rfl
theorem d_M_extend_169 : decode c_M_extend 169 = .ok (.invokevirtual 126, 3) := by decide +kernel
theorem e_M_extend_169 : q_M_extend S (f + 1) 169 L st h = (S 169 L st h) := by rw [q_M_extend, hz_w_at d_M_extend_169]; rfl
theorem d_M_extend_172 : decode c_M_extend 172 = .ok (.iload 4, 2) := by decide +kernel
theorem e_M_extend_172 {a0 a1 a2 a3 a5 a6 a7 a8 : Option Value} : q_M_extend S (f + 1) 172 [a0, a1, a2, a3, some (.int x), a5, a6, a7, a8] st h = (q_M_extend S f 174 [a0, a1, a2, a3, some (.int x), a5, a6, a7, a8] (.int x :: st) h) := by rw [q_M_extend, hz_w_at d_M_extend_172]; rfl
theorem d_M_extend_174 : decode c_M_extend 174 = .ok (.invokevirtual 199, 3) := by decide +kernel
theorem e_M_extend_174 : q_M_extend S (f + 1) 174 L st h = (S 174 L st h) := by rw [q_M_extend, hz_w_at d_M_extend_174]; rfl
theorem d_M_extend_177 : decode c_M_extend 177 = .ok (.iastore, 1) := by decide +kernel
theorem e_M_extend_177 : q_M_extend S (f + 1) 177 L (.int y :: .int x :: .ref i :: st) h = (hz_es zKT hz_kI h i x (.int y) fun h => q_M_extend S f 178 L st h) := by rw [q_M_extend, hz_w_at d_M_extend_177]; rfl
theorem d_M_extend_178 : decode c_M_extend 178 = .ok (.iinc 8 1, 3) := by decide +kernel
theorem e_M_extend_178 {a0 a1 a2 a3 a4 a5 a6 a7 : Option Value} : q_M_extend S (f + 1) 178 [a0, a1, a2, a3, a4, a5, a6, a7, some (.int x)] st h = (q_M_extend S f 181 [a0, a1, a2, a3, a4, a5, a6, a7, some (.int (x + hz_n 1))] st h) := by rw [q_M_extend, hz_w_at d_M_extend_178]; rfl
theorem d_M_extend_181 : decode c_M_extend 181 = .ok (.goto (-46), 3) := by decide +kernel
theorem e_M_extend_181 : q_M_extend S (f + 1) 181 L st h = (S 135 L st h) := by rw [q_M_extend, hz_w_at d_M_extend_181]; rfl
theorem d_M_extend_184 : decode c_M_extend 184 = .ok (.aload_n 0, 1) := by decide +kernel
theorem e_M_extend_184 {a1 a2 a3 a4 a5 a6 a7 a8 : Option Value} : q_M_extend S (f + 1) 184 [some (.ref i), a1, a2, a3, a4, a5, a6, a7, a8] st h = (q_M_extend S f 185 [some (.ref i), a1, a2, a3, a4, a5, a6, a7, a8] (.ref i :: st) h) := by rw [q_M_extend, hz_w_at d_M_extend_184]; rfl
theorem e_M_extend_184n {a1 a2 a3 a4 a5 a6 a7 a8 : Option Value} : q_M_extend S (f + 1) 184 [some .null, a1, a2, a3, a4, a5, a6, a7, a8] st h = (q_M_extend S f 185 [some .null, a1, a2, a3, a4, a5, a6, a7, a8] (.null :: st) h) := by rw [q_M_extend, hz_w_at d_M_extend_184]; rfl
theorem d_M_extend_185 : decode c_M_extend 185 = .ok (.iconst 3, 1) := by decide +kernel
theorem e_M_extend_185 : q_M_extend S (f + 1) 185 L st h = (q_M_extend S f 186 L (.int (hz_n 3) :: st) h) := by rw [q_M_extend, hz_w_at d_M_extend_185]; rfl
theorem d_M_extend_186 : decode c_M_extend 186 = .ok (.iload 7, 2) := by decide +kernel
theorem e_M_extend_186 {a0 a1 a2 a3 a4 a5 a6 a8 : Option Value} : q_M_extend S (f + 1) 186 [a0, a1, a2, a3, a4, a5, a6, some (.int x), a8] st h = (q_M_extend S f 188 [a0, a1, a2, a3, a4, a5, a6, some (.int x), a8] (.int x :: st) h) := by rw [q_M_extend, hz_w_at d_M_extend_186]; rfl
theorem d_M_extend_188 : decode c_M_extend 188 = .ok (.invokevirtual 187, 3) := by decide +kernel
theorem e_M_extend_188 : q_M_extend S (f + 1) 188 L st h = (S 188 L st h) := by rw [q_M_extend, hz_w_at d_M_extend_188]; rfl
theorem d_M_extend_191 : decode c_M_extend 191 = .ok (.return_, 1) := by decide +kernel
theorem e_M_extend_191 : q_M_extend S (f + 1) 191 L st h = (S 191 L st h) := by rw [q_M_extend, hz_w_at d_M_extend_191]; rfl
end
