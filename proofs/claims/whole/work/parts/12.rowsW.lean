/-! Rows of LazyGraphs$Writer: instructions, and what each asks of the state behind it. Printed by wip/genparts.py. -/
abbrev q_W_init (S : Nat → List (Option Value) → List Value → hz_H → Prop) := hz_w zCl zKT f_Wi n_W c_W_init [] S
section
variable {S : Nat → List (Option Value) → List Value → hz_H → Prop} {f : Nat} {L : List (Option Value)} {st : List Value} {h : hz_H} {x y : Int32} {i j : Nat} {X Y : Int64}
theorem d_W_init_0 : decode c_W_init 0 = .ok (.aload_n 0, 1) := by decide +kernel
theorem e_W_init_0 : q_W_init S (f + 1) 0 [some (.ref i)] st h = (q_W_init S f 1 [some (.ref i)] (.ref i :: st) h) := by rw [q_W_init, hz_w_at d_W_init_0]; rfl
theorem e_W_init_0n : q_W_init S (f + 1) 0 [some .null] st h = (q_W_init S f 1 [some .null] (.null :: st) h) := by rw [q_W_init, hz_w_at d_W_init_0]; rfl
theorem d_W_init_1 : decode c_W_init 1 = .ok (.invokespecial 3, 3) := by decide +kernel
theorem e_W_init_1 : q_W_init S (f + 1) 1 L st h = (S 1 L st h) := by rw [q_W_init, hz_w_at d_W_init_1]; rfl
theorem d_W_init_4 : decode c_W_init 4 = .ok (.aload_n 0, 1) := by decide +kernel
theorem e_W_init_4 : q_W_init S (f + 1) 4 [some (.ref i)] st h = (q_W_init S f 5 [some (.ref i)] (.ref i :: st) h) := by rw [q_W_init, hz_w_at d_W_init_4]; rfl
theorem e_W_init_4n : q_W_init S (f + 1) 4 [some .null] st h = (q_W_init S f 5 [some .null] (.null :: st) h) := by rw [q_W_init, hz_w_at d_W_init_4]; rfl
theorem d_W_init_5 : decode c_W_init 5 = .ok (.bipush 60, 2) := by decide +kernel
theorem e_W_init_5 : q_W_init S (f + 1) 5 L st h = (q_W_init S f 7 L (.int (hz_n 60) :: st) h) := by rw [q_W_init, hz_w_at d_W_init_5]; rfl
theorem d_W_init_7 : decode c_W_init 7 = .ok (.newarray .char, 2) := by decide +kernel
theorem e_W_init_7 : q_W_init S (f + 1) 7 L st h = (S 7 L st h) := by rw [q_W_init, hz_w_at d_W_init_7]; rfl
theorem d_W_init_9 : decode c_W_init 9 = .ok (.putfield 9, 3) := by decide +kernel
theorem e_W_init_9 : q_W_init S (f + 1) 9 L (.ref j :: .ref i :: st) h = (hz_wr h i 3 0 (.ref j) fun h => q_W_init S f 12 L st h) := by rw [q_W_init, hz_w_at d_W_init_9]; rfl
theorem d_W_init_12 : decode c_W_init 12 = .ok (.aload_n 0, 1) := by decide +kernel
theorem e_W_init_12 : q_W_init S (f + 1) 12 [some (.ref i)] st h = (q_W_init S f 13 [some (.ref i)] (.ref i :: st) h) := by rw [q_W_init, hz_w_at d_W_init_12]; rfl
theorem e_W_init_12n : q_W_init S (f + 1) 12 [some .null] st h = (q_W_init S f 13 [some .null] (.null :: st) h) := by rw [q_W_init, hz_w_at d_W_init_12]; rfl
theorem d_W_init_13 : decode c_W_init 13 = .ok (.iconst 0, 1) := by decide +kernel
theorem e_W_init_13 : q_W_init S (f + 1) 13 L st h = (q_W_init S f 14 L (.int (hz_n 0) :: st) h) := by rw [q_W_init, hz_w_at d_W_init_13]; rfl
theorem d_W_init_14 : decode c_W_init 14 = .ok (.putfield 15, 3) := by decide +kernel
theorem e_W_init_14 : q_W_init S (f + 1) 14 L (.int x :: .ref i :: st) h = (hz_wr h i 3 1 (.int x) fun h => q_W_init S f 17 L st h) := by rw [q_W_init, hz_w_at d_W_init_14]; rfl
theorem d_W_init_17 : decode c_W_init 17 = .ok (.aload_n 0, 1) := by decide +kernel
theorem e_W_init_17 : q_W_init S (f + 1) 17 [some (.ref i)] st h = (q_W_init S f 18 [some (.ref i)] (.ref i :: st) h) := by rw [q_W_init, hz_w_at d_W_init_17]; rfl
theorem e_W_init_17n : q_W_init S (f + 1) 17 [some .null] st h = (q_W_init S f 18 [some .null] (.null :: st) h) := by rw [q_W_init, hz_w_at d_W_init_17]; rfl
theorem d_W_init_18 : decode c_W_init 18 = .ok (.bipush 60, 2) := by decide +kernel
theorem e_W_init_18 : q_W_init S (f + 1) 18 L st h = (q_W_init S f 20 L (.int (hz_n 60) :: st) h) := by rw [q_W_init, hz_w_at d_W_init_18]; rfl
theorem d_W_init_20 : decode c_W_init 20 = .ok (.newarray .int, 2) := by decide +kernel
theorem e_W_init_20 : q_W_init S (f + 1) 20 L st h = (S 20 L st h) := by rw [q_W_init, hz_w_at d_W_init_20]; rfl
theorem d_W_init_22 : decode c_W_init 22 = .ok (.putfield 19, 3) := by decide +kernel
theorem e_W_init_22 : q_W_init S (f + 1) 22 L (.ref j :: .ref i :: st) h = (hz_wr h i 3 2 (.ref j) fun h => q_W_init S f 25 L st h) := by rw [q_W_init, hz_w_at d_W_init_22]; rfl
theorem d_W_init_25 : decode c_W_init 25 = .ok (.aload_n 0, 1) := by decide +kernel
theorem e_W_init_25 : q_W_init S (f + 1) 25 [some (.ref i)] st h = (q_W_init S f 26 [some (.ref i)] (.ref i :: st) h) := by rw [q_W_init, hz_w_at d_W_init_25]; rfl
theorem e_W_init_25n : q_W_init S (f + 1) 25 [some .null] st h = (q_W_init S f 26 [some .null] (.null :: st) h) := by rw [q_W_init, hz_w_at d_W_init_25]; rfl
theorem d_W_init_26 : decode c_W_init 26 = .ok (.iconst 0, 1) := by decide +kernel
theorem e_W_init_26 : q_W_init S (f + 1) 26 L st h = (q_W_init S f 27 L (.int (hz_n 0) :: st) h) := by rw [q_W_init, hz_w_at d_W_init_26]; rfl
theorem d_W_init_27 : decode c_W_init 27 = .ok (.putfield 23, 3) := by decide +kernel
theorem e_W_init_27 : q_W_init S (f + 1) 27 L (.int x :: .ref i :: st) h = (hz_wr h i 3 3 (.int x) fun h => q_W_init S f 30 L st h) := by rw [q_W_init, hz_w_at d_W_init_27]; rfl
theorem d_W_init_30 : decode c_W_init 30 = .ok (.aload_n 0, 1) := by decide +kernel
theorem e_W_init_30 : q_W_init S (f + 1) 30 [some (.ref i)] st h = (q_W_init S f 31 [some (.ref i)] (.ref i :: st) h) := by rw [q_W_init, hz_w_at d_W_init_30]; rfl
theorem e_W_init_30n : q_W_init S (f + 1) 30 [some .null] st h = (q_W_init S f 31 [some .null] (.null :: st) h) := by rw [q_W_init, hz_w_at d_W_init_30]; rfl
theorem d_W_init_31 : decode c_W_init 31 = .ok (.iconst (-1), 1) := by decide +kernel
theorem e_W_init_31 : q_W_init S (f + 1) 31 L st h = (q_W_init S f 32 L (.int (hz_n (-1)) :: st) h) := by rw [q_W_init, hz_w_at d_W_init_31]; rfl
theorem d_W_init_32 : decode c_W_init 32 = .ok (.putfield 26, 3) := by decide +kernel
theorem e_W_init_32 : q_W_init S (f + 1) 32 L (.int x :: .ref i :: st) h = (hz_wr h i 3 4 (.int x) fun h => q_W_init S f 35 L st h) := by rw [q_W_init, hz_w_at d_W_init_32]; rfl
theorem d_W_init_35 : decode c_W_init 35 = .ok (.aload_n 0, 1) := by decide +kernel
theorem e_W_init_35 : q_W_init S (f + 1) 35 [some (.ref i)] st h = (q_W_init S f 36 [some (.ref i)] (.ref i :: st) h) := by rw [q_W_init, hz_w_at d_W_init_35]; rfl
theorem e_W_init_35n : q_W_init S (f + 1) 35 [some .null] st h = (q_W_init S f 36 [some .null] (.null :: st) h) := by rw [q_W_init, hz_w_at d_W_init_35]; rfl
theorem d_W_init_36 : decode c_W_init 36 = .ok (.iconst 0, 1) := by decide +kernel
theorem e_W_init_36 : q_W_init S (f + 1) 36 L st h = (q_W_init S f 37 L (.int (hz_n 0) :: st) h) := by rw [q_W_init, hz_w_at d_W_init_36]; rfl
theorem d_W_init_37 : decode c_W_init 37 = .ok (.putfield 29, 3) := by decide +kernel
theorem e_W_init_37 : q_W_init S (f + 1) 37 L (.int x :: .ref i :: st) h = ((narrow .boolean (.int x) = .int x ∧ fits .boolean (.int x) = true) ∧ hz_wr h i 3 5 (.int x) fun h => q_W_init S f 40 L st h) := by rw [q_W_init, hz_w_at d_W_init_37]; rfl
theorem d_W_init_40 : decode c_W_init 40 = .ok (.return_, 1) := by decide +kernel
theorem e_W_init_40 : q_W_init S (f + 1) 40 L st h = (S 40 L st h) := by rw [q_W_init, hz_w_at d_W_init_40]; rfl
end
abbrev q_W_write (S : Nat → List (Option Value) → List Value → hz_H → Prop) := hz_w zCl zKT f_W n_W c_W_write [24] S
section
variable {S : Nat → List (Option Value) → List Value → hz_H → Prop} {f : Nat} {L : List (Option Value)} {st : List Value} {h : hz_H} {x y : Int32} {i j : Nat} {X Y : Int64}
theorem d_W_write_0 : decode c_W_write 0 = .ok (.aload_n 0, 1) := by decide +kernel
theorem e_W_write_0 {a1 a2 : Option Value} : q_W_write S (f + 1) 0 [some (.ref i), a1, a2] st h = (q_W_write S f 1 [some (.ref i), a1, a2] (.ref i :: st) h) := by rw [q_W_write, hz_w_at d_W_write_0]; rfl
theorem e_W_write_0n {a1 a2 : Option Value} : q_W_write S (f + 1) 0 [some .null, a1, a2] st h = (q_W_write S f 1 [some .null, a1, a2] (.null :: st) h) := by rw [q_W_write, hz_w_at d_W_write_0]; rfl
theorem d_W_write_1 : decode c_W_write 1 = .ok (.iconst 0, 1) := by decide +kernel
theorem e_W_write_1 : q_W_write S (f + 1) 1 L st h = (q_W_write S f 2 L (.int (hz_n 0) :: st) h) := by rw [q_W_write, hz_w_at d_W_write_1]; rfl
theorem d_W_write_2 : decode c_W_write 2 = .ok (.putfield 15, 3) := by decide +kernel
theorem e_W_write_2 : q_W_write S (f + 1) 2 L (.int x :: .ref i :: st) h = (hz_wr h i 3 1 (.int x) fun h => q_W_write S f 5 L st h) := by rw [q_W_write, hz_w_at d_W_write_2]; rfl
theorem d_W_write_5 : decode c_W_write 5 = .ok (.aload_n 0, 1) := by decide +kernel
theorem e_W_write_5 {a1 a2 : Option Value} : q_W_write S (f + 1) 5 [some (.ref i), a1, a2] st h = (q_W_write S f 6 [some (.ref i), a1, a2] (.ref i :: st) h) := by rw [q_W_write, hz_w_at d_W_write_5]; rfl
theorem e_W_write_5n {a1 a2 : Option Value} : q_W_write S (f + 1) 5 [some .null, a1, a2] st h = (q_W_write S f 6 [some .null, a1, a2] (.null :: st) h) := by rw [q_W_write, hz_w_at d_W_write_5]; rfl
theorem d_W_write_6 : decode c_W_write 6 = .ok (.iconst 0, 1) := by decide +kernel
theorem e_W_write_6 : q_W_write S (f + 1) 6 L st h = (q_W_write S f 7 L (.int (hz_n 0) :: st) h) := by rw [q_W_write, hz_w_at d_W_write_6]; rfl
theorem d_W_write_7 : decode c_W_write 7 = .ok (.putfield 23, 3) := by decide +kernel
theorem e_W_write_7 : q_W_write S (f + 1) 7 L (.int x :: .ref i :: st) h = (hz_wr h i 3 3 (.int x) fun h => q_W_write S f 10 L st h) := by rw [q_W_write, hz_w_at d_W_write_7]; rfl
theorem d_W_write_10 : decode c_W_write 10 = .ok (.aload_n 0, 1) := by decide +kernel
theorem e_W_write_10 {a1 a2 : Option Value} : q_W_write S (f + 1) 10 [some (.ref i), a1, a2] st h = (q_W_write S f 11 [some (.ref i), a1, a2] (.ref i :: st) h) := by rw [q_W_write, hz_w_at d_W_write_10]; rfl
theorem e_W_write_10n {a1 a2 : Option Value} : q_W_write S (f + 1) 10 [some .null, a1, a2] st h = (q_W_write S f 11 [some .null, a1, a2] (.null :: st) h) := by rw [q_W_write, hz_w_at d_W_write_10]; rfl
theorem d_W_write_11 : decode c_W_write 11 = .ok (.sipush 2000, 3) := by decide +kernel
theorem e_W_write_11 : q_W_write S (f + 1) 11 L st h = (q_W_write S f 14 L (.int (hz_n 2000) :: st) h) := by rw [q_W_write, hz_w_at d_W_write_11]; rfl
theorem d_W_write_14 : decode c_W_write 14 = .ok (.putfield 26, 3) := by decide +kernel
theorem e_W_write_14 : q_W_write S (f + 1) 14 L (.int x :: .ref i :: st) h = (hz_wr h i 3 4 (.int x) fun h => q_W_write S f 17 L st h) := by rw [q_W_write, hz_w_at d_W_write_14]; rfl
theorem d_W_write_17 : decode c_W_write 17 = .ok (.aload_n 0, 1) := by decide +kernel
theorem e_W_write_17 {a1 a2 : Option Value} : q_W_write S (f + 1) 17 [some (.ref i), a1, a2] st h = (q_W_write S f 18 [some (.ref i), a1, a2] (.ref i :: st) h) := by rw [q_W_write, hz_w_at d_W_write_17]; rfl
theorem e_W_write_17n {a1 a2 : Option Value} : q_W_write S (f + 1) 17 [some .null, a1, a2] st h = (q_W_write S f 18 [some .null, a1, a2] (.null :: st) h) := by rw [q_W_write, hz_w_at d_W_write_17]; rfl
theorem d_W_write_18 : decode c_W_write 18 = .ok (.iconst 0, 1) := by decide +kernel
theorem e_W_write_18 : q_W_write S (f + 1) 18 L st h = (q_W_write S f 19 L (.int (hz_n 0) :: st) h) := by rw [q_W_write, hz_w_at d_W_write_18]; rfl
theorem d_W_write_19 : decode c_W_write 19 = .ok (.putfield 29, 3) := by decide +kernel
theorem e_W_write_19 : q_W_write S (f + 1) 19 L (.int x :: .ref i :: st) h = ((narrow .boolean (.int x) = .int x ∧ fits .boolean (.int x) = true) ∧ hz_wr h i 3 5 (.int x) fun h => q_W_write S f 22 L st h) := by rw [q_W_write, hz_w_at d_W_write_19]; rfl
theorem d_W_write_22 : decode c_W_write 22 = .ok (.iconst 0, 1) := by decide +kernel
theorem e_W_write_22 : q_W_write S (f + 1) 22 L st h = (q_W_write S f 23 L (.int (hz_n 0) :: st) h) := by rw [q_W_write, hz_w_at d_W_write_22]; rfl
theorem d_W_write_23 : decode c_W_write 23 = .ok (.istore_n 2, 1) := by decide +kernel
theorem e_W_write_23 {a0 a1 a2 : Option Value} : q_W_write S (f + 1) 23 [a0, a1, a2] (.int x :: st) h = (S 24 [a0, a1, some (.int x)] st h) := by rw [q_W_write, hz_w_at d_W_write_23]; rfl
theorem d_W_write_24 : decode c_W_write 24 = .ok (.iload_n 2, 1) := by decide +kernel
theorem e_W_write_24 {a0 a1 : Option Value} : q_W_write S (f + 1) 24 [a0, a1, some (.int x)] st h = (q_W_write S f 25 [a0, a1, some (.int x)] (.int x :: st) h) := by rw [q_W_write, hz_w_at d_W_write_24]; rfl
theorem d_W_write_25 : decode c_W_write 25 = .ok (.ldc 35, 2) := by decide +kernel
theorem e_W_write_25 : q_W_write S (f + 1) 25 L st h = (q_W_write S f 27 L (.int (1000000 : Int32) :: st) h) := by rw [q_W_write, hz_w_at d_W_write_25]; rfl
theorem d_W_write_27 : decode c_W_write 27 = .ok (.if_icmp .ge 84, 3) := by decide +kernel
theorem e_W_write_27 : q_W_write S (f + 1) 27 L (.int y :: .int x :: st) h = ((y.toInt ≤ x.toInt → q_W_write S f 111 L st h) ∧ (¬ (y.toInt ≤ x.toInt) → q_W_write S f 30 L st h)) := by rw [q_W_write, hz_w_at d_W_write_27]; rfl
theorem d_W_write_30 : decode c_W_write 30 = .ok (.aload_n 0, 1) := by decide +kernel
theorem e_W_write_30 {a1 a2 : Option Value} : q_W_write S (f + 1) 30 [some (.ref i), a1, a2] st h = (q_W_write S f 31 [some (.ref i), a1, a2] (.ref i :: st) h) := by rw [q_W_write, hz_w_at d_W_write_30]; rfl
theorem e_W_write_30n {a1 a2 : Option Value} : q_W_write S (f + 1) 30 [some .null, a1, a2] st h = (q_W_write S f 31 [some .null, a1, a2] (.null :: st) h) := by rw [q_W_write, hz_w_at d_W_write_30]; rfl
theorem d_W_write_31 : decode c_W_write 31 = .ok (.getfield 26, 3) := by decide +kernel
theorem e_W_write_31 : q_W_write S (f + 1) 31 L (.ref i :: st) h = (hz_rd h i 3 4 fun v => q_W_write S f 34 L (v :: st) h) := by rw [q_W_write, hz_w_at d_W_write_31]; rfl
theorem d_W_write_34 : decode c_W_write 34 = .ok (.iconst (-1), 1) := by decide +kernel
theorem e_W_write_34 : q_W_write S (f + 1) 34 L st h = (q_W_write S f 35 L (.int (hz_n (-1)) :: st) h) := by rw [q_W_write, hz_w_at d_W_write_34]; rfl
theorem d_W_write_35 : decode c_W_write 35 = .ok (.if_icmp .eq 76, 3) := by decide +kernel
theorem e_W_write_35 : q_W_write S (f + 1) 35 L (.int y :: .int x :: st) h = ((x.toInt = y.toInt → q_W_write S f 111 L st h) ∧ (¬ (x.toInt = y.toInt) → q_W_write S f 38 L st h)) := by rw [q_W_write, hz_w_at d_W_write_35]; rfl
theorem d_W_write_38 : decode c_W_write 38 = .ok (.aload_n 1, 1) := by decide +kernel
theorem e_W_write_38 {a0 a2 : Option Value} : q_W_write S (f + 1) 38 [a0, some (.ref i), a2] st h = (q_W_write S f 39 [a0, some (.ref i), a2] (.ref i :: st) h) := by rw [q_W_write, hz_w_at d_W_write_38]; rfl
theorem e_W_write_38n {a0 a2 : Option Value} : q_W_write S (f + 1) 38 [a0, some .null, a2] st h = (q_W_write S f 39 [a0, some .null, a2] (.null :: st) h) := by rw [q_W_write, hz_w_at d_W_write_38]; rfl
theorem d_W_write_39 : decode c_W_write 39 = .ok (.aload_n 0, 1) := by decide +kernel
theorem e_W_write_39 {a1 a2 : Option Value} : q_W_write S (f + 1) 39 [some (.ref i), a1, a2] st h = (q_W_write S f 40 [some (.ref i), a1, a2] (.ref i :: st) h) := by rw [q_W_write, hz_w_at d_W_write_39]; rfl
theorem e_W_write_39n {a1 a2 : Option Value} : q_W_write S (f + 1) 39 [some .null, a1, a2] st h = (q_W_write S f 40 [some .null, a1, a2] (.null :: st) h) := by rw [q_W_write, hz_w_at d_W_write_39]; rfl
theorem d_W_write_40 : decode c_W_write 40 = .ok (.getfield 26, 3) := by decide +kernel
theorem e_W_write_40 : q_W_write S (f + 1) 40 L (.ref i :: st) h = (hz_rd h i 3 4 fun v => q_W_write S f 43 L (v :: st) h) := by rw [q_W_write, hz_w_at d_W_write_40]; rfl
theorem d_W_write_43 : decode c_W_write 43 = .ok (.invokevirtual 36, 3) := by decide +kernel
theorem e_W_write_43 : q_W_write S (f + 1) 43 L st h = (S 43 L st h) := by rw [q_W_write, hz_w_at d_W_write_43]; rfl
theorem d_W_write_46 : decode c_W_write 46 = .ok (.ifCond .eq 65, 3) := by decide +kernel
theorem e_W_write_46 : q_W_write S (f + 1) 46 L (.int x :: st) h = ((x.toInt = 0 → q_W_write S f 111 L st h) ∧ (¬ (x.toInt = 0) → q_W_write S f 49 L st h)) := by rw [q_W_write, hz_w_at d_W_write_46]; rfl
theorem d_W_write_49 : decode c_W_write 49 = .ok (.aload_n 0, 1) := by decide +kernel
theorem e_W_write_49 {a1 a2 : Option Value} : q_W_write S (f + 1) 49 [some (.ref i), a1, a2] st h = (q_W_write S f 50 [some (.ref i), a1, a2] (.ref i :: st) h) := by rw [q_W_write, hz_w_at d_W_write_49]; rfl
theorem e_W_write_49n {a1 a2 : Option Value} : q_W_write S (f + 1) 49 [some .null, a1, a2] st h = (q_W_write S f 50 [some .null, a1, a2] (.null :: st) h) := by rw [q_W_write, hz_w_at d_W_write_49]; rfl
theorem d_W_write_50 : decode c_W_write 50 = .ok (.getfield 29, 3) := by decide +kernel
theorem e_W_write_50 : q_W_write S (f + 1) 50 L (.ref i :: st) h = (hz_rd h i 3 5 fun v => q_W_write S f 53 L (v :: st) h) := by rw [q_W_write, hz_w_at d_W_write_50]; rfl
theorem d_W_write_53 : decode c_W_write 53 = .ok (.ifCond .eq 29, 3) := by decide +kernel
theorem e_W_write_53 : q_W_write S (f + 1) 53 L (.int x :: st) h = ((x.toInt = 0 → q_W_write S f 82 L st h) ∧ (¬ (x.toInt = 0) → q_W_write S f 56 L st h)) := by rw [q_W_write, hz_w_at d_W_write_53]; rfl
theorem d_W_write_56 : decode c_W_write 56 = .ok (.aload_n 0, 1) := by decide +kernel
theorem e_W_write_56 {a1 a2 : Option Value} : q_W_write S (f + 1) 56 [some (.ref i), a1, a2] st h = (q_W_write S f 57 [some (.ref i), a1, a2] (.ref i :: st) h) := by rw [q_W_write, hz_w_at d_W_write_56]; rfl
theorem e_W_write_56n {a1 a2 : Option Value} : q_W_write S (f + 1) 56 [some .null, a1, a2] st h = (q_W_write S f 57 [some .null, a1, a2] (.null :: st) h) := by rw [q_W_write, hz_w_at d_W_write_56]; rfl
theorem d_W_write_57 : decode c_W_write 57 = .ok (.aload_n 1, 1) := by decide +kernel
theorem e_W_write_57 {a0 a2 : Option Value} : q_W_write S (f + 1) 57 [a0, some (.ref i), a2] st h = (q_W_write S f 58 [a0, some (.ref i), a2] (.ref i :: st) h) := by rw [q_W_write, hz_w_at d_W_write_57]; rfl
theorem e_W_write_57n {a0 a2 : Option Value} : q_W_write S (f + 1) 57 [a0, some .null, a2] st h = (q_W_write S f 58 [a0, some .null, a2] (.null :: st) h) := by rw [q_W_write, hz_w_at d_W_write_57]; rfl
theorem d_W_write_58 : decode c_W_write 58 = .ok (.aload_n 1, 1) := by decide +kernel
theorem e_W_write_58 {a0 a2 : Option Value} : q_W_write S (f + 1) 58 [a0, some (.ref i), a2] st h = (q_W_write S f 59 [a0, some (.ref i), a2] (.ref i :: st) h) := by rw [q_W_write, hz_w_at d_W_write_58]; rfl
theorem e_W_write_58n {a0 a2 : Option Value} : q_W_write S (f + 1) 58 [a0, some .null, a2] st h = (q_W_write S f 59 [a0, some .null, a2] (.null :: st) h) := by rw [q_W_write, hz_w_at d_W_write_58]; rfl
theorem d_W_write_59 : decode c_W_write 59 = .ok (.getfield 40, 3) := by decide +kernel
theorem e_W_write_59 : q_W_write S (f + 1) 59 L (.ref i :: st) h = (hz_rd h i 1 3 fun v => q_W_write S f 62 L (v :: st) h) := by rw [q_W_write, hz_w_at d_W_write_59]; rfl
theorem d_W_write_62 : decode c_W_write 62 = .ok (.aload_n 0, 1) := by decide +kernel
theorem e_W_write_62 {a1 a2 : Option Value} : q_W_write S (f + 1) 62 [some (.ref i), a1, a2] st h = (q_W_write S f 63 [some (.ref i), a1, a2] (.ref i :: st) h) := by rw [q_W_write, hz_w_at d_W_write_62]; rfl
theorem e_W_write_62n {a1 a2 : Option Value} : q_W_write S (f + 1) 62 [some .null, a1, a2] st h = (q_W_write S f 63 [some .null, a1, a2] (.null :: st) h) := by rw [q_W_write, hz_w_at d_W_write_62]; rfl
theorem d_W_write_63 : decode c_W_write 63 = .ok (.getfield 26, 3) := by decide +kernel
theorem e_W_write_63 : q_W_write S (f + 1) 63 L (.ref i :: st) h = (hz_rd h i 3 4 fun v => q_W_write S f 66 L (v :: st) h) := by rw [q_W_write, hz_w_at d_W_write_63]; rfl
theorem d_W_write_66 : decode c_W_write 66 = .ok (.iaload, 1) := by decide +kernel
theorem e_W_write_66 : q_W_write S (f + 1) 66 L (.int x :: .ref i :: st) h = (hz_ea zKT hz_kI h i x fun v => q_W_write S f 67 L (v :: st) h) := by rw [q_W_write, hz_w_at d_W_write_66]; rfl
theorem d_W_write_67 : decode c_W_write 67 = .ok (.aload_n 1, 1) := by decide +kernel
theorem e_W_write_67 {a0 a2 : Option Value} : q_W_write S (f + 1) 67 [a0, some (.ref i), a2] st h = (q_W_write S f 68 [a0, some (.ref i), a2] (.ref i :: st) h) := by rw [q_W_write, hz_w_at d_W_write_67]; rfl
theorem e_W_write_67n {a0 a2 : Option Value} : q_W_write S (f + 1) 67 [a0, some .null, a2] st h = (q_W_write S f 68 [a0, some .null, a2] (.null :: st) h) := by rw [q_W_write, hz_w_at d_W_write_67]; rfl
theorem d_W_write_68 : decode c_W_write 68 = .ok (.getfield 43, 3) := by decide +kernel
theorem e_W_write_68 : q_W_write S (f + 1) 68 L (.ref i :: st) h = (hz_rd h i 1 4 fun v => q_W_write S f 71 L (v :: st) h) := by rw [q_W_write, hz_w_at d_W_write_68]; rfl
theorem d_W_write_71 : decode c_W_write 71 = .ok (.aload_n 0, 1) := by decide +kernel
theorem e_W_write_71 {a1 a2 : Option Value} : q_W_write S (f + 1) 71 [some (.ref i), a1, a2] st h = (q_W_write S f 72 [some (.ref i), a1, a2] (.ref i :: st) h) := by rw [q_W_write, hz_w_at d_W_write_71]; rfl
theorem e_W_write_71n {a1 a2 : Option Value} : q_W_write S (f + 1) 71 [some .null, a1, a2] st h = (q_W_write S f 72 [some .null, a1, a2] (.null :: st) h) := by rw [q_W_write, hz_w_at d_W_write_71]; rfl
theorem d_W_write_72 : decode c_W_write 72 = .ok (.getfield 26, 3) := by decide +kernel
theorem e_W_write_72 : q_W_write S (f + 1) 72 L (.ref i :: st) h = (hz_rd h i 3 4 fun v => q_W_write S f 75 L (v :: st) h) := by rw [q_W_write, hz_w_at d_W_write_72]; rfl
theorem d_W_write_75 : decode c_W_write 75 = .ok (.iaload, 1) := by decide +kernel
theorem e_W_write_75 : q_W_write S (f + 1) 75 L (.int x :: .ref i :: st) h = (hz_ea zKT hz_kI h i x fun v => q_W_write S f 76 L (v :: st) h) := by rw [q_W_write, hz_w_at d_W_write_75]; rfl
theorem d_W_write_76 : decode c_W_write 76 = .ok (.invokevirtual 46, 3) := by decide +kernel
theorem e_W_write_76 : q_W_write S (f + 1) 76 L st h = (S 76 L st h) := by rw [q_W_write, hz_w_at d_W_write_76]; rfl
theorem d_W_write_79 : decode c_W_write 79 = .ok (.goto 26, 3) := by decide +kernel
theorem e_W_write_79 : q_W_write S (f + 1) 79 L st h = (q_W_write S f 105 L st h) := by rw [q_W_write, hz_w_at d_W_write_79]; rfl
theorem d_W_write_82 : decode c_W_write 82 = .ok (.aload_n 0, 1) := by decide +kernel
theorem e_W_write_82 {a1 a2 : Option Value} : q_W_write S (f + 1) 82 [some (.ref i), a1, a2] st h = (q_W_write S f 83 [some (.ref i), a1, a2] (.ref i :: st) h) := by rw [q_W_write, hz_w_at d_W_write_82]; rfl
theorem e_W_write_82n {a1 a2 : Option Value} : q_W_write S (f + 1) 82 [some .null, a1, a2] st h = (q_W_write S f 83 [some .null, a1, a2] (.null :: st) h) := by rw [q_W_write, hz_w_at d_W_write_82]; rfl
theorem d_W_write_83 : decode c_W_write 83 = .ok (.aload_n 1, 1) := by decide +kernel
theorem e_W_write_83 {a0 a2 : Option Value} : q_W_write S (f + 1) 83 [a0, some (.ref i), a2] st h = (q_W_write S f 84 [a0, some (.ref i), a2] (.ref i :: st) h) := by rw [q_W_write, hz_w_at d_W_write_83]; rfl
theorem e_W_write_83n {a0 a2 : Option Value} : q_W_write S (f + 1) 83 [a0, some .null, a2] st h = (q_W_write S f 84 [a0, some .null, a2] (.null :: st) h) := by rw [q_W_write, hz_w_at d_W_write_83]; rfl
theorem d_W_write_84 : decode c_W_write 84 = .ok (.aload_n 1, 1) := by decide +kernel
theorem e_W_write_84 {a0 a2 : Option Value} : q_W_write S (f + 1) 84 [a0, some (.ref i), a2] st h = (q_W_write S f 85 [a0, some (.ref i), a2] (.ref i :: st) h) := by rw [q_W_write, hz_w_at d_W_write_84]; rfl
theorem e_W_write_84n {a0 a2 : Option Value} : q_W_write S (f + 1) 84 [a0, some .null, a2] st h = (q_W_write S f 85 [a0, some .null, a2] (.null :: st) h) := by rw [q_W_write, hz_w_at d_W_write_84]; rfl
theorem d_W_write_85 : decode c_W_write 85 = .ok (.getfield 40, 3) := by decide +kernel
theorem e_W_write_85 : q_W_write S (f + 1) 85 L (.ref i :: st) h = (hz_rd h i 1 3 fun v => q_W_write S f 88 L (v :: st) h) := by rw [q_W_write, hz_w_at d_W_write_85]; rfl
theorem d_W_write_88 : decode c_W_write 88 = .ok (.aload_n 0, 1) := by decide +kernel
theorem e_W_write_88 {a1 a2 : Option Value} : q_W_write S (f + 1) 88 [some (.ref i), a1, a2] st h = (q_W_write S f 89 [some (.ref i), a1, a2] (.ref i :: st) h) := by rw [q_W_write, hz_w_at d_W_write_88]; rfl
theorem e_W_write_88n {a1 a2 : Option Value} : q_W_write S (f + 1) 88 [some .null, a1, a2] st h = (q_W_write S f 89 [some .null, a1, a2] (.null :: st) h) := by rw [q_W_write, hz_w_at d_W_write_88]; rfl
theorem d_W_write_89 : decode c_W_write 89 = .ok (.getfield 26, 3) := by decide +kernel
theorem e_W_write_89 : q_W_write S (f + 1) 89 L (.ref i :: st) h = (hz_rd h i 3 4 fun v => q_W_write S f 92 L (v :: st) h) := by rw [q_W_write, hz_w_at d_W_write_89]; rfl
theorem d_W_write_92 : decode c_W_write 92 = .ok (.iaload, 1) := by decide +kernel
theorem e_W_write_92 : q_W_write S (f + 1) 92 L (.int x :: .ref i :: st) h = (hz_ea zKT hz_kI h i x fun v => q_W_write S f 93 L (v :: st) h) := by rw [q_W_write, hz_w_at d_W_write_92]; rfl
theorem d_W_write_93 : decode c_W_write 93 = .ok (.aload_n 1, 1) := by decide +kernel
theorem e_W_write_93 {a0 a2 : Option Value} : q_W_write S (f + 1) 93 [a0, some (.ref i), a2] st h = (q_W_write S f 94 [a0, some (.ref i), a2] (.ref i :: st) h) := by rw [q_W_write, hz_w_at d_W_write_93]; rfl
theorem e_W_write_93n {a0 a2 : Option Value} : q_W_write S (f + 1) 93 [a0, some .null, a2] st h = (q_W_write S f 94 [a0, some .null, a2] (.null :: st) h) := by rw [q_W_write, hz_w_at d_W_write_93]; rfl
theorem d_W_write_94 : decode c_W_write 94 = .ok (.getfield 43, 3) := by decide +kernel
theorem e_W_write_94 : q_W_write S (f + 1) 94 L (.ref i :: st) h = (hz_rd h i 1 4 fun v => q_W_write S f 97 L (v :: st) h) := by rw [q_W_write, hz_w_at d_W_write_94]; rfl
theorem d_W_write_97 : decode c_W_write 97 = .ok (.aload_n 0, 1) := by decide +kernel
theorem e_W_write_97 {a1 a2 : Option Value} : q_W_write S (f + 1) 97 [some (.ref i), a1, a2] st h = (q_W_write S f 98 [some (.ref i), a1, a2] (.ref i :: st) h) := by rw [q_W_write, hz_w_at d_W_write_97]; rfl
theorem e_W_write_97n {a1 a2 : Option Value} : q_W_write S (f + 1) 97 [some .null, a1, a2] st h = (q_W_write S f 98 [some .null, a1, a2] (.null :: st) h) := by rw [q_W_write, hz_w_at d_W_write_97]; rfl
theorem d_W_write_98 : decode c_W_write 98 = .ok (.getfield 26, 3) := by decide +kernel
theorem e_W_write_98 : q_W_write S (f + 1) 98 L (.ref i :: st) h = (hz_rd h i 3 4 fun v => q_W_write S f 101 L (v :: st) h) := by rw [q_W_write, hz_w_at d_W_write_98]; rfl
theorem d_W_write_101 : decode c_W_write 101 = .ok (.iaload, 1) := by decide +kernel
theorem e_W_write_101 : q_W_write S (f + 1) 101 L (.int x :: .ref i :: st) h = (hz_ea zKT hz_kI h i x fun v => q_W_write S f 102 L (v :: st) h) := by rw [q_W_write, hz_w_at d_W_write_101]; rfl
theorem d_W_write_102 : decode c_W_write 102 = .ok (.invokevirtual 50, 3) := by decide +kernel
theorem e_W_write_102 : q_W_write S (f + 1) 102 L st h = (S 102 L st h) := by rw [q_W_write, hz_w_at d_W_write_102]; rfl
theorem d_W_write_105 : decode c_W_write 105 = .ok (.iinc 2 1, 3) := by decide +kernel
theorem e_W_write_105 {a0 a1 : Option Value} : q_W_write S (f + 1) 105 [a0, a1, some (.int x)] st h = (q_W_write S f 108 [a0, a1, some (.int (x + hz_n 1))] st h) := by rw [q_W_write, hz_w_at d_W_write_105]; rfl
theorem d_W_write_108 : decode c_W_write 108 = .ok (.goto (-84), 3) := by decide +kernel
theorem e_W_write_108 : q_W_write S (f + 1) 108 L st h = (S 24 L st h) := by rw [q_W_write, hz_w_at d_W_write_108]; rfl
theorem d_W_write_111 : decode c_W_write 111 = .ok (.return_, 1) := by decide +kernel
theorem e_W_write_111 : q_W_write S (f + 1) 111 L st h = (S 111 L st h) := by rw [q_W_write, hz_w_at d_W_write_111]; rfl
end
abbrev q_W_writeValue (S : Nat → List (Option Value) → List Value → hz_H → Prop) := hz_w zCl zKT f_W n_W c_W_writeValue [] S
section
variable {S : Nat → List (Option Value) → List Value → hz_H → Prop} {f : Nat} {L : List (Option Value)} {st : List Value} {h : hz_H} {x y : Int32} {i j : Nat} {X Y : Int64}
theorem d_W_writeValue_0 : decode c_W_writeValue 0 = .ok (.iload_n 2, 1) := by decide +kernel
theorem e_W_writeValue_0 {a0 a1 a3 : Option Value} : q_W_writeValue S (f + 1) 0 [a0, a1, some (.int x), a3] st h = (q_W_writeValue S f 1 [a0, a1, some (.int x), a3] (.int x :: st) h) := by rw [q_W_writeValue, hz_w_at d_W_writeValue_0]; rfl
theorem d_W_writeValue_1 : decode c_W_writeValue 1 = .ok (.tableswitch 95 2 4 #[67, 76, 27], 27) := by decide +kernel
theorem e_W_writeValue_1 : q_W_writeValue S (f + 1) 1 L (.int x :: st) h = (((x.toInt < 2 ∨ 4 < x.toInt) → q_W_writeValue S f 96 L st h) ∧ (x.toInt = 2 → q_W_writeValue S f 68 L st h) ∧ (x.toInt = 3 → q_W_writeValue S f 77 L st h) ∧ (x.toInt = 4 → q_W_writeValue S f 28 L st h) ∧ True) := by rw [q_W_writeValue, hz_w_at d_W_writeValue_1]; rfl
theorem d_W_writeValue_28 : decode c_W_writeValue 28 = .ok (.aload_n 0, 1) := by decide +kernel
theorem e_W_writeValue_28 {a1 a2 a3 : Option Value} : q_W_writeValue S (f + 1) 28 [some (.ref i), a1, a2, a3] st h = (q_W_writeValue S f 29 [some (.ref i), a1, a2, a3] (.ref i :: st) h) := by rw [q_W_writeValue, hz_w_at d_W_writeValue_28]; rfl
theorem e_W_writeValue_28n {a1 a2 a3 : Option Value} : q_W_writeValue S (f + 1) 28 [some .null, a1, a2, a3] st h = (q_W_writeValue S f 29 [some .null, a1, a2, a3] (.null :: st) h) := by rw [q_W_writeValue, hz_w_at d_W_writeValue_28]; rfl
theorem d_W_writeValue_29 : decode c_W_writeValue 29 = .ok (.aload_n 1, 1) := by decide +kernel
theorem e_W_writeValue_29 {a0 a2 a3 : Option Value} : q_W_writeValue S (f + 1) 29 [a0, some (.ref i), a2, a3] st h = (q_W_writeValue S f 30 [a0, some (.ref i), a2, a3] (.ref i :: st) h) := by rw [q_W_writeValue, hz_w_at d_W_writeValue_29]; rfl
theorem e_W_writeValue_29n {a0 a2 a3 : Option Value} : q_W_writeValue S (f + 1) 29 [a0, some .null, a2, a3] st h = (q_W_writeValue S f 30 [a0, some .null, a2, a3] (.null :: st) h) := by rw [q_W_writeValue, hz_w_at d_W_writeValue_29]; rfl
theorem d_W_writeValue_30 : decode c_W_writeValue 30 = .ok (.bipush 91, 2) := by decide +kernel
theorem e_W_writeValue_30 : q_W_writeValue S (f + 1) 30 L st h = (q_W_writeValue S f 32 L (.int (hz_n 91) :: st) h) := by rw [q_W_writeValue, hz_w_at d_W_writeValue_30]; rfl
theorem d_W_writeValue_32 : decode c_W_writeValue 32 = .ok (.invokevirtual 53, 3) := by decide +kernel
theorem e_W_writeValue_32 : q_W_writeValue S (f + 1) 32 L st h = (S 32 L st h) := by rw [q_W_writeValue, hz_w_at d_W_writeValue_32]; rfl
theorem d_W_writeValue_35 : decode c_W_writeValue 35 = .ok (.ifCond .eq 32, 3) := by decide +kernel
theorem e_W_writeValue_35 : q_W_writeValue S (f + 1) 35 L (.int x :: st) h = ((x.toInt = 0 → q_W_writeValue S f 67 L st h) ∧ (¬ (x.toInt = 0) → q_W_writeValue S f 38 L st h)) := by rw [q_W_writeValue, hz_w_at d_W_writeValue_35]; rfl
theorem d_W_writeValue_38 : decode c_W_writeValue 38 = .ok (.aload_n 0, 1) := by decide +kernel
theorem e_W_writeValue_38 {a1 a2 a3 : Option Value} : q_W_writeValue S (f + 1) 38 [some (.ref i), a1, a2, a3] st h = (q_W_writeValue S f 39 [some (.ref i), a1, a2, a3] (.ref i :: st) h) := by rw [q_W_writeValue, hz_w_at d_W_writeValue_38]; rfl
theorem e_W_writeValue_38n {a1 a2 a3 : Option Value} : q_W_writeValue S (f + 1) 38 [some .null, a1, a2, a3] st h = (q_W_writeValue S f 39 [some .null, a1, a2, a3] (.null :: st) h) := by rw [q_W_writeValue, hz_w_at d_W_writeValue_38]; rfl
theorem d_W_writeValue_39 : decode c_W_writeValue 39 = .ok (.getfield 19, 3) := by decide +kernel
theorem e_W_writeValue_39 : q_W_writeValue S (f + 1) 39 L (.ref i :: st) h = (hz_rd h i 3 2 fun v => q_W_writeValue S f 42 L (v :: st) h) := by rw [q_W_writeValue, hz_w_at d_W_writeValue_39]; rfl
theorem d_W_writeValue_42 : decode c_W_writeValue 42 = .ok (.aload_n 0, 1) := by decide +kernel
theorem e_W_writeValue_42 {a1 a2 a3 : Option Value} : q_W_writeValue S (f + 1) 42 [some (.ref i), a1, a2, a3] st h = (q_W_writeValue S f 43 [some (.ref i), a1, a2, a3] (.ref i :: st) h) := by rw [q_W_writeValue, hz_w_at d_W_writeValue_42]; rfl
theorem e_W_writeValue_42n {a1 a2 a3 : Option Value} : q_W_writeValue S (f + 1) 42 [some .null, a1, a2, a3] st h = (q_W_writeValue S f 43 [some .null, a1, a2, a3] (.null :: st) h) := by rw [q_W_writeValue, hz_w_at d_W_writeValue_42]; rfl
theorem d_W_writeValue_43 : decode c_W_writeValue 43 = .ok (.getfield 23, 3) := by decide +kernel
theorem e_W_writeValue_43 : q_W_writeValue S (f + 1) 43 L (.ref i :: st) h = (hz_rd h i 3 3 fun v => q_W_writeValue S f 46 L (v :: st) h) := by rw [q_W_writeValue, hz_w_at d_W_writeValue_43]; rfl
theorem d_W_writeValue_46 : decode c_W_writeValue 46 = .ok (.iload_n 3, 1) := by decide +kernel
theorem e_W_writeValue_46 {a0 a1 a2 : Option Value} : q_W_writeValue S (f + 1) 46 [a0, a1, a2, some (.int x)] st h = (q_W_writeValue S f 47 [a0, a1, a2, some (.int x)] (.int x :: st) h) := by rw [q_W_writeValue, hz_w_at d_W_writeValue_46]; rfl
theorem d_W_writeValue_47 : decode c_W_writeValue 47 = .ok (.iastore, 1) := by decide +kernel
theorem e_W_writeValue_47 : q_W_writeValue S (f + 1) 47 L (.int y :: .int x :: .ref i :: st) h = (hz_es zKT hz_kI h i x (.int y) fun h => q_W_writeValue S f 48 L st h) := by rw [q_W_writeValue, hz_w_at d_W_writeValue_47]; rfl
theorem d_W_writeValue_48 : decode c_W_writeValue 48 = .ok (.aload_n 0, 1) := by decide +kernel
theorem e_W_writeValue_48 {a1 a2 a3 : Option Value} : q_W_writeValue S (f + 1) 48 [some (.ref i), a1, a2, a3] st h = (q_W_writeValue S f 49 [some (.ref i), a1, a2, a3] (.ref i :: st) h) := by rw [q_W_writeValue, hz_w_at d_W_writeValue_48]; rfl
theorem e_W_writeValue_48n {a1 a2 a3 : Option Value} : q_W_writeValue S (f + 1) 48 [some .null, a1, a2, a3] st h = (q_W_writeValue S f 49 [some .null, a1, a2, a3] (.null :: st) h) := by rw [q_W_writeValue, hz_w_at d_W_writeValue_48]; rfl
theorem d_W_writeValue_49 : decode c_W_writeValue 49 = .ok (.dup, 1) := by decide +kernel
theorem e_W_writeValue_49 : q_W_writeValue S (f + 1) 49 L (.ref i :: st) h = (q_W_writeValue S f 50 L (.ref i :: .ref i :: st) h) := by rw [q_W_writeValue, hz_w_at d_W_writeValue_49]; rfl
theorem e_W_writeValue_49i : q_W_writeValue S (f + 1) 49 L (.int x :: st) h = (q_W_writeValue S f 50 L (.int x :: .int x :: st) h) := by rw [q_W_writeValue, hz_w_at d_W_writeValue_49]; rfl
theorem d_W_writeValue_50 : decode c_W_writeValue 50 = .ok (.getfield 23, 3) := by decide +kernel
theorem e_W_writeValue_50 : q_W_writeValue S (f + 1) 50 L (.ref i :: st) h = (hz_rd h i 3 3 fun v => q_W_writeValue S f 53 L (v :: st) h) := by rw [q_W_writeValue, hz_w_at d_W_writeValue_50]; rfl
theorem d_W_writeValue_53 : decode c_W_writeValue 53 = .ok (.iconst 1, 1) := by decide +kernel
theorem e_W_writeValue_53 : q_W_writeValue S (f + 1) 53 L st h = (q_W_writeValue S f 54 L (.int (hz_n 1) :: st) h) := by rw [q_W_writeValue, hz_w_at d_W_writeValue_53]; rfl
theorem d_W_writeValue_54 : decode c_W_writeValue 54 = .ok (.iadd, 1) := by decide +kernel
theorem e_W_writeValue_54 : q_W_writeValue S (f + 1) 54 L (.int y :: .int x :: st) h = (q_W_writeValue S f 55 L (.int (x + y) :: st) h) := by rw [q_W_writeValue, hz_w_at d_W_writeValue_54]; rfl
theorem d_W_writeValue_55 : decode c_W_writeValue 55 = .ok (.putfield 23, 3) := by decide +kernel
theorem e_W_writeValue_55 : q_W_writeValue S (f + 1) 55 L (.int x :: .ref i :: st) h = (hz_wr h i 3 3 (.int x) fun h => q_W_writeValue S f 58 L st h) := by rw [q_W_writeValue, hz_w_at d_W_writeValue_55]; rfl
theorem d_W_writeValue_58 : decode c_W_writeValue 58 = .ok (.aload_n 0, 1) := by decide +kernel
theorem e_W_writeValue_58 {a1 a2 a3 : Option Value} : q_W_writeValue S (f + 1) 58 [some (.ref i), a1, a2, a3] st h = (q_W_writeValue S f 59 [some (.ref i), a1, a2, a3] (.ref i :: st) h) := by rw [q_W_writeValue, hz_w_at d_W_writeValue_58]; rfl
theorem e_W_writeValue_58n {a1 a2 a3 : Option Value} : q_W_writeValue S (f + 1) 58 [some .null, a1, a2, a3] st h = (q_W_writeValue S f 59 [some .null, a1, a2, a3] (.null :: st) h) := by rw [q_W_writeValue, hz_w_at d_W_writeValue_58]; rfl
theorem d_W_writeValue_59 : decode c_W_writeValue 59 = .ok (.aload_n 1, 1) := by decide +kernel
theorem e_W_writeValue_59 {a0 a2 a3 : Option Value} : q_W_writeValue S (f + 1) 59 [a0, some (.ref i), a2, a3] st h = (q_W_writeValue S f 60 [a0, some (.ref i), a2, a3] (.ref i :: st) h) := by rw [q_W_writeValue, hz_w_at d_W_writeValue_59]; rfl
theorem e_W_writeValue_59n {a0 a2 a3 : Option Value} : q_W_writeValue S (f + 1) 59 [a0, some .null, a2, a3] st h = (q_W_writeValue S f 60 [a0, some .null, a2, a3] (.null :: st) h) := by rw [q_W_writeValue, hz_w_at d_W_writeValue_59]; rfl
theorem d_W_writeValue_60 : decode c_W_writeValue 60 = .ok (.iload_n 3, 1) := by decide +kernel
theorem e_W_writeValue_60 {a0 a1 a2 : Option Value} : q_W_writeValue S (f + 1) 60 [a0, a1, a2, some (.int x)] st h = (q_W_writeValue S f 61 [a0, a1, a2, some (.int x)] (.int x :: st) h) := by rw [q_W_writeValue, hz_w_at d_W_writeValue_60]; rfl
theorem d_W_writeValue_61 : decode c_W_writeValue 61 = .ok (.invokevirtual 57, 3) := by decide +kernel
theorem e_W_writeValue_61 : q_W_writeValue S (f + 1) 61 L st h = (S 61 L st h) := by rw [q_W_writeValue, hz_w_at d_W_writeValue_61]; rfl
theorem d_W_writeValue_64 : decode c_W_writeValue 64 = .ok (.putfield 26, 3) := by decide +kernel
theorem e_W_writeValue_64 : q_W_writeValue S (f + 1) 64 L (.int x :: .ref i :: st) h = (hz_wr h i 3 4 (.int x) fun h => q_W_writeValue S f 67 L st h) := by rw [q_W_writeValue, hz_w_at d_W_writeValue_64]; rfl
theorem d_W_writeValue_67 : decode c_W_writeValue 67 = .ok (.return_, 1) := by decide +kernel
theorem e_W_writeValue_67 : q_W_writeValue S (f + 1) 67 L st h = (S 67 L st h) := by rw [q_W_writeValue, hz_w_at d_W_writeValue_67]; rfl
theorem d_W_writeValue_68 : decode c_W_writeValue 68 = .ok (.aload_n 0, 1) := by decide +kernel
theorem e_W_writeValue_68 {a1 a2 a3 : Option Value} : q_W_writeValue S (f + 1) 68 [some (.ref i), a1, a2, a3] st h = (q_W_writeValue S f 69 [some (.ref i), a1, a2, a3] (.ref i :: st) h) := by rw [q_W_writeValue, hz_w_at d_W_writeValue_68]; rfl
theorem e_W_writeValue_68n {a1 a2 a3 : Option Value} : q_W_writeValue S (f + 1) 68 [some .null, a1, a2, a3] st h = (q_W_writeValue S f 69 [some .null, a1, a2, a3] (.null :: st) h) := by rw [q_W_writeValue, hz_w_at d_W_writeValue_68]; rfl
theorem d_W_writeValue_69 : decode c_W_writeValue 69 = .ok (.aload_n 1, 1) := by decide +kernel
theorem e_W_writeValue_69 {a0 a2 a3 : Option Value} : q_W_writeValue S (f + 1) 69 [a0, some (.ref i), a2, a3] st h = (q_W_writeValue S f 70 [a0, some (.ref i), a2, a3] (.ref i :: st) h) := by rw [q_W_writeValue, hz_w_at d_W_writeValue_69]; rfl
theorem e_W_writeValue_69n {a0 a2 a3 : Option Value} : q_W_writeValue S (f + 1) 69 [a0, some .null, a2, a3] st h = (q_W_writeValue S f 70 [a0, some .null, a2, a3] (.null :: st) h) := by rw [q_W_writeValue, hz_w_at d_W_writeValue_69]; rfl
theorem d_W_writeValue_70 : decode c_W_writeValue 70 = .ok (.iload_n 3, 1) := by decide +kernel
theorem e_W_writeValue_70 {a0 a1 a2 : Option Value} : q_W_writeValue S (f + 1) 70 [a0, a1, a2, some (.int x)] st h = (q_W_writeValue S f 71 [a0, a1, a2, some (.int x)] (.int x :: st) h) := by rw [q_W_writeValue, hz_w_at d_W_writeValue_70]; rfl
theorem d_W_writeValue_71 : decode c_W_writeValue 71 = .ok (.invokevirtual 61, 3) := by decide +kernel
theorem e_W_writeValue_71 : q_W_writeValue S (f + 1) 71 L st h = (S 71 L st h) := by rw [q_W_writeValue, hz_w_at d_W_writeValue_71]; rfl
theorem d_W_writeValue_74 : decode c_W_writeValue 74 = .ok (.goto 30, 3) := by decide +kernel
theorem e_W_writeValue_74 : q_W_writeValue S (f + 1) 74 L st h = (q_W_writeValue S f 104 L st h) := by rw [q_W_writeValue, hz_w_at d_W_writeValue_74]; rfl
theorem d_W_writeValue_77 : decode c_W_writeValue 77 = .ok (.aload_n 0, 1) := by decide +kernel
theorem e_W_writeValue_77 {a1 a2 a3 : Option Value} : q_W_writeValue S (f + 1) 77 [some (.ref i), a1, a2, a3] st h = (q_W_writeValue S f 78 [some (.ref i), a1, a2, a3] (.ref i :: st) h) := by rw [q_W_writeValue, hz_w_at d_W_writeValue_77]; rfl
theorem e_W_writeValue_77n {a1 a2 a3 : Option Value} : q_W_writeValue S (f + 1) 77 [some .null, a1, a2, a3] st h = (q_W_writeValue S f 78 [some .null, a1, a2, a3] (.null :: st) h) := by rw [q_W_writeValue, hz_w_at d_W_writeValue_77]; rfl
theorem d_W_writeValue_78 : decode c_W_writeValue 78 = .ok (.aload_n 1, 1) := by decide +kernel
theorem e_W_writeValue_78 {a0 a2 a3 : Option Value} : q_W_writeValue S (f + 1) 78 [a0, some (.ref i), a2, a3] st h = (q_W_writeValue S f 79 [a0, some (.ref i), a2, a3] (.ref i :: st) h) := by rw [q_W_writeValue, hz_w_at d_W_writeValue_78]; rfl
theorem e_W_writeValue_78n {a0 a2 a3 : Option Value} : q_W_writeValue S (f + 1) 78 [a0, some .null, a2, a3] st h = (q_W_writeValue S f 79 [a0, some .null, a2, a3] (.null :: st) h) := by rw [q_W_writeValue, hz_w_at d_W_writeValue_78]; rfl
theorem d_W_writeValue_79 : decode c_W_writeValue 79 = .ok (.bipush 91, 2) := by decide +kernel
theorem e_W_writeValue_79 : q_W_writeValue S (f + 1) 79 L st h = (q_W_writeValue S f 81 L (.int (hz_n 91) :: st) h) := by rw [q_W_writeValue, hz_w_at d_W_writeValue_79]; rfl
theorem d_W_writeValue_81 : decode c_W_writeValue 81 = .ok (.invokevirtual 53, 3) := by decide +kernel
theorem e_W_writeValue_81 : q_W_writeValue S (f + 1) 81 L st h = (S 81 L st h) := by rw [q_W_writeValue, hz_w_at d_W_writeValue_81]; rfl
theorem d_W_writeValue_84 : decode c_W_writeValue 84 = .ok (.pop, 1) := by decide +kernel
theorem e_W_writeValue_84 : q_W_writeValue S (f + 1) 84 L (.ref i :: st) h = (q_W_writeValue S f 85 L st h) := by rw [q_W_writeValue, hz_w_at d_W_writeValue_84]; rfl
theorem e_W_writeValue_84i : q_W_writeValue S (f + 1) 84 L (.int x :: st) h = (q_W_writeValue S f 85 L st h) := by rw [q_W_writeValue, hz_w_at d_W_writeValue_84]; rfl
theorem d_W_writeValue_85 : decode c_W_writeValue 85 = .ok (.aload_n 0, 1) := by decide +kernel
theorem e_W_writeValue_85 {a1 a2 a3 : Option Value} : q_W_writeValue S (f + 1) 85 [some (.ref i), a1, a2, a3] st h = (q_W_writeValue S f 86 [some (.ref i), a1, a2, a3] (.ref i :: st) h) := by rw [q_W_writeValue, hz_w_at d_W_writeValue_85]; rfl
theorem e_W_writeValue_85n {a1 a2 a3 : Option Value} : q_W_writeValue S (f + 1) 85 [some .null, a1, a2, a3] st h = (q_W_writeValue S f 86 [some .null, a1, a2, a3] (.null :: st) h) := by rw [q_W_writeValue, hz_w_at d_W_writeValue_85]; rfl
theorem d_W_writeValue_86 : decode c_W_writeValue 86 = .ok (.aload_n 1, 1) := by decide +kernel
theorem e_W_writeValue_86 {a0 a2 a3 : Option Value} : q_W_writeValue S (f + 1) 86 [a0, some (.ref i), a2, a3] st h = (q_W_writeValue S f 87 [a0, some (.ref i), a2, a3] (.ref i :: st) h) := by rw [q_W_writeValue, hz_w_at d_W_writeValue_86]; rfl
theorem e_W_writeValue_86n {a0 a2 a3 : Option Value} : q_W_writeValue S (f + 1) 86 [a0, some .null, a2, a3] st h = (q_W_writeValue S f 87 [a0, some .null, a2, a3] (.null :: st) h) := by rw [q_W_writeValue, hz_w_at d_W_writeValue_86]; rfl
theorem d_W_writeValue_87 : decode c_W_writeValue 87 = .ok (.bipush 93, 2) := by decide +kernel
theorem e_W_writeValue_87 : q_W_writeValue S (f + 1) 87 L st h = (q_W_writeValue S f 89 L (.int (hz_n 93) :: st) h) := by rw [q_W_writeValue, hz_w_at d_W_writeValue_87]; rfl
theorem d_W_writeValue_89 : decode c_W_writeValue 89 = .ok (.invokevirtual 53, 3) := by decide +kernel
theorem e_W_writeValue_89 : q_W_writeValue S (f + 1) 89 L st h = (S 89 L st h) := by rw [q_W_writeValue, hz_w_at d_W_writeValue_89]; rfl
theorem d_W_writeValue_92 : decode c_W_writeValue 92 = .ok (.pop, 1) := by decide +kernel
theorem e_W_writeValue_92 : q_W_writeValue S (f + 1) 92 L (.ref i :: st) h = (q_W_writeValue S f 93 L st h) := by rw [q_W_writeValue, hz_w_at d_W_writeValue_92]; rfl
theorem e_W_writeValue_92i : q_W_writeValue S (f + 1) 92 L (.int x :: st) h = (q_W_writeValue S f 93 L st h) := by rw [q_W_writeValue, hz_w_at d_W_writeValue_92]; rfl
theorem d_W_writeValue_93 : decode c_W_writeValue 93 = .ok (.goto 11, 3) := by decide +kernel
theorem e_W_writeValue_93 : q_W_writeValue S (f + 1) 93 L st h = (q_W_writeValue S f 104 L st h) := by rw [q_W_writeValue, hz_w_at d_W_writeValue_93]; rfl
theorem d_W_writeValue_96 : decode c_W_writeValue 96 = .ok (.aload_n 0, 1) := by decide +kernel
theorem e_W_writeValue_96 {a1 a2 a3 : Option Value} : q_W_writeValue S (f + 1) 96 [some (.ref i), a1, a2, a3] st h = (q_W_writeValue S f 97 [some (.ref i), a1, a2, a3] (.ref i :: st) h) := by rw [q_W_writeValue, hz_w_at d_W_writeValue_96]; rfl
theorem e_W_writeValue_96n {a1 a2 a3 : Option Value} : q_W_writeValue S (f + 1) 96 [some .null, a1, a2, a3] st h = (q_W_writeValue S f 97 [some .null, a1, a2, a3] (.null :: st) h) := by rw [q_W_writeValue, hz_w_at d_W_writeValue_96]; rfl
theorem d_W_writeValue_97 : decode c_W_writeValue 97 = .ok (.aload_n 1, 1) := by decide +kernel
theorem e_W_writeValue_97 {a0 a2 a3 : Option Value} : q_W_writeValue S (f + 1) 97 [a0, some (.ref i), a2, a3] st h = (q_W_writeValue S f 98 [a0, some (.ref i), a2, a3] (.ref i :: st) h) := by rw [q_W_writeValue, hz_w_at d_W_writeValue_97]; rfl
theorem e_W_writeValue_97n {a0 a2 a3 : Option Value} : q_W_writeValue S (f + 1) 97 [a0, some .null, a2, a3] st h = (q_W_writeValue S f 98 [a0, some .null, a2, a3] (.null :: st) h) := by rw [q_W_writeValue, hz_w_at d_W_writeValue_97]; rfl
theorem d_W_writeValue_98 : decode c_W_writeValue 98 = .ok (.bipush 92, 2) := by decide +kernel
theorem e_W_writeValue_98 : q_W_writeValue S (f + 1) 98 L st h = (q_W_writeValue S f 100 L (.int (hz_n 92) :: st) h) := by rw [q_W_writeValue, hz_w_at d_W_writeValue_98]; rfl
theorem d_W_writeValue_100 : decode c_W_writeValue 100 = .ok (.invokevirtual 53, 3) := by decide +kernel
theorem e_W_writeValue_100 : q_W_writeValue S (f + 1) 100 L st h = (S 100 L st h) := by rw [q_W_writeValue, hz_w_at d_W_writeValue_100]; rfl
theorem d_W_writeValue_103 : decode c_W_writeValue 103 = .ok (.pop, 1) := by decide +kernel
theorem e_W_writeValue_103 : q_W_writeValue S (f + 1) 103 L (.ref i :: st) h = (q_W_writeValue S f 104 L st h) := by rw [q_W_writeValue, hz_w_at d_W_writeValue_103]; rfl
theorem e_W_writeValue_103i : q_W_writeValue S (f + 1) 103 L (.int x :: st) h = (q_W_writeValue S f 104 L st h) := by rw [q_W_writeValue, hz_w_at d_W_writeValue_103]; rfl
theorem d_W_writeValue_104 : decode c_W_writeValue 104 = .ok (.aload_n 0, 1) := by decide +kernel
theorem e_W_writeValue_104 {a1 a2 a3 : Option Value} : q_W_writeValue S (f + 1) 104 [some (.ref i), a1, a2, a3] st h = (q_W_writeValue S f 105 [some (.ref i), a1, a2, a3] (.ref i :: st) h) := by rw [q_W_writeValue, hz_w_at d_W_writeValue_104]; rfl
theorem e_W_writeValue_104n {a1 a2 a3 : Option Value} : q_W_writeValue S (f + 1) 104 [some .null, a1, a2, a3] st h = (q_W_writeValue S f 105 [some .null, a1, a2, a3] (.null :: st) h) := by rw [q_W_writeValue, hz_w_at d_W_writeValue_104]; rfl
theorem d_W_writeValue_105 : decode c_W_writeValue 105 = .ok (.aload_n 1, 1) := by decide +kernel
theorem e_W_writeValue_105 {a0 a2 a3 : Option Value} : q_W_writeValue S (f + 1) 105 [a0, some (.ref i), a2, a3] st h = (q_W_writeValue S f 106 [a0, some (.ref i), a2, a3] (.ref i :: st) h) := by rw [q_W_writeValue, hz_w_at d_W_writeValue_105]; rfl
theorem e_W_writeValue_105n {a0 a2 a3 : Option Value} : q_W_writeValue S (f + 1) 105 [a0, some .null, a2, a3] st h = (q_W_writeValue S f 106 [a0, some .null, a2, a3] (.null :: st) h) := by rw [q_W_writeValue, hz_w_at d_W_writeValue_105]; rfl
theorem d_W_writeValue_106 : decode c_W_writeValue 106 = .ok (.invokevirtual 65, 3) := by decide +kernel
theorem e_W_writeValue_106 : q_W_writeValue S (f + 1) 106 L st h = (S 106 L st h) := by rw [q_W_writeValue, hz_w_at d_W_writeValue_106]; rfl
theorem d_W_writeValue_109 : decode c_W_writeValue 109 = .ok (.return_, 1) := by decide +kernel
theorem e_W_writeValue_109 : q_W_writeValue S (f + 1) 109 L st h = (S 109 L st h) := by rw [q_W_writeValue, hz_w_at d_W_writeValue_109]; rfl
end
abbrev q_W_writeRest (S : Nat → List (Option Value) → List Value → hz_H → Prop) := hz_w zCl zKT f_W n_W c_W_writeRest [] S
section
variable {S : Nat → List (Option Value) → List Value → hz_H → Prop} {f : Nat} {L : List (Option Value)} {st : List Value} {h : hz_H} {x y : Int32} {i j : Nat} {X Y : Int64}
theorem d_W_writeRest_0 : decode c_W_writeRest 0 = .ok (.iload_n 2, 1) := by decide +kernel
theorem e_W_writeRest_0 {a0 a1 a3 : Option Value} : q_W_writeRest S (f + 1) 0 [a0, a1, some (.int x), a3] st h = (q_W_writeRest S f 1 [a0, a1, some (.int x), a3] (.int x :: st) h) := by rw [q_W_writeRest, hz_w_at d_W_writeRest_0]; rfl
theorem d_W_writeRest_1 : decode c_W_writeRest 1 = .ok (.iconst 4, 1) := by decide +kernel
theorem e_W_writeRest_1 : q_W_writeRest S (f + 1) 1 L st h = (q_W_writeRest S f 2 L (.int (hz_n 4) :: st) h) := by rw [q_W_writeRest, hz_w_at d_W_writeRest_1]; rfl
theorem d_W_writeRest_2 : decode c_W_writeRest 2 = .ok (.if_icmp .ne 40, 3) := by decide +kernel
theorem e_W_writeRest_2 : q_W_writeRest S (f + 1) 2 L (.int y :: .int x :: st) h = ((¬ x.toInt = y.toInt → q_W_writeRest S f 42 L st h) ∧ (¬ (¬ x.toInt = y.toInt) → q_W_writeRest S f 5 L st h)) := by rw [q_W_writeRest, hz_w_at d_W_writeRest_2]; rfl
theorem d_W_writeRest_5 : decode c_W_writeRest 5 = .ok (.aload_n 0, 1) := by decide +kernel
theorem e_W_writeRest_5 {a1 a2 a3 : Option Value} : q_W_writeRest S (f + 1) 5 [some (.ref i), a1, a2, a3] st h = (q_W_writeRest S f 6 [some (.ref i), a1, a2, a3] (.ref i :: st) h) := by rw [q_W_writeRest, hz_w_at d_W_writeRest_5]; rfl
theorem e_W_writeRest_5n {a1 a2 a3 : Option Value} : q_W_writeRest S (f + 1) 5 [some .null, a1, a2, a3] st h = (q_W_writeRest S f 6 [some .null, a1, a2, a3] (.null :: st) h) := by rw [q_W_writeRest, hz_w_at d_W_writeRest_5]; rfl
theorem d_W_writeRest_6 : decode c_W_writeRest 6 = .ok (.aload_n 1, 1) := by decide +kernel
theorem e_W_writeRest_6 {a0 a2 a3 : Option Value} : q_W_writeRest S (f + 1) 6 [a0, some (.ref i), a2, a3] st h = (q_W_writeRest S f 7 [a0, some (.ref i), a2, a3] (.ref i :: st) h) := by rw [q_W_writeRest, hz_w_at d_W_writeRest_6]; rfl
theorem e_W_writeRest_6n {a0 a2 a3 : Option Value} : q_W_writeRest S (f + 1) 6 [a0, some .null, a2, a3] st h = (q_W_writeRest S f 7 [a0, some .null, a2, a3] (.null :: st) h) := by rw [q_W_writeRest, hz_w_at d_W_writeRest_6]; rfl
theorem d_W_writeRest_7 : decode c_W_writeRest 7 = .ok (.bipush 44, 2) := by decide +kernel
theorem e_W_writeRest_7 : q_W_writeRest S (f + 1) 7 L st h = (q_W_writeRest S f 9 L (.int (hz_n 44) :: st) h) := by rw [q_W_writeRest, hz_w_at d_W_writeRest_7]; rfl
theorem d_W_writeRest_9 : decode c_W_writeRest 9 = .ok (.invokevirtual 53, 3) := by decide +kernel
theorem e_W_writeRest_9 : q_W_writeRest S (f + 1) 9 L st h = (S 9 L st h) := by rw [q_W_writeRest, hz_w_at d_W_writeRest_9]; rfl
theorem d_W_writeRest_12 : decode c_W_writeRest 12 = .ok (.pop, 1) := by decide +kernel
theorem e_W_writeRest_12 : q_W_writeRest S (f + 1) 12 L (.ref i :: st) h = (q_W_writeRest S f 13 L st h) := by rw [q_W_writeRest, hz_w_at d_W_writeRest_12]; rfl
theorem e_W_writeRest_12i : q_W_writeRest S (f + 1) 12 L (.int x :: st) h = (q_W_writeRest S f 13 L st h) := by rw [q_W_writeRest, hz_w_at d_W_writeRest_12]; rfl
theorem d_W_writeRest_13 : decode c_W_writeRest 13 = .ok (.aload_n 0, 1) := by decide +kernel
theorem e_W_writeRest_13 {a1 a2 a3 : Option Value} : q_W_writeRest S (f + 1) 13 [some (.ref i), a1, a2, a3] st h = (q_W_writeRest S f 14 [some (.ref i), a1, a2, a3] (.ref i :: st) h) := by rw [q_W_writeRest, hz_w_at d_W_writeRest_13]; rfl
theorem e_W_writeRest_13n {a1 a2 a3 : Option Value} : q_W_writeRest S (f + 1) 13 [some .null, a1, a2, a3] st h = (q_W_writeRest S f 14 [some .null, a1, a2, a3] (.null :: st) h) := by rw [q_W_writeRest, hz_w_at d_W_writeRest_13]; rfl
theorem d_W_writeRest_14 : decode c_W_writeRest 14 = .ok (.getfield 19, 3) := by decide +kernel
theorem e_W_writeRest_14 : q_W_writeRest S (f + 1) 14 L (.ref i :: st) h = (hz_rd h i 3 2 fun v => q_W_writeRest S f 17 L (v :: st) h) := by rw [q_W_writeRest, hz_w_at d_W_writeRest_14]; rfl
theorem d_W_writeRest_17 : decode c_W_writeRest 17 = .ok (.aload_n 0, 1) := by decide +kernel
theorem e_W_writeRest_17 {a1 a2 a3 : Option Value} : q_W_writeRest S (f + 1) 17 [some (.ref i), a1, a2, a3] st h = (q_W_writeRest S f 18 [some (.ref i), a1, a2, a3] (.ref i :: st) h) := by rw [q_W_writeRest, hz_w_at d_W_writeRest_17]; rfl
theorem e_W_writeRest_17n {a1 a2 a3 : Option Value} : q_W_writeRest S (f + 1) 17 [some .null, a1, a2, a3] st h = (q_W_writeRest S f 18 [some .null, a1, a2, a3] (.null :: st) h) := by rw [q_W_writeRest, hz_w_at d_W_writeRest_17]; rfl
theorem d_W_writeRest_18 : decode c_W_writeRest 18 = .ok (.getfield 23, 3) := by decide +kernel
theorem e_W_writeRest_18 : q_W_writeRest S (f + 1) 18 L (.ref i :: st) h = (hz_rd h i 3 3 fun v => q_W_writeRest S f 21 L (v :: st) h) := by rw [q_W_writeRest, hz_w_at d_W_writeRest_18]; rfl
theorem d_W_writeRest_21 : decode c_W_writeRest 21 = .ok (.iconst 1, 1) := by decide +kernel
theorem e_W_writeRest_21 : q_W_writeRest S (f + 1) 21 L st h = (q_W_writeRest S f 22 L (.int (hz_n 1) :: st) h) := by rw [q_W_writeRest, hz_w_at d_W_writeRest_21]; rfl
theorem d_W_writeRest_22 : decode c_W_writeRest 22 = .ok (.isub, 1) := by decide +kernel
theorem e_W_writeRest_22 : q_W_writeRest S (f + 1) 22 L (.int y :: .int x :: st) h = (q_W_writeRest S f 23 L (.int (x - y) :: st) h) := by rw [q_W_writeRest, hz_w_at d_W_writeRest_22]; rfl
theorem d_W_writeRest_23 : decode c_W_writeRest 23 = .ok (.iload_n 3, 1) := by decide +kernel
theorem e_W_writeRest_23 {a0 a1 a2 : Option Value} : q_W_writeRest S (f + 1) 23 [a0, a1, a2, some (.int x)] st h = (q_W_writeRest S f 24 [a0, a1, a2, some (.int x)] (.int x :: st) h) := by rw [q_W_writeRest, hz_w_at d_W_writeRest_23]; rfl
theorem d_W_writeRest_24 : decode c_W_writeRest 24 = .ok (.iastore, 1) := by decide +kernel
theorem e_W_writeRest_24 : q_W_writeRest S (f + 1) 24 L (.int y :: .int x :: .ref i :: st) h = (hz_es zKT hz_kI h i x (.int y) fun h => q_W_writeRest S f 25 L st h) := by rw [q_W_writeRest, hz_w_at d_W_writeRest_24]; rfl
theorem d_W_writeRest_25 : decode c_W_writeRest 25 = .ok (.aload_n 0, 1) := by decide +kernel
theorem e_W_writeRest_25 {a1 a2 a3 : Option Value} : q_W_writeRest S (f + 1) 25 [some (.ref i), a1, a2, a3] st h = (q_W_writeRest S f 26 [some (.ref i), a1, a2, a3] (.ref i :: st) h) := by rw [q_W_writeRest, hz_w_at d_W_writeRest_25]; rfl
theorem e_W_writeRest_25n {a1 a2 a3 : Option Value} : q_W_writeRest S (f + 1) 25 [some .null, a1, a2, a3] st h = (q_W_writeRest S f 26 [some .null, a1, a2, a3] (.null :: st) h) := by rw [q_W_writeRest, hz_w_at d_W_writeRest_25]; rfl
theorem d_W_writeRest_26 : decode c_W_writeRest 26 = .ok (.aload_n 1, 1) := by decide +kernel
theorem e_W_writeRest_26 {a0 a2 a3 : Option Value} : q_W_writeRest S (f + 1) 26 [a0, some (.ref i), a2, a3] st h = (q_W_writeRest S f 27 [a0, some (.ref i), a2, a3] (.ref i :: st) h) := by rw [q_W_writeRest, hz_w_at d_W_writeRest_26]; rfl
theorem e_W_writeRest_26n {a0 a2 a3 : Option Value} : q_W_writeRest S (f + 1) 26 [a0, some .null, a2, a3] st h = (q_W_writeRest S f 27 [a0, some .null, a2, a3] (.null :: st) h) := by rw [q_W_writeRest, hz_w_at d_W_writeRest_26]; rfl
theorem d_W_writeRest_27 : decode c_W_writeRest 27 = .ok (.iload_n 3, 1) := by decide +kernel
theorem e_W_writeRest_27 {a0 a1 a2 : Option Value} : q_W_writeRest S (f + 1) 27 [a0, a1, a2, some (.int x)] st h = (q_W_writeRest S f 28 [a0, a1, a2, some (.int x)] (.int x :: st) h) := by rw [q_W_writeRest, hz_w_at d_W_writeRest_27]; rfl
theorem d_W_writeRest_28 : decode c_W_writeRest 28 = .ok (.invokevirtual 57, 3) := by decide +kernel
theorem e_W_writeRest_28 : q_W_writeRest S (f + 1) 28 L st h = (S 28 L st h) := by rw [q_W_writeRest, hz_w_at d_W_writeRest_28]; rfl
theorem d_W_writeRest_31 : decode c_W_writeRest 31 = .ok (.putfield 26, 3) := by decide +kernel
theorem e_W_writeRest_31 : q_W_writeRest S (f + 1) 31 L (.int x :: .ref i :: st) h = (hz_wr h i 3 4 (.int x) fun h => q_W_writeRest S f 34 L st h) := by rw [q_W_writeRest, hz_w_at d_W_writeRest_31]; rfl
theorem d_W_writeRest_34 : decode c_W_writeRest 34 = .ok (.aload_n 0, 1) := by decide +kernel
theorem e_W_writeRest_34 {a1 a2 a3 : Option Value} : q_W_writeRest S (f + 1) 34 [some (.ref i), a1, a2, a3] st h = (q_W_writeRest S f 35 [some (.ref i), a1, a2, a3] (.ref i :: st) h) := by rw [q_W_writeRest, hz_w_at d_W_writeRest_34]; rfl
theorem e_W_writeRest_34n {a1 a2 a3 : Option Value} : q_W_writeRest S (f + 1) 34 [some .null, a1, a2, a3] st h = (q_W_writeRest S f 35 [some .null, a1, a2, a3] (.null :: st) h) := by rw [q_W_writeRest, hz_w_at d_W_writeRest_34]; rfl
theorem d_W_writeRest_35 : decode c_W_writeRest 35 = .ok (.iconst 0, 1) := by decide +kernel
theorem e_W_writeRest_35 : q_W_writeRest S (f + 1) 35 L st h = (q_W_writeRest S f 36 L (.int (hz_n 0) :: st) h) := by rw [q_W_writeRest, hz_w_at d_W_writeRest_35]; rfl
theorem d_W_writeRest_36 : decode c_W_writeRest 36 = .ok (.putfield 29, 3) := by decide +kernel
theorem e_W_writeRest_36 : q_W_writeRest S (f + 1) 36 L (.int x :: .ref i :: st) h = ((narrow .boolean (.int x) = .int x ∧ fits .boolean (.int x) = true) ∧ hz_wr h i 3 5 (.int x) fun h => q_W_writeRest S f 39 L st h) := by rw [q_W_writeRest, hz_w_at d_W_writeRest_36]; rfl
theorem d_W_writeRest_39 : decode c_W_writeRest 39 = .ok (.goto 40, 3) := by decide +kernel
theorem e_W_writeRest_39 : q_W_writeRest S (f + 1) 39 L st h = (q_W_writeRest S f 79 L st h) := by rw [q_W_writeRest, hz_w_at d_W_writeRest_39]; rfl
theorem d_W_writeRest_42 : decode c_W_writeRest 42 = .ok (.iload_n 2, 1) := by decide +kernel
theorem e_W_writeRest_42 {a0 a1 a3 : Option Value} : q_W_writeRest S (f + 1) 42 [a0, a1, some (.int x), a3] st h = (q_W_writeRest S f 43 [a0, a1, some (.int x), a3] (.int x :: st) h) := by rw [q_W_writeRest, hz_w_at d_W_writeRest_42]; rfl
theorem d_W_writeRest_43 : decode c_W_writeRest 43 = .ok (.iconst 3, 1) := by decide +kernel
theorem e_W_writeRest_43 : q_W_writeRest S (f + 1) 43 L st h = (q_W_writeRest S f 44 L (.int (hz_n 3) :: st) h) := by rw [q_W_writeRest, hz_w_at d_W_writeRest_43]; rfl
theorem d_W_writeRest_44 : decode c_W_writeRest 44 = .ok (.if_icmp .ne 29, 3) := by decide +kernel
theorem e_W_writeRest_44 : q_W_writeRest S (f + 1) 44 L (.int y :: .int x :: st) h = ((¬ x.toInt = y.toInt → q_W_writeRest S f 73 L st h) ∧ (¬ (¬ x.toInt = y.toInt) → q_W_writeRest S f 47 L st h)) := by rw [q_W_writeRest, hz_w_at d_W_writeRest_44]; rfl
theorem d_W_writeRest_47 : decode c_W_writeRest 47 = .ok (.aload_n 0, 1) := by decide +kernel
theorem e_W_writeRest_47 {a1 a2 a3 : Option Value} : q_W_writeRest S (f + 1) 47 [some (.ref i), a1, a2, a3] st h = (q_W_writeRest S f 48 [some (.ref i), a1, a2, a3] (.ref i :: st) h) := by rw [q_W_writeRest, hz_w_at d_W_writeRest_47]; rfl
theorem e_W_writeRest_47n {a1 a2 a3 : Option Value} : q_W_writeRest S (f + 1) 47 [some .null, a1, a2, a3] st h = (q_W_writeRest S f 48 [some .null, a1, a2, a3] (.null :: st) h) := by rw [q_W_writeRest, hz_w_at d_W_writeRest_47]; rfl
theorem d_W_writeRest_48 : decode c_W_writeRest 48 = .ok (.aload_n 1, 1) := by decide +kernel
theorem e_W_writeRest_48 {a0 a2 a3 : Option Value} : q_W_writeRest S (f + 1) 48 [a0, some (.ref i), a2, a3] st h = (q_W_writeRest S f 49 [a0, some (.ref i), a2, a3] (.ref i :: st) h) := by rw [q_W_writeRest, hz_w_at d_W_writeRest_48]; rfl
theorem e_W_writeRest_48n {a0 a2 a3 : Option Value} : q_W_writeRest S (f + 1) 48 [a0, some .null, a2, a3] st h = (q_W_writeRest S f 49 [a0, some .null, a2, a3] (.null :: st) h) := by rw [q_W_writeRest, hz_w_at d_W_writeRest_48]; rfl
theorem d_W_writeRest_49 : decode c_W_writeRest 49 = .ok (.bipush 93, 2) := by decide +kernel
theorem e_W_writeRest_49 : q_W_writeRest S (f + 1) 49 L st h = (q_W_writeRest S f 51 L (.int (hz_n 93) :: st) h) := by rw [q_W_writeRest, hz_w_at d_W_writeRest_49]; rfl
theorem d_W_writeRest_51 : decode c_W_writeRest 51 = .ok (.invokevirtual 53, 3) := by decide +kernel
theorem e_W_writeRest_51 : q_W_writeRest S (f + 1) 51 L st h = (S 51 L st h) := by rw [q_W_writeRest, hz_w_at d_W_writeRest_51]; rfl
theorem d_W_writeRest_54 : decode c_W_writeRest 54 = .ok (.pop, 1) := by decide +kernel
theorem e_W_writeRest_54 : q_W_writeRest S (f + 1) 54 L (.ref i :: st) h = (q_W_writeRest S f 55 L st h) := by rw [q_W_writeRest, hz_w_at d_W_writeRest_54]; rfl
theorem e_W_writeRest_54i : q_W_writeRest S (f + 1) 54 L (.int x :: st) h = (q_W_writeRest S f 55 L st h) := by rw [q_W_writeRest, hz_w_at d_W_writeRest_54]; rfl
theorem d_W_writeRest_55 : decode c_W_writeRest 55 = .ok (.aload_n 0, 1) := by decide +kernel
theorem e_W_writeRest_55 {a1 a2 a3 : Option Value} : q_W_writeRest S (f + 1) 55 [some (.ref i), a1, a2, a3] st h = (q_W_writeRest S f 56 [some (.ref i), a1, a2, a3] (.ref i :: st) h) := by rw [q_W_writeRest, hz_w_at d_W_writeRest_55]; rfl
theorem e_W_writeRest_55n {a1 a2 a3 : Option Value} : q_W_writeRest S (f + 1) 55 [some .null, a1, a2, a3] st h = (q_W_writeRest S f 56 [some .null, a1, a2, a3] (.null :: st) h) := by rw [q_W_writeRest, hz_w_at d_W_writeRest_55]; rfl
theorem d_W_writeRest_56 : decode c_W_writeRest 56 = .ok (.dup, 1) := by decide +kernel
theorem e_W_writeRest_56 : q_W_writeRest S (f + 1) 56 L (.ref i :: st) h = (q_W_writeRest S f 57 L (.ref i :: .ref i :: st) h) := by rw [q_W_writeRest, hz_w_at d_W_writeRest_56]; rfl
theorem e_W_writeRest_56i : q_W_writeRest S (f + 1) 56 L (.int x :: st) h = (q_W_writeRest S f 57 L (.int x :: .int x :: st) h) := by rw [q_W_writeRest, hz_w_at d_W_writeRest_56]; rfl
theorem d_W_writeRest_57 : decode c_W_writeRest 57 = .ok (.getfield 23, 3) := by decide +kernel
theorem e_W_writeRest_57 : q_W_writeRest S (f + 1) 57 L (.ref i :: st) h = (hz_rd h i 3 3 fun v => q_W_writeRest S f 60 L (v :: st) h) := by rw [q_W_writeRest, hz_w_at d_W_writeRest_57]; rfl
theorem d_W_writeRest_60 : decode c_W_writeRest 60 = .ok (.iconst 1, 1) := by decide +kernel
theorem e_W_writeRest_60 : q_W_writeRest S (f + 1) 60 L st h = (q_W_writeRest S f 61 L (.int (hz_n 1) :: st) h) := by rw [q_W_writeRest, hz_w_at d_W_writeRest_60]; rfl
theorem d_W_writeRest_61 : decode c_W_writeRest 61 = .ok (.isub, 1) := by decide +kernel
theorem e_W_writeRest_61 : q_W_writeRest S (f + 1) 61 L (.int y :: .int x :: st) h = (q_W_writeRest S f 62 L (.int (x - y) :: st) h) := by rw [q_W_writeRest, hz_w_at d_W_writeRest_61]; rfl
theorem d_W_writeRest_62 : decode c_W_writeRest 62 = .ok (.putfield 23, 3) := by decide +kernel
theorem e_W_writeRest_62 : q_W_writeRest S (f + 1) 62 L (.int x :: .ref i :: st) h = (hz_wr h i 3 3 (.int x) fun h => q_W_writeRest S f 65 L st h) := by rw [q_W_writeRest, hz_w_at d_W_writeRest_62]; rfl
theorem d_W_writeRest_65 : decode c_W_writeRest 65 = .ok (.aload_n 0, 1) := by decide +kernel
theorem e_W_writeRest_65 {a1 a2 a3 : Option Value} : q_W_writeRest S (f + 1) 65 [some (.ref i), a1, a2, a3] st h = (q_W_writeRest S f 66 [some (.ref i), a1, a2, a3] (.ref i :: st) h) := by rw [q_W_writeRest, hz_w_at d_W_writeRest_65]; rfl
theorem e_W_writeRest_65n {a1 a2 a3 : Option Value} : q_W_writeRest S (f + 1) 65 [some .null, a1, a2, a3] st h = (q_W_writeRest S f 66 [some .null, a1, a2, a3] (.null :: st) h) := by rw [q_W_writeRest, hz_w_at d_W_writeRest_65]; rfl
theorem d_W_writeRest_66 : decode c_W_writeRest 66 = .ok (.aload_n 1, 1) := by decide +kernel
theorem e_W_writeRest_66 {a0 a2 a3 : Option Value} : q_W_writeRest S (f + 1) 66 [a0, some (.ref i), a2, a3] st h = (q_W_writeRest S f 67 [a0, some (.ref i), a2, a3] (.ref i :: st) h) := by rw [q_W_writeRest, hz_w_at d_W_writeRest_66]; rfl
theorem e_W_writeRest_66n {a0 a2 a3 : Option Value} : q_W_writeRest S (f + 1) 66 [a0, some .null, a2, a3] st h = (q_W_writeRest S f 67 [a0, some .null, a2, a3] (.null :: st) h) := by rw [q_W_writeRest, hz_w_at d_W_writeRest_66]; rfl
theorem d_W_writeRest_67 : decode c_W_writeRest 67 = .ok (.invokevirtual 65, 3) := by decide +kernel
theorem e_W_writeRest_67 : q_W_writeRest S (f + 1) 67 L st h = (S 67 L st h) := by rw [q_W_writeRest, hz_w_at d_W_writeRest_67]; rfl
theorem d_W_writeRest_70 : decode c_W_writeRest 70 = .ok (.goto 9, 3) := by decide +kernel
theorem e_W_writeRest_70 : q_W_writeRest S (f + 1) 70 L st h = (q_W_writeRest S f 79 L st h) := by rw [q_W_writeRest, hz_w_at d_W_writeRest_70]; rfl
theorem d_W_writeRest_73 : decode c_W_writeRest 73 = .ok (.aload_n 1, 1) := by decide +kernel
theorem e_W_writeRest_73 {a0 a2 a3 : Option Value} : q_W_writeRest S (f + 1) 73 [a0, some (.ref i), a2, a3] st h = (q_W_writeRest S f 74 [a0, some (.ref i), a2, a3] (.ref i :: st) h) := by rw [q_W_writeRest, hz_w_at d_W_writeRest_73]; rfl
theorem e_W_writeRest_73n {a0 a2 a3 : Option Value} : q_W_writeRest S (f + 1) 73 [a0, some .null, a2, a3] st h = (q_W_writeRest S f 74 [a0, some .null, a2, a3] (.null :: st) h) := by rw [q_W_writeRest, hz_w_at d_W_writeRest_73]; rfl
theorem d_W_writeRest_74 : decode c_W_writeRest 74 = .ok (.bipush (-3), 2) := by decide +kernel
theorem e_W_writeRest_74 : q_W_writeRest S (f + 1) 74 L st h = (q_W_writeRest S f 76 L (.int (hz_n (-3)) :: st) h) := by rw [q_W_writeRest, hz_w_at d_W_writeRest_74]; rfl
theorem d_W_writeRest_76 : decode c_W_writeRest 76 = .ok (.putfield 69, 3) := by decide +kernel
theorem e_W_writeRest_76 : q_W_writeRest S (f + 1) 76 L (.int x :: .ref i :: st) h = (hz_wr h i 1 13 (.int x) fun h => q_W_writeRest S f 79 L st h) := by rw [q_W_writeRest, hz_w_at d_W_writeRest_76]; rfl
theorem d_W_writeRest_79 : decode c_W_writeRest 79 = .ok (.return_, 1) := by decide +kernel
theorem e_W_writeRest_79 : q_W_writeRest S (f + 1) 79 L st h = (S 79 L st h) := by rw [q_W_writeRest, hz_w_at d_W_writeRest_79]; rfl
end
abbrev q_W_goOn (S : Nat → List (Option Value) → List Value → hz_H → Prop) := hz_w zCl zKT f_W n_W c_W_goOn [] S
section
variable {S : Nat → List (Option Value) → List Value → hz_H → Prop} {f : Nat} {L : List (Option Value)} {st : List Value} {h : hz_H} {x y : Int32} {i j : Nat} {X Y : Int64}
theorem d_W_goOn_0 : decode c_W_goOn 0 = .ok (.aload_n 0, 1) := by decide +kernel
theorem e_W_goOn_0 {a1 : Option Value} : q_W_goOn S (f + 1) 0 [some (.ref i), a1] st h = (q_W_goOn S f 1 [some (.ref i), a1] (.ref i :: st) h) := by rw [q_W_goOn, hz_w_at d_W_goOn_0]; rfl
theorem e_W_goOn_0n {a1 : Option Value} : q_W_goOn S (f + 1) 0 [some .null, a1] st h = (q_W_goOn S f 1 [some .null, a1] (.null :: st) h) := by rw [q_W_goOn, hz_w_at d_W_goOn_0]; rfl
theorem d_W_goOn_1 : decode c_W_goOn 1 = .ok (.aload_n 0, 1) := by decide +kernel
theorem e_W_goOn_1 {a1 : Option Value} : q_W_goOn S (f + 1) 1 [some (.ref i), a1] st h = (q_W_goOn S f 2 [some (.ref i), a1] (.ref i :: st) h) := by rw [q_W_goOn, hz_w_at d_W_goOn_1]; rfl
theorem e_W_goOn_1n {a1 : Option Value} : q_W_goOn S (f + 1) 1 [some .null, a1] st h = (q_W_goOn S f 2 [some .null, a1] (.null :: st) h) := by rw [q_W_goOn, hz_w_at d_W_goOn_1]; rfl
theorem d_W_goOn_2 : decode c_W_goOn 2 = .ok (.getfield 23, 3) := by decide +kernel
theorem e_W_goOn_2 : q_W_goOn S (f + 1) 2 L (.ref i :: st) h = (hz_rd h i 3 3 fun v => q_W_goOn S f 5 L (v :: st) h) := by rw [q_W_goOn, hz_w_at d_W_goOn_2]; rfl
theorem d_W_goOn_5 : decode c_W_goOn 5 = .ok (.ifCond .le 7, 3) := by decide +kernel
theorem e_W_goOn_5 : q_W_goOn S (f + 1) 5 L (.int x :: st) h = ((x.toInt ≤ 0 → q_W_goOn S f 12 L st h) ∧ (¬ (x.toInt ≤ 0) → q_W_goOn S f 8 L st h)) := by rw [q_W_goOn, hz_w_at d_W_goOn_5]; rfl
theorem d_W_goOn_8 : decode c_W_goOn 8 = .ok (.iconst 1, 1) := by decide +kernel
theorem e_W_goOn_8 : q_W_goOn S (f + 1) 8 L st h = (q_W_goOn S f 9 L (.int (hz_n 1) :: st) h) := by rw [q_W_goOn, hz_w_at d_W_goOn_8]; rfl
theorem d_W_goOn_9 : decode c_W_goOn 9 = .ok (.goto 4, 3) := by decide +kernel
theorem e_W_goOn_9 : q_W_goOn S (f + 1) 9 L st h = (q_W_goOn S f 13 L st h) := by rw [q_W_goOn, hz_w_at d_W_goOn_9]; rfl
theorem d_W_goOn_12 : decode c_W_goOn 12 = .ok (.iconst 0, 1) := by decide +kernel
theorem e_W_goOn_12 : q_W_goOn S (f + 1) 12 L st h = (q_W_goOn S f 13 L (.int (hz_n 0) :: st) h) := by rw [q_W_goOn, hz_w_at d_W_goOn_12]; rfl
theorem d_W_goOn_13 : decode c_W_goOn 13 = .ok (.putfield 29, 3) := by decide +kernel
theorem e_W_goOn_13 : q_W_goOn S (f + 1) 13 L (.int x :: .ref i :: st) h = ((narrow .boolean (.int x) = .int x ∧ fits .boolean (.int x) = true) ∧ hz_wr h i 3 5 (.int x) fun h => q_W_goOn S f 16 L st h) := by rw [q_W_goOn, hz_w_at d_W_goOn_13]; rfl
theorem d_W_goOn_16 : decode c_W_goOn 16 = .ok (.aload_n 0, 1) := by decide +kernel
theorem e_W_goOn_16 {a1 : Option Value} : q_W_goOn S (f + 1) 16 [some (.ref i), a1] st h = (q_W_goOn S f 17 [some (.ref i), a1] (.ref i :: st) h) := by rw [q_W_goOn, hz_w_at d_W_goOn_16]; rfl
theorem e_W_goOn_16n {a1 : Option Value} : q_W_goOn S (f + 1) 16 [some .null, a1] st h = (q_W_goOn S f 17 [some .null, a1] (.null :: st) h) := by rw [q_W_goOn, hz_w_at d_W_goOn_16]; rfl
theorem d_W_goOn_17 : decode c_W_goOn 17 = .ok (.aload_n 0, 1) := by decide +kernel
theorem e_W_goOn_17 {a1 : Option Value} : q_W_goOn S (f + 1) 17 [some (.ref i), a1] st h = (q_W_goOn S f 18 [some (.ref i), a1] (.ref i :: st) h) := by rw [q_W_goOn, hz_w_at d_W_goOn_17]; rfl
theorem e_W_goOn_17n {a1 : Option Value} : q_W_goOn S (f + 1) 17 [some .null, a1] st h = (q_W_goOn S f 18 [some .null, a1] (.null :: st) h) := by rw [q_W_goOn, hz_w_at d_W_goOn_17]; rfl
theorem d_W_goOn_18 : decode c_W_goOn 18 = .ok (.getfield 29, 3) := by decide +kernel
theorem e_W_goOn_18 : q_W_goOn S (f + 1) 18 L (.ref i :: st) h = (hz_rd h i 3 5 fun v => q_W_goOn S f 21 L (v :: st) h) := by rw [q_W_goOn, hz_w_at d_W_goOn_18]; rfl
theorem d_W_goOn_21 : decode c_W_goOn 21 = .ok (.ifCond .eq 21, 3) := by decide +kernel
theorem e_W_goOn_21 : q_W_goOn S (f + 1) 21 L (.int x :: st) h = ((x.toInt = 0 → q_W_goOn S f 42 L st h) ∧ (¬ (x.toInt = 0) → q_W_goOn S f 24 L st h)) := by rw [q_W_goOn, hz_w_at d_W_goOn_21]; rfl
theorem d_W_goOn_24 : decode c_W_goOn 24 = .ok (.aload_n 1, 1) := by decide +kernel
theorem e_W_goOn_24 {a0 : Option Value} : q_W_goOn S (f + 1) 24 [a0, some (.ref i)] st h = (q_W_goOn S f 25 [a0, some (.ref i)] (.ref i :: st) h) := by rw [q_W_goOn, hz_w_at d_W_goOn_24]; rfl
theorem e_W_goOn_24n {a0 : Option Value} : q_W_goOn S (f + 1) 24 [a0, some .null] st h = (q_W_goOn S f 25 [a0, some .null] (.null :: st) h) := by rw [q_W_goOn, hz_w_at d_W_goOn_24]; rfl
theorem d_W_goOn_25 : decode c_W_goOn 25 = .ok (.aload_n 0, 1) := by decide +kernel
theorem e_W_goOn_25 {a1 : Option Value} : q_W_goOn S (f + 1) 25 [some (.ref i), a1] st h = (q_W_goOn S f 26 [some (.ref i), a1] (.ref i :: st) h) := by rw [q_W_goOn, hz_w_at d_W_goOn_25]; rfl
theorem e_W_goOn_25n {a1 : Option Value} : q_W_goOn S (f + 1) 25 [some .null, a1] st h = (q_W_goOn S f 26 [some .null, a1] (.null :: st) h) := by rw [q_W_goOn, hz_w_at d_W_goOn_25]; rfl
theorem d_W_goOn_26 : decode c_W_goOn 26 = .ok (.getfield 19, 3) := by decide +kernel
theorem e_W_goOn_26 : q_W_goOn S (f + 1) 26 L (.ref i :: st) h = (hz_rd h i 3 2 fun v => q_W_goOn S f 29 L (v :: st) h) := by rw [q_W_goOn, hz_w_at d_W_goOn_26]; rfl
theorem d_W_goOn_29 : decode c_W_goOn 29 = .ok (.aload_n 0, 1) := by decide +kernel
theorem e_W_goOn_29 {a1 : Option Value} : q_W_goOn S (f + 1) 29 [some (.ref i), a1] st h = (q_W_goOn S f 30 [some (.ref i), a1] (.ref i :: st) h) := by rw [q_W_goOn, hz_w_at d_W_goOn_29]; rfl
theorem e_W_goOn_29n {a1 : Option Value} : q_W_goOn S (f + 1) 29 [some .null, a1] st h = (q_W_goOn S f 30 [some .null, a1] (.null :: st) h) := by rw [q_W_goOn, hz_w_at d_W_goOn_29]; rfl
theorem d_W_goOn_30 : decode c_W_goOn 30 = .ok (.getfield 23, 3) := by decide +kernel
theorem e_W_goOn_30 : q_W_goOn S (f + 1) 30 L (.ref i :: st) h = (hz_rd h i 3 3 fun v => q_W_goOn S f 33 L (v :: st) h) := by rw [q_W_goOn, hz_w_at d_W_goOn_30]; rfl
theorem d_W_goOn_33 : decode c_W_goOn 33 = .ok (.iconst 1, 1) := by decide +kernel
theorem e_W_goOn_33 : q_W_goOn S (f + 1) 33 L st h = (q_W_goOn S f 34 L (.int (hz_n 1) :: st) h) := by rw [q_W_goOn, hz_w_at d_W_goOn_33]; rfl
theorem d_W_goOn_34 : decode c_W_goOn 34 = .ok (.isub, 1) := by decide +kernel
theorem e_W_goOn_34 : q_W_goOn S (f + 1) 34 L (.int y :: .int x :: st) h = (q_W_goOn S f 35 L (.int (x - y) :: st) h) := by rw [q_W_goOn, hz_w_at d_W_goOn_34]; rfl
theorem d_W_goOn_35 : decode c_W_goOn 35 = .ok (.iaload, 1) := by decide +kernel
theorem e_W_goOn_35 : q_W_goOn S (f + 1) 35 L (.int x :: .ref i :: st) h = (hz_ea zKT hz_kI h i x fun v => q_W_goOn S f 36 L (v :: st) h) := by rw [q_W_goOn, hz_w_at d_W_goOn_35]; rfl
theorem d_W_goOn_36 : decode c_W_goOn 36 = .ok (.invokevirtual 72, 3) := by decide +kernel
theorem e_W_goOn_36 : q_W_goOn S (f + 1) 36 L st h = (S 36 L st h) := by rw [q_W_goOn, hz_w_at d_W_goOn_36]; rfl
theorem d_W_goOn_39 : decode c_W_goOn 39 = .ok (.goto 4, 3) := by decide +kernel
theorem e_W_goOn_39 : q_W_goOn S (f + 1) 39 L st h = (q_W_goOn S f 43 L st h) := by rw [q_W_goOn, hz_w_at d_W_goOn_39]; rfl
theorem d_W_goOn_42 : decode c_W_goOn 42 = .ok (.iconst (-1), 1) := by decide +kernel
theorem e_W_goOn_42 : q_W_goOn S (f + 1) 42 L st h = (q_W_goOn S f 43 L (.int (hz_n (-1)) :: st) h) := by rw [q_W_goOn, hz_w_at d_W_goOn_42]; rfl
theorem d_W_goOn_43 : decode c_W_goOn 43 = .ok (.putfield 26, 3) := by decide +kernel
theorem e_W_goOn_43 : q_W_goOn S (f + 1) 43 L (.int x :: .ref i :: st) h = (hz_wr h i 3 4 (.int x) fun h => q_W_goOn S f 46 L st h) := by rw [q_W_goOn, hz_w_at d_W_goOn_43]; rfl
theorem d_W_goOn_46 : decode c_W_goOn 46 = .ok (.return_, 1) := by decide +kernel
theorem e_W_goOn_46 : q_W_goOn S (f + 1) 46 L st h = (S 46 L st h) := by rw [q_W_goOn, hz_w_at d_W_goOn_46]; rfl
end
abbrev q_W_put (S : Nat → List (Option Value) → List Value → hz_H → Prop) := hz_w zCl zKT f_W n_W c_W_put [] S
section
variable {S : Nat → List (Option Value) → List Value → hz_H → Prop} {f : Nat} {L : List (Option Value)} {st : List Value} {h : hz_H} {x y : Int32} {i j : Nat} {X Y : Int64}
theorem d_W_put_0 : decode c_W_put 0 = .ok (.aload_n 0, 1) := by decide +kernel
theorem e_W_put_0 {a1 a2 : Option Value} : q_W_put S (f + 1) 0 [some (.ref i), a1, a2] st h = (q_W_put S f 1 [some (.ref i), a1, a2] (.ref i :: st) h) := by rw [q_W_put, hz_w_at d_W_put_0]; rfl
theorem e_W_put_0n {a1 a2 : Option Value} : q_W_put S (f + 1) 0 [some .null, a1, a2] st h = (q_W_put S f 1 [some .null, a1, a2] (.null :: st) h) := by rw [q_W_put, hz_w_at d_W_put_0]; rfl
theorem d_W_put_1 : decode c_W_put 1 = .ok (.getfield 15, 3) := by decide +kernel
theorem e_W_put_1 : q_W_put S (f + 1) 1 L (.ref i :: st) h = (hz_rd h i 3 1 fun v => q_W_put S f 4 L (v :: st) h) := by rw [q_W_put, hz_w_at d_W_put_1]; rfl
theorem d_W_put_4 : decode c_W_put 4 = .ok (.bipush 60, 2) := by decide +kernel
theorem e_W_put_4 : q_W_put S (f + 1) 4 L st h = (q_W_put S f 6 L (.int (hz_n 60) :: st) h) := by rw [q_W_put, hz_w_at d_W_put_4]; rfl
theorem d_W_put_6 : decode c_W_put 6 = .ok (.if_icmp .lt 11, 3) := by decide +kernel
theorem e_W_put_6 : q_W_put S (f + 1) 6 L (.int y :: .int x :: st) h = ((x.toInt < y.toInt → q_W_put S f 17 L st h) ∧ (¬ (x.toInt < y.toInt) → q_W_put S f 9 L st h)) := by rw [q_W_put, hz_w_at d_W_put_6]; rfl
theorem d_W_put_9 : decode c_W_put 9 = .ok (.aload_n 1, 1) := by decide +kernel
theorem e_W_put_9 {a0 a2 : Option Value} : q_W_put S (f + 1) 9 [a0, some (.ref i), a2] st h = (q_W_put S f 10 [a0, some (.ref i), a2] (.ref i :: st) h) := by rw [q_W_put, hz_w_at d_W_put_9]; rfl
theorem e_W_put_9n {a0 a2 : Option Value} : q_W_put S (f + 1) 9 [a0, some .null, a2] st h = (q_W_put S f 10 [a0, some .null, a2] (.null :: st) h) := by rw [q_W_put, hz_w_at d_W_put_9]; rfl
theorem d_W_put_10 : decode c_W_put 10 = .ok (.bipush (-5), 2) := by decide +kernel
theorem e_W_put_10 : q_W_put S (f + 1) 10 L st h = (q_W_put S f 12 L (.int (hz_n (-5)) :: st) h) := by rw [q_W_put, hz_w_at d_W_put_10]; rfl
theorem d_W_put_12 : decode c_W_put 12 = .ok (.putfield 69, 3) := by decide +kernel
theorem e_W_put_12 : q_W_put S (f + 1) 12 L (.int x :: .ref i :: st) h = (hz_wr h i 1 13 (.int x) fun h => q_W_put S f 15 L st h) := by rw [q_W_put, hz_w_at d_W_put_12]; rfl
theorem d_W_put_15 : decode c_W_put 15 = .ok (.iconst 0, 1) := by decide +kernel
theorem e_W_put_15 : q_W_put S (f + 1) 15 L st h = (q_W_put S f 16 L (.int (hz_n 0) :: st) h) := by rw [q_W_put, hz_w_at d_W_put_15]; rfl
theorem d_W_put_16 : decode c_W_put 16 = .ok (.ireturn, 1) := by decide +kernel
theorem e_W_put_16 : q_W_put S (f + 1) 16 L st h = (S 16 L st h) := by rw [q_W_put, hz_w_at d_W_put_16]; rfl
theorem d_W_put_17 : decode c_W_put 17 = .ok (.aload_n 0, 1) := by decide +kernel
theorem e_W_put_17 {a1 a2 : Option Value} : q_W_put S (f + 1) 17 [some (.ref i), a1, a2] st h = (q_W_put S f 18 [some (.ref i), a1, a2] (.ref i :: st) h) := by rw [q_W_put, hz_w_at d_W_put_17]; rfl
theorem e_W_put_17n {a1 a2 : Option Value} : q_W_put S (f + 1) 17 [some .null, a1, a2] st h = (q_W_put S f 18 [some .null, a1, a2] (.null :: st) h) := by rw [q_W_put, hz_w_at d_W_put_17]; rfl
theorem d_W_put_18 : decode c_W_put 18 = .ok (.getfield 9, 3) := by decide +kernel
theorem e_W_put_18 : q_W_put S (f + 1) 18 L (.ref i :: st) h = (hz_rd h i 3 0 fun v => q_W_put S f 21 L (v :: st) h) := by rw [q_W_put, hz_w_at d_W_put_18]; rfl
theorem d_W_put_21 : decode c_W_put 21 = .ok (.aload_n 0, 1) := by decide +kernel
theorem e_W_put_21 {a1 a2 : Option Value} : q_W_put S (f + 1) 21 [some (.ref i), a1, a2] st h = (q_W_put S f 22 [some (.ref i), a1, a2] (.ref i :: st) h) := by rw [q_W_put, hz_w_at d_W_put_21]; rfl
theorem e_W_put_21n {a1 a2 : Option Value} : q_W_put S (f + 1) 21 [some .null, a1, a2] st h = (q_W_put S f 22 [some .null, a1, a2] (.null :: st) h) := by rw [q_W_put, hz_w_at d_W_put_21]; rfl
theorem d_W_put_22 : decode c_W_put 22 = .ok (.getfield 15, 3) := by decide +kernel
theorem e_W_put_22 : q_W_put S (f + 1) 22 L (.ref i :: st) h = (hz_rd h i 3 1 fun v => q_W_put S f 25 L (v :: st) h) := by rw [q_W_put, hz_w_at d_W_put_22]; rfl
theorem d_W_put_25 : decode c_W_put 25 = .ok (.iload_n 2, 1) := by decide +kernel
theorem e_W_put_25 {a0 a1 : Option Value} : q_W_put S (f + 1) 25 [a0, a1, some (.int x)] st h = (q_W_put S f 26 [a0, a1, some (.int x)] (.int x :: st) h) := by rw [q_W_put, hz_w_at d_W_put_25]; rfl
theorem d_W_put_26 : decode c_W_put 26 = .ok (.castore, 1) := by decide +kernel
theorem e_W_put_26 : q_W_put S (f + 1) 26 L (.int y :: .int x :: .ref i :: st) h = (narrow .char (.int y) = .int y ∧ hz_es zKT hz_kC h i x (.int y) fun h => q_W_put S f 27 L st h) := by rw [q_W_put, hz_w_at d_W_put_26]; rfl
theorem d_W_put_27 : decode c_W_put 27 = .ok (.aload_n 0, 1) := by decide +kernel
theorem e_W_put_27 {a1 a2 : Option Value} : q_W_put S (f + 1) 27 [some (.ref i), a1, a2] st h = (q_W_put S f 28 [some (.ref i), a1, a2] (.ref i :: st) h) := by rw [q_W_put, hz_w_at d_W_put_27]; rfl
theorem e_W_put_27n {a1 a2 : Option Value} : q_W_put S (f + 1) 27 [some .null, a1, a2] st h = (q_W_put S f 28 [some .null, a1, a2] (.null :: st) h) := by rw [q_W_put, hz_w_at d_W_put_27]; rfl
theorem d_W_put_28 : decode c_W_put 28 = .ok (.dup, 1) := by decide +kernel
theorem e_W_put_28 : q_W_put S (f + 1) 28 L (.ref i :: st) h = (q_W_put S f 29 L (.ref i :: .ref i :: st) h) := by rw [q_W_put, hz_w_at d_W_put_28]; rfl
theorem e_W_put_28i : q_W_put S (f + 1) 28 L (.int x :: st) h = (q_W_put S f 29 L (.int x :: .int x :: st) h) := by rw [q_W_put, hz_w_at d_W_put_28]; rfl
theorem d_W_put_29 : decode c_W_put 29 = .ok (.getfield 15, 3) := by decide +kernel
theorem e_W_put_29 : q_W_put S (f + 1) 29 L (.ref i :: st) h = (hz_rd h i 3 1 fun v => q_W_put S f 32 L (v :: st) h) := by rw [q_W_put, hz_w_at d_W_put_29]; rfl
theorem d_W_put_32 : decode c_W_put 32 = .ok (.iconst 1, 1) := by decide +kernel
theorem e_W_put_32 : q_W_put S (f + 1) 32 L st h = (q_W_put S f 33 L (.int (hz_n 1) :: st) h) := by rw [q_W_put, hz_w_at d_W_put_32]; rfl
theorem d_W_put_33 : decode c_W_put 33 = .ok (.iadd, 1) := by decide +kernel
theorem e_W_put_33 : q_W_put S (f + 1) 33 L (.int y :: .int x :: st) h = (q_W_put S f 34 L (.int (x + y) :: st) h) := by rw [q_W_put, hz_w_at d_W_put_33]; rfl
theorem d_W_put_34 : decode c_W_put 34 = .ok (.putfield 15, 3) := by decide +kernel
theorem e_W_put_34 : q_W_put S (f + 1) 34 L (.int x :: .ref i :: st) h = (hz_wr h i 3 1 (.int x) fun h => q_W_put S f 37 L st h) := by rw [q_W_put, hz_w_at d_W_put_34]; rfl
theorem d_W_put_37 : decode c_W_put 37 = .ok (.iconst 1, 1) := by decide +kernel
theorem e_W_put_37 : q_W_put S (f + 1) 37 L st h = (q_W_put S f 38 L (.int (hz_n 1) :: st) h) := by rw [q_W_put, hz_w_at d_W_put_37]; rfl
theorem d_W_put_38 : decode c_W_put 38 = .ok (.ireturn, 1) := by decide +kernel
theorem e_W_put_38 : q_W_put S (f + 1) 38 L st h = (S 38 L st h) := by rw [q_W_put, hz_w_at d_W_put_38]; rfl
end
