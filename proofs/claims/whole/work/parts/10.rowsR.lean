/-! Rows of LazyGraphs$Reader: instructions, and what each asks of the state behind it. Printed by wip/genparts.py. -/
abbrev q_R_init (S : Nat → List (Option Value) → List Value → hz_H → Prop) := hz_w zCl zKT f_Ri n_R c_R_init [34] S
section
variable {S : Nat → List (Option Value) → List Value → hz_H → Prop} {f : Nat} {L : List (Option Value)} {st : List Value} {h : hz_H} {x y : Int32} {i j : Nat} {X Y : Int64}
theorem d_R_init_0 : decode c_R_init 0 = .ok (.aload_n 0, 1) := by decide +kernel
theorem e_R_init_0 {a1 a2 : Option Value} : q_R_init S (f + 1) 0 [some (.ref i), a1, a2] st h = (q_R_init S f 1 [some (.ref i), a1, a2] (.ref i :: st) h) := by rw [q_R_init, hz_w_at d_R_init_0]; rfl
theorem e_R_init_0n {a1 a2 : Option Value} : q_R_init S (f + 1) 0 [some .null, a1, a2] st h = (q_R_init S f 1 [some .null, a1, a2] (.null :: st) h) := by rw [q_R_init, hz_w_at d_R_init_0]; rfl
theorem d_R_init_1 : decode c_R_init 1 = .ok (.invokespecial 3, 3) := by decide +kernel
theorem e_R_init_1 : q_R_init S (f + 1) 1 L st h = (S 1 L st h) := by rw [q_R_init, hz_w_at d_R_init_1]; rfl
theorem d_R_init_4 : decode c_R_init 4 = .ok (.aload_n 0, 1) := by decide +kernel
theorem e_R_init_4 {a1 a2 : Option Value} : q_R_init S (f + 1) 4 [some (.ref i), a1, a2] st h = (q_R_init S f 5 [some (.ref i), a1, a2] (.ref i :: st) h) := by rw [q_R_init, hz_w_at d_R_init_4]; rfl
theorem e_R_init_4n {a1 a2 : Option Value} : q_R_init S (f + 1) 4 [some .null, a1, a2] st h = (q_R_init S f 5 [some .null, a1, a2] (.null :: st) h) := by rw [q_R_init, hz_w_at d_R_init_4]; rfl
theorem d_R_init_5 : decode c_R_init 5 = .ok (.bipush 26, 2) := by decide +kernel
theorem e_R_init_5 : q_R_init S (f + 1) 5 L st h = (q_R_init S f 7 L (.int (hz_n 26) :: st) h) := by rw [q_R_init, hz_w_at d_R_init_5]; rfl
theorem d_R_init_7 : decode c_R_init 7 = .ok (.newarray .int, 2) := by decide +kernel
theorem e_R_init_7 : q_R_init S (f + 1) 7 L st h = (S 7 L st h) := by rw [q_R_init, hz_w_at d_R_init_7]; rfl
theorem d_R_init_9 : decode c_R_init 9 = .ok (.putfield 9, 3) := by decide +kernel
theorem e_R_init_9 : q_R_init S (f + 1) 9 L (.ref j :: .ref i :: st) h = (hz_wr h i 2 1 (.ref j) fun h => q_R_init S f 12 L st h) := by rw [q_R_init, hz_w_at d_R_init_9]; rfl
theorem d_R_init_12 : decode c_R_init 12 = .ok (.aload_n 0, 1) := by decide +kernel
theorem e_R_init_12 {a1 a2 : Option Value} : q_R_init S (f + 1) 12 [some (.ref i), a1, a2] st h = (q_R_init S f 13 [some (.ref i), a1, a2] (.ref i :: st) h) := by rw [q_R_init, hz_w_at d_R_init_12]; rfl
theorem e_R_init_12n {a1 a2 : Option Value} : q_R_init S (f + 1) 12 [some .null, a1, a2] st h = (q_R_init S f 13 [some .null, a1, a2] (.null :: st) h) := by rw [q_R_init, hz_w_at d_R_init_12]; rfl
theorem d_R_init_13 : decode c_R_init 13 = .ok (.iconst 0, 1) := by decide +kernel
theorem e_R_init_13 : q_R_init S (f + 1) 13 L st h = (q_R_init S f 14 L (.int (hz_n 0) :: st) h) := by rw [q_R_init, hz_w_at d_R_init_13]; rfl
theorem d_R_init_14 : decode c_R_init 14 = .ok (.putfield 15, 3) := by decide +kernel
theorem e_R_init_14 : q_R_init S (f + 1) 14 L (.int x :: .ref i :: st) h = (hz_wr h i 2 2 (.int x) fun h => q_R_init S f 17 L st h) := by rw [q_R_init, hz_w_at d_R_init_14]; rfl
theorem d_R_init_17 : decode c_R_init 17 = .ok (.aload_n 0, 1) := by decide +kernel
theorem e_R_init_17 {a1 a2 : Option Value} : q_R_init S (f + 1) 17 [some (.ref i), a1, a2] st h = (q_R_init S f 18 [some (.ref i), a1, a2] (.ref i :: st) h) := by rw [q_R_init, hz_w_at d_R_init_17]; rfl
theorem e_R_init_17n {a1 a2 : Option Value} : q_R_init S (f + 1) 17 [some .null, a1, a2] st h = (q_R_init S f 18 [some .null, a1, a2] (.null :: st) h) := by rw [q_R_init, hz_w_at d_R_init_17]; rfl
theorem d_R_init_18 : decode c_R_init 18 = .ok (.iconst 0, 1) := by decide +kernel
theorem e_R_init_18 : q_R_init S (f + 1) 18 L st h = (q_R_init S f 19 L (.int (hz_n 0) :: st) h) := by rw [q_R_init, hz_w_at d_R_init_18]; rfl
theorem d_R_init_19 : decode c_R_init 19 = .ok (.putfield 19, 3) := by decide +kernel
theorem e_R_init_19 : q_R_init S (f + 1) 19 L (.int x :: .ref i :: st) h = ((narrow .boolean (.int x) = .int x ∧ fits .boolean (.int x) = true) ∧ hz_wr h i 2 3 (.int x) fun h => q_R_init S f 22 L st h) := by rw [q_R_init, hz_w_at d_R_init_19]; rfl
theorem d_R_init_22 : decode c_R_init 22 = .ok (.aload_n 0, 1) := by decide +kernel
theorem e_R_init_22 {a1 a2 : Option Value} : q_R_init S (f + 1) 22 [some (.ref i), a1, a2] st h = (q_R_init S f 23 [some (.ref i), a1, a2] (.ref i :: st) h) := by rw [q_R_init, hz_w_at d_R_init_22]; rfl
theorem e_R_init_22n {a1 a2 : Option Value} : q_R_init S (f + 1) 22 [some .null, a1, a2] st h = (q_R_init S f 23 [some .null, a1, a2] (.null :: st) h) := by rw [q_R_init, hz_w_at d_R_init_22]; rfl
theorem d_R_init_23 : decode c_R_init 23 = .ok (.iconst (-1), 1) := by decide +kernel
theorem e_R_init_23 : q_R_init S (f + 1) 23 L st h = (q_R_init S f 24 L (.int (hz_n (-1)) :: st) h) := by rw [q_R_init, hz_w_at d_R_init_23]; rfl
theorem d_R_init_24 : decode c_R_init 24 = .ok (.putfield 23, 3) := by decide +kernel
theorem e_R_init_24 : q_R_init S (f + 1) 24 L (.int x :: .ref i :: st) h = (hz_wr h i 2 4 (.int x) fun h => q_R_init S f 27 L st h) := by rw [q_R_init, hz_w_at d_R_init_24]; rfl
theorem d_R_init_27 : decode c_R_init 27 = .ok (.aload_n 0, 1) := by decide +kernel
theorem e_R_init_27 {a1 a2 : Option Value} : q_R_init S (f + 1) 27 [some (.ref i), a1, a2] st h = (q_R_init S f 28 [some (.ref i), a1, a2] (.ref i :: st) h) := by rw [q_R_init, hz_w_at d_R_init_27]; rfl
theorem e_R_init_27n {a1 a2 : Option Value} : q_R_init S (f + 1) 27 [some .null, a1, a2] st h = (q_R_init S f 28 [some .null, a1, a2] (.null :: st) h) := by rw [q_R_init, hz_w_at d_R_init_27]; rfl
theorem d_R_init_28 : decode c_R_init 28 = .ok (.aload_n 1, 1) := by decide +kernel
theorem e_R_init_28 {a0 a2 : Option Value} : q_R_init S (f + 1) 28 [a0, some (.ref i), a2] st h = (q_R_init S f 29 [a0, some (.ref i), a2] (.ref i :: st) h) := by rw [q_R_init, hz_w_at d_R_init_28]; rfl
theorem e_R_init_28n {a0 a2 : Option Value} : q_R_init S (f + 1) 28 [a0, some .null, a2] st h = (q_R_init S f 29 [a0, some .null, a2] (.null :: st) h) := by rw [q_R_init, hz_w_at d_R_init_28]; rfl
theorem d_R_init_29 : decode c_R_init 29 = .ok (.putfield 26, 3) := by decide +kernel
theorem e_R_init_29 : q_R_init S (f + 1) 29 L (.ref j :: .ref i :: st) h = (hz_wr h i 2 0 (.ref j) fun h => q_R_init S f 32 L st h) := by rw [q_R_init, hz_w_at d_R_init_29]; rfl
theorem d_R_init_32 : decode c_R_init 32 = .ok (.iconst 0, 1) := by decide +kernel
theorem e_R_init_32 : q_R_init S (f + 1) 32 L st h = (q_R_init S f 33 L (.int (hz_n 0) :: st) h) := by rw [q_R_init, hz_w_at d_R_init_32]; rfl
theorem d_R_init_33 : decode c_R_init 33 = .ok (.istore_n 2, 1) := by decide +kernel
theorem e_R_init_33 {a0 a1 a2 : Option Value} : q_R_init S (f + 1) 33 [a0, a1, a2] (.int x :: st) h = (S 34 [a0, a1, some (.int x)] st h) := by rw [q_R_init, hz_w_at d_R_init_33]; rfl
theorem d_R_init_34 : decode c_R_init 34 = .ok (.iload_n 2, 1) := by decide +kernel
theorem e_R_init_34 {a0 a1 : Option Value} : q_R_init S (f + 1) 34 [a0, a1, some (.int x)] st h = (q_R_init S f 35 [a0, a1, some (.int x)] (.int x :: st) h) := by rw [q_R_init, hz_w_at d_R_init_34]; rfl
theorem d_R_init_35 : decode c_R_init 35 = .ok (.bipush 26, 2) := by decide +kernel
theorem e_R_init_35 : q_R_init S (f + 1) 35 L st h = (q_R_init S f 37 L (.int (hz_n 26) :: st) h) := by rw [q_R_init, hz_w_at d_R_init_35]; rfl
theorem d_R_init_37 : decode c_R_init 37 = .ok (.if_icmp .ge 16, 3) := by decide +kernel
theorem e_R_init_37 : q_R_init S (f + 1) 37 L (.int y :: .int x :: st) h = ((y.toInt ≤ x.toInt → q_R_init S f 53 L st h) ∧ (¬ (y.toInt ≤ x.toInt) → q_R_init S f 40 L st h)) := by rw [q_R_init, hz_w_at d_R_init_37]; rfl
theorem d_R_init_40 : decode c_R_init 40 = .ok (.aload_n 0, 1) := by decide +kernel
theorem e_R_init_40 {a1 a2 : Option Value} : q_R_init S (f + 1) 40 [some (.ref i), a1, a2] st h = (q_R_init S f 41 [some (.ref i), a1, a2] (.ref i :: st) h) := by rw [q_R_init, hz_w_at d_R_init_40]; rfl
theorem e_R_init_40n {a1 a2 : Option Value} : q_R_init S (f + 1) 40 [some .null, a1, a2] st h = (q_R_init S f 41 [some .null, a1, a2] (.null :: st) h) := by rw [q_R_init, hz_w_at d_R_init_40]; rfl
theorem d_R_init_41 : decode c_R_init 41 = .ok (.getfield 9, 3) := by decide +kernel
theorem e_R_init_41 : q_R_init S (f + 1) 41 L (.ref i :: st) h = (hz_rd h i 2 1 fun v => q_R_init S f 44 L (v :: st) h) := by rw [q_R_init, hz_w_at d_R_init_41]; rfl
theorem d_R_init_44 : decode c_R_init 44 = .ok (.iload_n 2, 1) := by decide +kernel
theorem e_R_init_44 {a0 a1 : Option Value} : q_R_init S (f + 1) 44 [a0, a1, some (.int x)] st h = (q_R_init S f 45 [a0, a1, some (.int x)] (.int x :: st) h) := by rw [q_R_init, hz_w_at d_R_init_44]; rfl
theorem d_R_init_45 : decode c_R_init 45 = .ok (.iconst (-1), 1) := by decide +kernel
theorem e_R_init_45 : q_R_init S (f + 1) 45 L st h = (q_R_init S f 46 L (.int (hz_n (-1)) :: st) h) := by rw [q_R_init, hz_w_at d_R_init_45]; rfl
theorem d_R_init_46 : decode c_R_init 46 = .ok (.iastore, 1) := by decide +kernel
theorem e_R_init_46 : q_R_init S (f + 1) 46 L (.int y :: .int x :: .ref i :: st) h = (hz_es zKT hz_kI h i x (.int y) fun h => q_R_init S f 47 L st h) := by rw [q_R_init, hz_w_at d_R_init_46]; rfl
theorem d_R_init_47 : decode c_R_init 47 = .ok (.iinc 2 1, 3) := by decide +kernel
theorem e_R_init_47 {a0 a1 : Option Value} : q_R_init S (f + 1) 47 [a0, a1, some (.int x)] st h = (q_R_init S f 50 [a0, a1, some (.int (x + hz_n 1))] st h) := by rw [q_R_init, hz_w_at d_R_init_47]; rfl
theorem d_R_init_50 : decode c_R_init 50 = .ok (.goto (-16), 3) := by decide +kernel
theorem e_R_init_50 : q_R_init S (f + 1) 50 L st h = (S 34 L st h) := by rw [q_R_init, hz_w_at d_R_init_50]; rfl
theorem d_R_init_53 : decode c_R_init 53 = .ok (.return_, 1) := by decide +kernel
theorem e_R_init_53 : q_R_init S (f + 1) 53 L st h = (S 53 L st h) := by rw [q_R_init, hz_w_at d_R_init_53]; rfl
end
abbrev q_R_read (S : Nat → List (Option Value) → List Value → hz_H → Prop) := hz_w zCl zKT f_R n_R c_R_read [] S
section
variable {S : Nat → List (Option Value) → List Value → hz_H → Prop} {f : Nat} {L : List (Option Value)} {st : List Value} {h : hz_H} {x y : Int32} {i j : Nat} {X Y : Int64}
theorem d_R_read_0 : decode c_R_read 0 = .ok (.aload_n 0, 1) := by decide +kernel
theorem e_R_read_0 : q_R_read S (f + 1) 0 [some (.ref i)] st h = (q_R_read S f 1 [some (.ref i)] (.ref i :: st) h) := by rw [q_R_read, hz_w_at d_R_read_0]; rfl
theorem e_R_read_0n : q_R_read S (f + 1) 0 [some .null] st h = (q_R_read S f 1 [some .null] (.null :: st) h) := by rw [q_R_read, hz_w_at d_R_read_0]; rfl
theorem d_R_read_1 : decode c_R_read 1 = .ok (.invokevirtual 30, 3) := by decide +kernel
theorem e_R_read_1 : q_R_read S (f + 1) 1 L st h = (S 1 L st h) := by rw [q_R_read, hz_w_at d_R_read_1]; rfl
theorem d_R_read_4 : decode c_R_read 4 = .ok (.aload_n 0, 1) := by decide +kernel
theorem e_R_read_4 : q_R_read S (f + 1) 4 [some (.ref i)] st h = (q_R_read S f 5 [some (.ref i)] (.ref i :: st) h) := by rw [q_R_read, hz_w_at d_R_read_4]; rfl
theorem e_R_read_4n : q_R_read S (f + 1) 4 [some .null] st h = (q_R_read S f 5 [some .null] (.null :: st) h) := by rw [q_R_read, hz_w_at d_R_read_4]; rfl
theorem d_R_read_5 : decode c_R_read 5 = .ok (.iconst 0, 1) := by decide +kernel
theorem e_R_read_5 : q_R_read S (f + 1) 5 L st h = (q_R_read S f 6 L (.int (hz_n 0) :: st) h) := by rw [q_R_read, hz_w_at d_R_read_5]; rfl
theorem d_R_read_6 : decode c_R_read 6 = .ok (.iconst 1, 1) := by decide +kernel
theorem e_R_read_6 : q_R_read S (f + 1) 6 L st h = (q_R_read S f 7 L (.int (hz_n 1) :: st) h) := by rw [q_R_read, hz_w_at d_R_read_6]; rfl
theorem d_R_read_7 : decode c_R_read 7 = .ok (.invokevirtual 33, 3) := by decide +kernel
theorem e_R_read_7 : q_R_read S (f + 1) 7 L st h = (S 7 L st h) := by rw [q_R_read, hz_w_at d_R_read_7]; rfl
theorem d_R_read_10 : decode c_R_read 10 = .ok (.pop, 1) := by decide +kernel
theorem e_R_read_10 : q_R_read S (f + 1) 10 L (.ref i :: st) h = (q_R_read S f 11 L st h) := by rw [q_R_read, hz_w_at d_R_read_10]; rfl
theorem e_R_read_10i : q_R_read S (f + 1) 10 L (.int x :: st) h = (q_R_read S f 11 L st h) := by rw [q_R_read, hz_w_at d_R_read_10]; rfl
theorem d_R_read_11 : decode c_R_read 11 = .ok (.aload_n 0, 1) := by decide +kernel
theorem e_R_read_11 : q_R_read S (f + 1) 11 [some (.ref i)] st h = (q_R_read S f 12 [some (.ref i)] (.ref i :: st) h) := by rw [q_R_read, hz_w_at d_R_read_11]; rfl
theorem e_R_read_11n : q_R_read S (f + 1) 11 [some .null] st h = (q_R_read S f 12 [some .null] (.null :: st) h) := by rw [q_R_read, hz_w_at d_R_read_11]; rfl
theorem d_R_read_12 : decode c_R_read 12 = .ok (.getfield 19, 3) := by decide +kernel
theorem e_R_read_12 : q_R_read S (f + 1) 12 L (.ref i :: st) h = (hz_rd h i 2 3 fun v => q_R_read S f 15 L (v :: st) h) := by rw [q_R_read, hz_w_at d_R_read_12]; rfl
theorem d_R_read_15 : decode c_R_read 15 = .ok (.ifCond .ne 18, 3) := by decide +kernel
theorem e_R_read_15 : q_R_read S (f + 1) 15 L (.int x :: st) h = ((¬ x.toInt = 0 → q_R_read S f 33 L st h) ∧ (¬ (¬ x.toInt = 0) → q_R_read S f 18 L st h)) := by rw [q_R_read, hz_w_at d_R_read_15]; rfl
theorem d_R_read_18 : decode c_R_read 18 = .ok (.aload_n 0, 1) := by decide +kernel
theorem e_R_read_18 : q_R_read S (f + 1) 18 [some (.ref i)] st h = (q_R_read S f 19 [some (.ref i)] (.ref i :: st) h) := by rw [q_R_read, hz_w_at d_R_read_18]; rfl
theorem e_R_read_18n : q_R_read S (f + 1) 18 [some .null] st h = (q_R_read S f 19 [some .null] (.null :: st) h) := by rw [q_R_read, hz_w_at d_R_read_18]; rfl
theorem d_R_read_19 : decode c_R_read 19 = .ok (.getfield 15, 3) := by decide +kernel
theorem e_R_read_19 : q_R_read S (f + 1) 19 L (.ref i :: st) h = (hz_rd h i 2 2 fun v => q_R_read S f 22 L (v :: st) h) := by rw [q_R_read, hz_w_at d_R_read_19]; rfl
theorem d_R_read_22 : decode c_R_read 22 = .ok (.aload_n 0, 1) := by decide +kernel
theorem e_R_read_22 : q_R_read S (f + 1) 22 [some (.ref i)] st h = (q_R_read S f 23 [some (.ref i)] (.ref i :: st) h) := by rw [q_R_read, hz_w_at d_R_read_22]; rfl
theorem e_R_read_22n : q_R_read S (f + 1) 22 [some .null] st h = (q_R_read S f 23 [some .null] (.null :: st) h) := by rw [q_R_read, hz_w_at d_R_read_22]; rfl
theorem d_R_read_23 : decode c_R_read 23 = .ok (.getfield 26, 3) := by decide +kernel
theorem e_R_read_23 : q_R_read S (f + 1) 23 L (.ref i :: st) h = (hz_rd h i 2 0 fun v => q_R_read S f 26 L (v :: st) h) := by rw [q_R_read, hz_w_at d_R_read_23]; rfl
theorem d_R_read_26 : decode c_R_read 26 = .ok (.getfield 37, 3) := by decide +kernel
theorem e_R_read_26 : q_R_read S (f + 1) 26 L (.ref i :: st) h = (hz_rd h i 0 0 fun v => q_R_read S f 29 L (v :: st) h) := by rw [q_R_read, hz_w_at d_R_read_26]; rfl
theorem d_R_read_29 : decode c_R_read 29 = .ok (.arraylength, 1) := by decide +kernel
theorem e_R_read_29 : q_R_read S (f + 1) 29 L (.ref i :: st) h = (hz_al zKT h i fun v => q_R_read S f 30 L (v :: st) h) := by rw [q_R_read, hz_w_at d_R_read_29]; rfl
theorem d_R_read_30 : decode c_R_read 30 = .ok (.if_icmp .ge 10, 3) := by decide +kernel
theorem e_R_read_30 : q_R_read S (f + 1) 30 L (.int y :: .int x :: st) h = ((y.toInt ≤ x.toInt → q_R_read S f 40 L st h) ∧ (¬ (y.toInt ≤ x.toInt) → q_R_read S f 33 L st h)) := by rw [q_R_read, hz_w_at d_R_read_30]; rfl
theorem d_R_read_33 : decode c_R_read 33 = .ok (.iconst (-1), 1) := by decide +kernel
theorem e_R_read_33 : q_R_read S (f + 1) 33 L st h = (q_R_read S f 34 L (.int (hz_n (-1)) :: st) h) := by rw [q_R_read, hz_w_at d_R_read_33]; rfl
theorem d_R_read_34 : decode c_R_read 34 = .ok (.aload_n 0, 1) := by decide +kernel
theorem e_R_read_34 : q_R_read S (f + 1) 34 [some (.ref i)] st h = (q_R_read S f 35 [some (.ref i)] (.ref i :: st) h) := by rw [q_R_read, hz_w_at d_R_read_34]; rfl
theorem e_R_read_34n : q_R_read S (f + 1) 34 [some .null] st h = (q_R_read S f 35 [some .null] (.null :: st) h) := by rw [q_R_read, hz_w_at d_R_read_34]; rfl
theorem d_R_read_35 : decode c_R_read 35 = .ok (.getfield 15, 3) := by decide +kernel
theorem e_R_read_35 : q_R_read S (f + 1) 35 L (.ref i :: st) h = (hz_rd h i 2 2 fun v => q_R_read S f 38 L (v :: st) h) := by rw [q_R_read, hz_w_at d_R_read_35]; rfl
theorem d_R_read_38 : decode c_R_read 38 = .ok (.isub, 1) := by decide +kernel
theorem e_R_read_38 : q_R_read S (f + 1) 38 L (.int y :: .int x :: st) h = (q_R_read S f 39 L (.int (x - y) :: st) h) := by rw [q_R_read, hz_w_at d_R_read_38]; rfl
theorem d_R_read_39 : decode c_R_read 39 = .ok (.ireturn, 1) := by decide +kernel
theorem e_R_read_39 : q_R_read S (f + 1) 39 L st h = (S 39 L st h) := by rw [q_R_read, hz_w_at d_R_read_39]; rfl
theorem d_R_read_40 : decode c_R_read 40 = .ok (.aload_n 0, 1) := by decide +kernel
theorem e_R_read_40 : q_R_read S (f + 1) 40 [some (.ref i)] st h = (q_R_read S f 41 [some (.ref i)] (.ref i :: st) h) := by rw [q_R_read, hz_w_at d_R_read_40]; rfl
theorem e_R_read_40n : q_R_read S (f + 1) 40 [some .null] st h = (q_R_read S f 41 [some .null] (.null :: st) h) := by rw [q_R_read, hz_w_at d_R_read_40]; rfl
theorem d_R_read_41 : decode c_R_read 41 = .ok (.getfield 23, 3) := by decide +kernel
theorem e_R_read_41 : q_R_read S (f + 1) 41 L (.ref i :: st) h = (hz_rd h i 2 4 fun v => q_R_read S f 44 L (v :: st) h) := by rw [q_R_read, hz_w_at d_R_read_41]; rfl
theorem d_R_read_44 : decode c_R_read 44 = .ok (.iconst (-1), 1) := by decide +kernel
theorem e_R_read_44 : q_R_read S (f + 1) 44 L st h = (q_R_read S f 45 L (.int (hz_n (-1)) :: st) h) := by rw [q_R_read, hz_w_at d_R_read_44]; rfl
theorem d_R_read_45 : decode c_R_read 45 = .ok (.if_icmp .ne 13, 3) := by decide +kernel
theorem e_R_read_45 : q_R_read S (f + 1) 45 L (.int y :: .int x :: st) h = ((¬ x.toInt = y.toInt → q_R_read S f 58 L st h) ∧ (¬ (¬ x.toInt = y.toInt) → q_R_read S f 48 L st h)) := by rw [q_R_read, hz_w_at d_R_read_45]; rfl
theorem d_R_read_48 : decode c_R_read 48 = .ok (.aload_n 0, 1) := by decide +kernel
theorem e_R_read_48 : q_R_read S (f + 1) 48 [some (.ref i)] st h = (q_R_read S f 49 [some (.ref i)] (.ref i :: st) h) := by rw [q_R_read, hz_w_at d_R_read_48]; rfl
theorem e_R_read_48n : q_R_read S (f + 1) 48 [some .null] st h = (q_R_read S f 49 [some .null] (.null :: st) h) := by rw [q_R_read, hz_w_at d_R_read_48]; rfl
theorem d_R_read_49 : decode c_R_read 49 = .ok (.getfield 26, 3) := by decide +kernel
theorem e_R_read_49 : q_R_read S (f + 1) 49 L (.ref i :: st) h = (hz_rd h i 2 0 fun v => q_R_read S f 52 L (v :: st) h) := by rw [q_R_read, hz_w_at d_R_read_49]; rfl
theorem d_R_read_52 : decode c_R_read 52 = .ok (.getfield 43, 3) := by decide +kernel
theorem e_R_read_52 : q_R_read S (f + 1) 52 L (.ref i :: st) h = (hz_rd h i 0 3 fun v => q_R_read S f 55 L (v :: st) h) := by rw [q_R_read, hz_w_at d_R_read_52]; rfl
theorem d_R_read_55 : decode c_R_read 55 = .ok (.goto 10, 3) := by decide +kernel
theorem e_R_read_55 : q_R_read S (f + 1) 55 L st h = (q_R_read S f 65 L st h) := by rw [q_R_read, hz_w_at d_R_read_55]; rfl
theorem d_R_read_58 : decode c_R_read 58 = .ok (.bipush (-100), 2) := by decide +kernel
theorem e_R_read_58 : q_R_read S (f + 1) 58 L st h = (q_R_read S f 60 L (.int (hz_n (-100)) :: st) h) := by rw [q_R_read, hz_w_at d_R_read_58]; rfl
theorem d_R_read_60 : decode c_R_read 60 = .ok (.aload_n 0, 1) := by decide +kernel
theorem e_R_read_60 : q_R_read S (f + 1) 60 [some (.ref i)] st h = (q_R_read S f 61 [some (.ref i)] (.ref i :: st) h) := by rw [q_R_read, hz_w_at d_R_read_60]; rfl
theorem e_R_read_60n : q_R_read S (f + 1) 60 [some .null] st h = (q_R_read S f 61 [some .null] (.null :: st) h) := by rw [q_R_read, hz_w_at d_R_read_60]; rfl
theorem d_R_read_61 : decode c_R_read 61 = .ok (.getfield 23, 3) := by decide +kernel
theorem e_R_read_61 : q_R_read S (f + 1) 61 L (.ref i :: st) h = (hz_rd h i 2 4 fun v => q_R_read S f 64 L (v :: st) h) := by rw [q_R_read, hz_w_at d_R_read_61]; rfl
theorem d_R_read_64 : decode c_R_read 64 = .ok (.isub, 1) := by decide +kernel
theorem e_R_read_64 : q_R_read S (f + 1) 64 L (.int y :: .int x :: st) h = (q_R_read S f 65 L (.int (x - y) :: st) h) := by rw [q_R_read, hz_w_at d_R_read_64]; rfl
theorem d_R_read_65 : decode c_R_read 65 = .ok (.ireturn, 1) := by decide +kernel
theorem e_R_read_65 : q_R_read S (f + 1) 65 L st h = (S 65 L st h) := by rw [q_R_read, hz_w_at d_R_read_65]; rfl
end
abbrev q_R_readParameters (S : Nat → List (Option Value) → List Value → hz_H → Prop) := hz_w zCl zKT f_R n_R c_R_readParameters [0] S
section
variable {S : Nat → List (Option Value) → List Value → hz_H → Prop} {f : Nat} {L : List (Option Value)} {st : List Value} {h : hz_H} {x y : Int32} {i j : Nat} {X Y : Int64}
theorem d_R_readParameters_0 : decode c_R_readParameters 0 = .ok (.aload_n 0, 1) := by decide +kernel
theorem e_R_readParameters_0 : q_R_readParameters S (f + 1) 0 [some (.ref i)] st h = (q_R_readParameters S f 1 [some (.ref i)] (.ref i :: st) h) := by rw [q_R_readParameters, hz_w_at d_R_readParameters_0]; rfl
theorem e_R_readParameters_0n : q_R_readParameters S (f + 1) 0 [some .null] st h = (q_R_readParameters S f 1 [some .null] (.null :: st) h) := by rw [q_R_readParameters, hz_w_at d_R_readParameters_0]; rfl
theorem d_R_readParameters_1 : decode c_R_readParameters 1 = .ok (.getfield 26, 3) := by decide +kernel
theorem e_R_readParameters_1 : q_R_readParameters S (f + 1) 1 L (.ref i :: st) h = (hz_rd h i 2 0 fun v => q_R_readParameters S f 4 L (v :: st) h) := by rw [q_R_readParameters, hz_w_at d_R_readParameters_1]; rfl
theorem d_R_readParameters_4 : decode c_R_readParameters 4 = .ok (.getfield 43, 3) := by decide +kernel
theorem e_R_readParameters_4 : q_R_readParameters S (f + 1) 4 L (.ref i :: st) h = (hz_rd h i 0 3 fun v => q_R_readParameters S f 7 L (v :: st) h) := by rw [q_R_readParameters, hz_w_at d_R_readParameters_4]; rfl
theorem d_R_readParameters_7 : decode c_R_readParameters 7 = .ok (.iconst 4, 1) := by decide +kernel
theorem e_R_readParameters_7 : q_R_readParameters S (f + 1) 7 L st h = (q_R_readParameters S f 8 L (.int (hz_n 4) :: st) h) := by rw [q_R_readParameters, hz_w_at d_R_readParameters_7]; rfl
theorem d_R_readParameters_8 : decode c_R_readParameters 8 = .ok (.if_icmp .ge 48, 3) := by decide +kernel
theorem e_R_readParameters_8 : q_R_readParameters S (f + 1) 8 L (.int y :: .int x :: st) h = ((y.toInt ≤ x.toInt → q_R_readParameters S f 56 L st h) ∧ (¬ (y.toInt ≤ x.toInt) → q_R_readParameters S f 11 L st h)) := by rw [q_R_readParameters, hz_w_at d_R_readParameters_8]; rfl
theorem d_R_readParameters_11 : decode c_R_readParameters 11 = .ok (.aload_n 0, 1) := by decide +kernel
theorem e_R_readParameters_11 : q_R_readParameters S (f + 1) 11 [some (.ref i)] st h = (q_R_readParameters S f 12 [some (.ref i)] (.ref i :: st) h) := by rw [q_R_readParameters, hz_w_at d_R_readParameters_11]; rfl
theorem e_R_readParameters_11n : q_R_readParameters S (f + 1) 11 [some .null] st h = (q_R_readParameters S f 12 [some .null] (.null :: st) h) := by rw [q_R_readParameters, hz_w_at d_R_readParameters_11]; rfl
theorem d_R_readParameters_12 : decode c_R_readParameters 12 = .ok (.invokevirtual 46, 3) := by decide +kernel
theorem e_R_readParameters_12 : q_R_readParameters S (f + 1) 12 L st h = (S 12 L st h) := by rw [q_R_readParameters, hz_w_at d_R_readParameters_12]; rfl
theorem d_R_readParameters_15 : decode c_R_readParameters 15 = .ok (.invokestatic 50, 3) := by decide +kernel
theorem e_R_readParameters_15 : q_R_readParameters S (f + 1) 15 L st h = (S 15 L st h) := by rw [q_R_readParameters, hz_w_at d_R_readParameters_15]; rfl
theorem d_R_readParameters_18 : decode c_R_readParameters 18 = .ok (.ifCond .eq 38, 3) := by decide +kernel
theorem e_R_readParameters_18 : q_R_readParameters S (f + 1) 18 L (.int x :: st) h = ((x.toInt = 0 → q_R_readParameters S f 56 L st h) ∧ (¬ (x.toInt = 0) → q_R_readParameters S f 21 L st h)) := by rw [q_R_readParameters, hz_w_at d_R_readParameters_18]; rfl
theorem d_R_readParameters_21 : decode c_R_readParameters 21 = .ok (.aload_n 0, 1) := by decide +kernel
theorem e_R_readParameters_21 : q_R_readParameters S (f + 1) 21 [some (.ref i)] st h = (q_R_readParameters S f 22 [some (.ref i)] (.ref i :: st) h) := by rw [q_R_readParameters, hz_w_at d_R_readParameters_21]; rfl
theorem e_R_readParameters_21n : q_R_readParameters S (f + 1) 21 [some .null] st h = (q_R_readParameters S f 22 [some .null] (.null :: st) h) := by rw [q_R_readParameters, hz_w_at d_R_readParameters_21]; rfl
theorem d_R_readParameters_22 : decode c_R_readParameters 22 = .ok (.aload_n 0, 1) := by decide +kernel
theorem e_R_readParameters_22 : q_R_readParameters S (f + 1) 22 [some (.ref i)] st h = (q_R_readParameters S f 23 [some (.ref i)] (.ref i :: st) h) := by rw [q_R_readParameters, hz_w_at d_R_readParameters_22]; rfl
theorem e_R_readParameters_22n : q_R_readParameters S (f + 1) 22 [some .null] st h = (q_R_readParameters S f 23 [some .null] (.null :: st) h) := by rw [q_R_readParameters, hz_w_at d_R_readParameters_22]; rfl
theorem d_R_readParameters_23 : decode c_R_readParameters 23 = .ok (.getfield 15, 3) := by decide +kernel
theorem e_R_readParameters_23 : q_R_readParameters S (f + 1) 23 L (.ref i :: st) h = (hz_rd h i 2 2 fun v => q_R_readParameters S f 26 L (v :: st) h) := by rw [q_R_readParameters, hz_w_at d_R_readParameters_23]; rfl
theorem d_R_readParameters_26 : decode c_R_readParameters 26 = .ok (.invokevirtual 54, 3) := by decide +kernel
theorem e_R_readParameters_26 : q_R_readParameters S (f + 1) 26 L st h = (S 26 L st h) := by rw [q_R_readParameters, hz_w_at d_R_readParameters_26]; rfl
theorem d_R_readParameters_29 : decode c_R_readParameters 29 = .ok (.pop, 1) := by decide +kernel
theorem e_R_readParameters_29 : q_R_readParameters S (f + 1) 29 L (.ref i :: st) h = (q_R_readParameters S f 30 L st h) := by rw [q_R_readParameters, hz_w_at d_R_readParameters_29]; rfl
theorem e_R_readParameters_29i : q_R_readParameters S (f + 1) 29 L (.int x :: st) h = (q_R_readParameters S f 30 L st h) := by rw [q_R_readParameters, hz_w_at d_R_readParameters_29]; rfl
theorem d_R_readParameters_30 : decode c_R_readParameters 30 = .ok (.aload_n 0, 1) := by decide +kernel
theorem e_R_readParameters_30 : q_R_readParameters S (f + 1) 30 [some (.ref i)] st h = (q_R_readParameters S f 31 [some (.ref i)] (.ref i :: st) h) := by rw [q_R_readParameters, hz_w_at d_R_readParameters_30]; rfl
theorem e_R_readParameters_30n : q_R_readParameters S (f + 1) 30 [some .null] st h = (q_R_readParameters S f 31 [some .null] (.null :: st) h) := by rw [q_R_readParameters, hz_w_at d_R_readParameters_30]; rfl
theorem d_R_readParameters_31 : decode c_R_readParameters 31 = .ok (.dup, 1) := by decide +kernel
theorem e_R_readParameters_31 : q_R_readParameters S (f + 1) 31 L (.ref i :: st) h = (q_R_readParameters S f 32 L (.ref i :: .ref i :: st) h) := by rw [q_R_readParameters, hz_w_at d_R_readParameters_31]; rfl
theorem e_R_readParameters_31i : q_R_readParameters S (f + 1) 31 L (.int x :: st) h = (q_R_readParameters S f 32 L (.int x :: .int x :: st) h) := by rw [q_R_readParameters, hz_w_at d_R_readParameters_31]; rfl
theorem d_R_readParameters_32 : decode c_R_readParameters 32 = .ok (.getfield 15, 3) := by decide +kernel
theorem e_R_readParameters_32 : q_R_readParameters S (f + 1) 32 L (.ref i :: st) h = (hz_rd h i 2 2 fun v => q_R_readParameters S f 35 L (v :: st) h) := by rw [q_R_readParameters, hz_w_at d_R_readParameters_32]; rfl
theorem d_R_readParameters_35 : decode c_R_readParameters 35 = .ok (.iconst 1, 1) := by decide +kernel
theorem e_R_readParameters_35 : q_R_readParameters S (f + 1) 35 L st h = (q_R_readParameters S f 36 L (.int (hz_n 1) :: st) h) := by rw [q_R_readParameters, hz_w_at d_R_readParameters_35]; rfl
theorem d_R_readParameters_36 : decode c_R_readParameters 36 = .ok (.iadd, 1) := by decide +kernel
theorem e_R_readParameters_36 : q_R_readParameters S (f + 1) 36 L (.int y :: .int x :: st) h = (q_R_readParameters S f 37 L (.int (x + y) :: st) h) := by rw [q_R_readParameters, hz_w_at d_R_readParameters_36]; rfl
theorem d_R_readParameters_37 : decode c_R_readParameters 37 = .ok (.putfield 15, 3) := by decide +kernel
theorem e_R_readParameters_37 : q_R_readParameters S (f + 1) 37 L (.int x :: .ref i :: st) h = (hz_wr h i 2 2 (.int x) fun h => q_R_readParameters S f 40 L st h) := by rw [q_R_readParameters, hz_w_at d_R_readParameters_37]; rfl
theorem d_R_readParameters_40 : decode c_R_readParameters 40 = .ok (.aload_n 0, 1) := by decide +kernel
theorem e_R_readParameters_40 : q_R_readParameters S (f + 1) 40 [some (.ref i)] st h = (q_R_readParameters S f 41 [some (.ref i)] (.ref i :: st) h) := by rw [q_R_readParameters, hz_w_at d_R_readParameters_40]; rfl
theorem e_R_readParameters_40n : q_R_readParameters S (f + 1) 40 [some .null] st h = (q_R_readParameters S f 41 [some .null] (.null :: st) h) := by rw [q_R_readParameters, hz_w_at d_R_readParameters_40]; rfl
theorem d_R_readParameters_41 : decode c_R_readParameters 41 = .ok (.getfield 26, 3) := by decide +kernel
theorem e_R_readParameters_41 : q_R_readParameters S (f + 1) 41 L (.ref i :: st) h = (hz_rd h i 2 0 fun v => q_R_readParameters S f 44 L (v :: st) h) := by rw [q_R_readParameters, hz_w_at d_R_readParameters_41]; rfl
theorem d_R_readParameters_44 : decode c_R_readParameters 44 = .ok (.dup, 1) := by decide +kernel
theorem e_R_readParameters_44 : q_R_readParameters S (f + 1) 44 L (.ref i :: st) h = (q_R_readParameters S f 45 L (.ref i :: .ref i :: st) h) := by rw [q_R_readParameters, hz_w_at d_R_readParameters_44]; rfl
theorem e_R_readParameters_44i : q_R_readParameters S (f + 1) 44 L (.int x :: st) h = (q_R_readParameters S f 45 L (.int x :: .int x :: st) h) := by rw [q_R_readParameters, hz_w_at d_R_readParameters_44]; rfl
theorem d_R_readParameters_45 : decode c_R_readParameters 45 = .ok (.getfield 43, 3) := by decide +kernel
theorem e_R_readParameters_45 : q_R_readParameters S (f + 1) 45 L (.ref i :: st) h = (hz_rd h i 0 3 fun v => q_R_readParameters S f 48 L (v :: st) h) := by rw [q_R_readParameters, hz_w_at d_R_readParameters_45]; rfl
theorem d_R_readParameters_48 : decode c_R_readParameters 48 = .ok (.iconst 1, 1) := by decide +kernel
theorem e_R_readParameters_48 : q_R_readParameters S (f + 1) 48 L st h = (q_R_readParameters S f 49 L (.int (hz_n 1) :: st) h) := by rw [q_R_readParameters, hz_w_at d_R_readParameters_48]; rfl
theorem d_R_readParameters_49 : decode c_R_readParameters 49 = .ok (.iadd, 1) := by decide +kernel
theorem e_R_readParameters_49 : q_R_readParameters S (f + 1) 49 L (.int y :: .int x :: st) h = (q_R_readParameters S f 50 L (.int (x + y) :: st) h) := by rw [q_R_readParameters, hz_w_at d_R_readParameters_49]; rfl
theorem d_R_readParameters_50 : decode c_R_readParameters 50 = .ok (.putfield 43, 3) := by decide +kernel
theorem e_R_readParameters_50 : q_R_readParameters S (f + 1) 50 L (.int x :: .ref i :: st) h = (hz_wr h i 0 3 (.int x) fun h => q_R_readParameters S f 53 L st h) := by rw [q_R_readParameters, hz_w_at d_R_readParameters_50]; rfl
theorem d_R_readParameters_53 : decode c_R_readParameters 53 = .ok (.goto (-53), 3) := by decide +kernel
theorem e_R_readParameters_53 : q_R_readParameters S (f + 1) 53 L st h = (S 0 L st h) := by rw [q_R_readParameters, hz_w_at d_R_readParameters_53]; rfl
theorem d_R_readParameters_56 : decode c_R_readParameters 56 = .ok (.aload_n 0, 1) := by decide +kernel
theorem e_R_readParameters_56 : q_R_readParameters S (f + 1) 56 [some (.ref i)] st h = (q_R_readParameters S f 57 [some (.ref i)] (.ref i :: st) h) := by rw [q_R_readParameters, hz_w_at d_R_readParameters_56]; rfl
theorem e_R_readParameters_56n : q_R_readParameters S (f + 1) 56 [some .null] st h = (q_R_readParameters S f 57 [some .null] (.null :: st) h) := by rw [q_R_readParameters, hz_w_at d_R_readParameters_56]; rfl
theorem d_R_readParameters_57 : decode c_R_readParameters 57 = .ok (.bipush 46, 2) := by decide +kernel
theorem e_R_readParameters_57 : q_R_readParameters S (f + 1) 57 L st h = (q_R_readParameters S f 59 L (.int (hz_n 46) :: st) h) := by rw [q_R_readParameters, hz_w_at d_R_readParameters_57]; rfl
theorem d_R_readParameters_59 : decode c_R_readParameters 59 = .ok (.invokevirtual 58, 3) := by decide +kernel
theorem e_R_readParameters_59 : q_R_readParameters S (f + 1) 59 L st h = (S 59 L st h) := by rw [q_R_readParameters, hz_w_at d_R_readParameters_59]; rfl
theorem d_R_readParameters_62 : decode c_R_readParameters 62 = .ok (.return_, 1) := by decide +kernel
theorem e_R_readParameters_62 : q_R_readParameters S (f + 1) 62 L st h = (S 62 L st h) := by rw [q_R_readParameters, hz_w_at d_R_readParameters_62]; rfl
end
abbrev q_R_readPart (S : Nat → List (Option Value) → List Value → hz_H → Prop) := hz_w zCl zKT f_R n_R c_R_readPart [] S
section
variable {S : Nat → List (Option Value) → List Value → hz_H → Prop} {f : Nat} {L : List (Option Value)} {st : List Value} {h : hz_H} {x y : Int32} {i j : Nat} {X Y : Int64}
theorem d_R_readPart_0 : decode c_R_readPart 0 = .ok (.aload_n 0, 1) := by decide +kernel
theorem e_R_readPart_0 {a1 a2 a3 a4 : Option Value} : q_R_readPart S (f + 1) 0 [some (.ref i), a1, a2, a3, a4] st h = (q_R_readPart S f 1 [some (.ref i), a1, a2, a3, a4] (.ref i :: st) h) := by rw [q_R_readPart, hz_w_at d_R_readPart_0]; rfl
theorem e_R_readPart_0n {a1 a2 a3 a4 : Option Value} : q_R_readPart S (f + 1) 0 [some .null, a1, a2, a3, a4] st h = (q_R_readPart S f 1 [some .null, a1, a2, a3, a4] (.null :: st) h) := by rw [q_R_readPart, hz_w_at d_R_readPart_0]; rfl
theorem d_R_readPart_1 : decode c_R_readPart 1 = .ok (.getfield 19, 3) := by decide +kernel
theorem e_R_readPart_1 : q_R_readPart S (f + 1) 1 L (.ref i :: st) h = (hz_rd h i 2 3 fun v => q_R_readPart S f 4 L (v :: st) h) := by rw [q_R_readPart, hz_w_at d_R_readPart_1]; rfl
theorem d_R_readPart_4 : decode c_R_readPart 4 = .ok (.ifCond .eq 5, 3) := by decide +kernel
theorem e_R_readPart_4 : q_R_readPart S (f + 1) 4 L (.int x :: st) h = ((x.toInt = 0 → q_R_readPart S f 9 L st h) ∧ (¬ (x.toInt = 0) → q_R_readPart S f 7 L st h)) := by rw [q_R_readPart, hz_w_at d_R_readPart_4]; rfl
theorem d_R_readPart_7 : decode c_R_readPart 7 = .ok (.iload_n 1, 1) := by decide +kernel
theorem e_R_readPart_7 {a0 a2 a3 a4 : Option Value} : q_R_readPart S (f + 1) 7 [a0, some (.int x), a2, a3, a4] st h = (q_R_readPart S f 8 [a0, some (.int x), a2, a3, a4] (.int x :: st) h) := by rw [q_R_readPart, hz_w_at d_R_readPart_7]; rfl
theorem d_R_readPart_8 : decode c_R_readPart 8 = .ok (.ireturn, 1) := by decide +kernel
theorem e_R_readPart_8 : q_R_readPart S (f + 1) 8 L st h = (S 8 L st h) := by rw [q_R_readPart, hz_w_at d_R_readPart_8]; rfl
theorem d_R_readPart_9 : decode c_R_readPart 9 = .ok (.aload_n 0, 1) := by decide +kernel
theorem e_R_readPart_9 {a1 a2 a3 a4 : Option Value} : q_R_readPart S (f + 1) 9 [some (.ref i), a1, a2, a3, a4] st h = (q_R_readPart S f 10 [some (.ref i), a1, a2, a3, a4] (.ref i :: st) h) := by rw [q_R_readPart, hz_w_at d_R_readPart_9]; rfl
theorem e_R_readPart_9n {a1 a2 a3 a4 : Option Value} : q_R_readPart S (f + 1) 9 [some .null, a1, a2, a3, a4] st h = (q_R_readPart S f 10 [some .null, a1, a2, a3, a4] (.null :: st) h) := by rw [q_R_readPart, hz_w_at d_R_readPart_9]; rfl
theorem d_R_readPart_10 : decode c_R_readPart 10 = .ok (.getfield 15, 3) := by decide +kernel
theorem e_R_readPart_10 : q_R_readPart S (f + 1) 10 L (.ref i :: st) h = (hz_rd h i 2 2 fun v => q_R_readPart S f 13 L (v :: st) h) := by rw [q_R_readPart, hz_w_at d_R_readPart_10]; rfl
theorem d_R_readPart_13 : decode c_R_readPart 13 = .ok (.istore_n 3, 1) := by decide +kernel
theorem e_R_readPart_13 {a0 a1 a2 a3 a4 : Option Value} : q_R_readPart S (f + 1) 13 [a0, a1, a2, a3, a4] (.int x :: st) h = (q_R_readPart S f 14 [a0, a1, a2, some (.int x), a4] st h) := by rw [q_R_readPart, hz_w_at d_R_readPart_13]; rfl
theorem d_R_readPart_14 : decode c_R_readPart 14 = .ok (.iload_n 1, 1) := by decide +kernel
theorem e_R_readPart_14 {a0 a2 a3 a4 : Option Value} : q_R_readPart S (f + 1) 14 [a0, some (.int x), a2, a3, a4] st h = (q_R_readPart S f 15 [a0, some (.int x), a2, a3, a4] (.int x :: st) h) := by rw [q_R_readPart, hz_w_at d_R_readPart_14]; rfl
theorem d_R_readPart_15 : decode c_R_readPart 15 = .ok (.ifCond .eq 13, 3) := by decide +kernel
theorem e_R_readPart_15 : q_R_readPart S (f + 1) 15 L (.int x :: st) h = ((x.toInt = 0 → q_R_readPart S f 28 L st h) ∧ (¬ (x.toInt = 0) → q_R_readPart S f 18 L st h)) := by rw [q_R_readPart, hz_w_at d_R_readPart_15]; rfl
theorem d_R_readPart_18 : decode c_R_readPart 18 = .ok (.aload_n 0, 1) := by decide +kernel
theorem e_R_readPart_18 {a1 a2 a3 a4 : Option Value} : q_R_readPart S (f + 1) 18 [some (.ref i), a1, a2, a3, a4] st h = (q_R_readPart S f 19 [some (.ref i), a1, a2, a3, a4] (.ref i :: st) h) := by rw [q_R_readPart, hz_w_at d_R_readPart_18]; rfl
theorem e_R_readPart_18n {a1 a2 a3 a4 : Option Value} : q_R_readPart S (f + 1) 18 [some .null, a1, a2, a3, a4] st h = (q_R_readPart S f 19 [some .null, a1, a2, a3, a4] (.null :: st) h) := by rw [q_R_readPart, hz_w_at d_R_readPart_18]; rfl
theorem d_R_readPart_19 : decode c_R_readPart 19 = .ok (.getfield 26, 3) := by decide +kernel
theorem e_R_readPart_19 : q_R_readPart S (f + 1) 19 L (.ref i :: st) h = (hz_rd h i 2 0 fun v => q_R_readPart S f 22 L (v :: st) h) := by rw [q_R_readPart, hz_w_at d_R_readPart_19]; rfl
theorem d_R_readPart_22 : decode c_R_readPart 22 = .ok (.getfield 62, 3) := by decide +kernel
theorem e_R_readPart_22 : q_R_readPart S (f + 1) 22 L (.ref i :: st) h = (hz_rd h i 0 1 fun v => q_R_readPart S f 25 L (v :: st) h) := by rw [q_R_readPart, hz_w_at d_R_readPart_22]; rfl
theorem d_R_readPart_25 : decode c_R_readPart 25 = .ok (.iload_n 1, 1) := by decide +kernel
theorem e_R_readPart_25 {a0 a2 a3 a4 : Option Value} : q_R_readPart S (f + 1) 25 [a0, some (.int x), a2, a3, a4] st h = (q_R_readPart S f 26 [a0, some (.int x), a2, a3, a4] (.int x :: st) h) := by rw [q_R_readPart, hz_w_at d_R_readPart_25]; rfl
theorem d_R_readPart_26 : decode c_R_readPart 26 = .ok (.iload_n 3, 1) := by decide +kernel
theorem e_R_readPart_26 {a0 a1 a2 a4 : Option Value} : q_R_readPart S (f + 1) 26 [a0, a1, a2, some (.int x), a4] st h = (q_R_readPart S f 27 [a0, a1, a2, some (.int x), a4] (.int x :: st) h) := by rw [q_R_readPart, hz_w_at d_R_readPart_26]; rfl
theorem d_R_readPart_27 : decode c_R_readPart 27 = .ok (.iastore, 1) := by decide +kernel
theorem e_R_readPart_27 : q_R_readPart S (f + 1) 27 L (.int y :: .int x :: .ref i :: st) h = (hz_es zKT hz_kI h i x (.int y) fun h => q_R_readPart S f 28 L st h) := by rw [q_R_readPart, hz_w_at d_R_readPart_27]; rfl
theorem d_R_readPart_28 : decode c_R_readPart 28 = .ok (.aload_n 0, 1) := by decide +kernel
theorem e_R_readPart_28 {a1 a2 a3 a4 : Option Value} : q_R_readPart S (f + 1) 28 [some (.ref i), a1, a2, a3, a4] st h = (q_R_readPart S f 29 [some (.ref i), a1, a2, a3, a4] (.ref i :: st) h) := by rw [q_R_readPart, hz_w_at d_R_readPart_28]; rfl
theorem e_R_readPart_28n {a1 a2 a3 a4 : Option Value} : q_R_readPart S (f + 1) 28 [some .null, a1, a2, a3, a4] st h = (q_R_readPart S f 29 [some .null, a1, a2, a3, a4] (.null :: st) h) := by rw [q_R_readPart, hz_w_at d_R_readPart_28]; rfl
theorem d_R_readPart_29 : decode c_R_readPart 29 = .ok (.invokevirtual 46, 3) := by decide +kernel
theorem e_R_readPart_29 : q_R_readPart S (f + 1) 29 L st h = (S 29 L st h) := by rw [q_R_readPart, hz_w_at d_R_readPart_29]; rfl
theorem d_R_readPart_32 : decode c_R_readPart 32 = .ok (.istore 4, 2) := by decide +kernel
theorem e_R_readPart_32 {a0 a1 a2 a3 a4 : Option Value} : q_R_readPart S (f + 1) 32 [a0, a1, a2, a3, a4] (.int x :: st) h = (q_R_readPart S f 34 [a0, a1, a2, a3, some (.int x)] st h) := by rw [q_R_readPart, hz_w_at d_R_readPart_32]; rfl
theorem d_R_readPart_34 : decode c_R_readPart 34 = .ok (.iload 4, 2) := by decide +kernel
theorem e_R_readPart_34 {a0 a1 a2 a3 : Option Value} : q_R_readPart S (f + 1) 34 [a0, a1, a2, a3, some (.int x)] st h = (q_R_readPart S f 36 [a0, a1, a2, a3, some (.int x)] (.int x :: st) h) := by rw [q_R_readPart, hz_w_at d_R_readPart_34]; rfl
theorem d_R_readPart_36 : decode c_R_readPart 36 = .ok (.invokestatic 50, 3) := by decide +kernel
theorem e_R_readPart_36 : q_R_readPart S (f + 1) 36 L st h = (S 36 L st h) := by rw [q_R_readPart, hz_w_at d_R_readPart_36]; rfl
theorem d_R_readPart_39 : decode c_R_readPart 39 = .ok (.ifCond .eq 22, 3) := by decide +kernel
theorem e_R_readPart_39 : q_R_readPart S (f + 1) 39 L (.int x :: st) h = ((x.toInt = 0 → q_R_readPart S f 61 L st h) ∧ (¬ (x.toInt = 0) → q_R_readPart S f 42 L st h)) := by rw [q_R_readPart, hz_w_at d_R_readPart_39]; rfl
theorem d_R_readPart_42 : decode c_R_readPart 42 = .ok (.aload_n 0, 1) := by decide +kernel
theorem e_R_readPart_42 {a1 a2 a3 a4 : Option Value} : q_R_readPart S (f + 1) 42 [some (.ref i), a1, a2, a3, a4] st h = (q_R_readPart S f 43 [some (.ref i), a1, a2, a3, a4] (.ref i :: st) h) := by rw [q_R_readPart, hz_w_at d_R_readPart_42]; rfl
theorem e_R_readPart_42n {a1 a2 a3 a4 : Option Value} : q_R_readPart S (f + 1) 42 [some .null, a1, a2, a3, a4] st h = (q_R_readPart S f 43 [some .null, a1, a2, a3, a4] (.null :: st) h) := by rw [q_R_readPart, hz_w_at d_R_readPart_42]; rfl
theorem d_R_readPart_43 : decode c_R_readPart 43 = .ok (.iload 4, 2) := by decide +kernel
theorem e_R_readPart_43 {a0 a1 a2 a3 : Option Value} : q_R_readPart S (f + 1) 43 [a0, a1, a2, a3, some (.int x)] st h = (q_R_readPart S f 45 [a0, a1, a2, a3, some (.int x)] (.int x :: st) h) := by rw [q_R_readPart, hz_w_at d_R_readPart_43]; rfl
theorem d_R_readPart_45 : decode c_R_readPart 45 = .ok (.invokevirtual 65, 3) := by decide +kernel
theorem e_R_readPart_45 : q_R_readPart S (f + 1) 45 L st h = (S 45 L st h) := by rw [q_R_readPart, hz_w_at d_R_readPart_45]; rfl
theorem d_R_readPart_48 : decode c_R_readPart 48 = .ok (.aload_n 0, 1) := by decide +kernel
theorem e_R_readPart_48 {a1 a2 a3 a4 : Option Value} : q_R_readPart S (f + 1) 48 [some (.ref i), a1, a2, a3, a4] st h = (q_R_readPart S f 49 [some (.ref i), a1, a2, a3, a4] (.ref i :: st) h) := by rw [q_R_readPart, hz_w_at d_R_readPart_48]; rfl
theorem e_R_readPart_48n {a1 a2 a3 a4 : Option Value} : q_R_readPart S (f + 1) 48 [some .null, a1, a2, a3, a4] st h = (q_R_readPart S f 49 [some .null, a1, a2, a3, a4] (.null :: st) h) := by rw [q_R_readPart, hz_w_at d_R_readPart_48]; rfl
theorem d_R_readPart_49 : decode c_R_readPart 49 = .ok (.dup, 1) := by decide +kernel
theorem e_R_readPart_49 : q_R_readPart S (f + 1) 49 L (.ref i :: st) h = (q_R_readPart S f 50 L (.ref i :: .ref i :: st) h) := by rw [q_R_readPart, hz_w_at d_R_readPart_49]; rfl
theorem e_R_readPart_49i : q_R_readPart S (f + 1) 49 L (.int x :: st) h = (q_R_readPart S f 50 L (.int x :: .int x :: st) h) := by rw [q_R_readPart, hz_w_at d_R_readPart_49]; rfl
theorem d_R_readPart_50 : decode c_R_readPart 50 = .ok (.getfield 15, 3) := by decide +kernel
theorem e_R_readPart_50 : q_R_readPart S (f + 1) 50 L (.ref i :: st) h = (hz_rd h i 2 2 fun v => q_R_readPart S f 53 L (v :: st) h) := by rw [q_R_readPart, hz_w_at d_R_readPart_50]; rfl
theorem d_R_readPart_53 : decode c_R_readPart 53 = .ok (.iconst 1, 1) := by decide +kernel
theorem e_R_readPart_53 : q_R_readPart S (f + 1) 53 L st h = (q_R_readPart S f 54 L (.int (hz_n 1) :: st) h) := by rw [q_R_readPart, hz_w_at d_R_readPart_53]; rfl
theorem d_R_readPart_54 : decode c_R_readPart 54 = .ok (.iadd, 1) := by decide +kernel
theorem e_R_readPart_54 : q_R_readPart S (f + 1) 54 L (.int y :: .int x :: st) h = (q_R_readPart S f 55 L (.int (x + y) :: st) h) := by rw [q_R_readPart, hz_w_at d_R_readPart_54]; rfl
theorem d_R_readPart_55 : decode c_R_readPart 55 = .ok (.putfield 15, 3) := by decide +kernel
theorem e_R_readPart_55 : q_R_readPart S (f + 1) 55 L (.int x :: .ref i :: st) h = (hz_wr h i 2 2 (.int x) fun h => q_R_readPart S f 58 L st h) := by rw [q_R_readPart, hz_w_at d_R_readPart_55]; rfl
theorem d_R_readPart_58 : decode c_R_readPart 58 = .ok (.goto 62, 3) := by decide +kernel
theorem e_R_readPart_58 : q_R_readPart S (f + 1) 58 L st h = (q_R_readPart S f 120 L st h) := by rw [q_R_readPart, hz_w_at d_R_readPart_58]; rfl
theorem d_R_readPart_61 : decode c_R_readPart 61 = .ok (.iload 4, 2) := by decide +kernel
theorem e_R_readPart_61 {a0 a1 a2 a3 : Option Value} : q_R_readPart S (f + 1) 61 [a0, a1, a2, a3, some (.int x)] st h = (q_R_readPart S f 63 [a0, a1, a2, a3, some (.int x)] (.int x :: st) h) := by rw [q_R_readPart, hz_w_at d_R_readPart_61]; rfl
theorem d_R_readPart_63 : decode c_R_readPart 63 = .ok (.invokestatic 68, 3) := by decide +kernel
theorem e_R_readPart_63 : q_R_readPart S (f + 1) 63 L st h = (S 63 L st h) := by rw [q_R_readPart, hz_w_at d_R_readPart_63]; rfl
theorem d_R_readPart_66 : decode c_R_readPart 66 = .ok (.ifCond .ne 18, 3) := by decide +kernel
theorem e_R_readPart_66 : q_R_readPart S (f + 1) 66 L (.int x :: st) h = ((¬ x.toInt = 0 → q_R_readPart S f 84 L st h) ∧ (¬ (¬ x.toInt = 0) → q_R_readPart S f 69 L st h)) := by rw [q_R_readPart, hz_w_at d_R_readPart_66]; rfl
theorem d_R_readPart_69 : decode c_R_readPart 69 = .ok (.iload 4, 2) := by decide +kernel
theorem e_R_readPart_69 {a0 a1 a2 a3 : Option Value} : q_R_readPart S (f + 1) 69 [a0, a1, a2, a3, some (.int x)] st h = (q_R_readPart S f 71 [a0, a1, a2, a3, some (.int x)] (.int x :: st) h) := by rw [q_R_readPart, hz_w_at d_R_readPart_69]; rfl
theorem d_R_readPart_71 : decode c_R_readPart 71 = .ok (.invokestatic 71, 3) := by decide +kernel
theorem e_R_readPart_71 : q_R_readPart S (f + 1) 71 L st h = (S 71 L st h) := by rw [q_R_readPart, hz_w_at d_R_readPart_71]; rfl
theorem d_R_readPart_74 : decode c_R_readPart 74 = .ok (.ifCond .ne 10, 3) := by decide +kernel
theorem e_R_readPart_74 : q_R_readPart S (f + 1) 74 L (.int x :: st) h = ((¬ x.toInt = 0 → q_R_readPart S f 84 L st h) ∧ (¬ (¬ x.toInt = 0) → q_R_readPart S f 77 L st h)) := by rw [q_R_readPart, hz_w_at d_R_readPart_74]; rfl
theorem d_R_readPart_77 : decode c_R_readPart 77 = .ok (.iload 4, 2) := by decide +kernel
theorem e_R_readPart_77 {a0 a1 a2 a3 : Option Value} : q_R_readPart S (f + 1) 77 [a0, a1, a2, a3, some (.int x)] st h = (q_R_readPart S f 79 [a0, a1, a2, a3, some (.int x)] (.int x :: st) h) := by rw [q_R_readPart, hz_w_at d_R_readPart_77]; rfl
theorem d_R_readPart_79 : decode c_R_readPart 79 = .ok (.bipush 126, 2) := by decide +kernel
theorem e_R_readPart_79 : q_R_readPart S (f + 1) 79 L st h = (q_R_readPart S f 81 L (.int (hz_n 126) :: st) h) := by rw [q_R_readPart, hz_w_at d_R_readPart_79]; rfl
theorem d_R_readPart_81 : decode c_R_readPart 81 = .ok (.if_icmp .ne 16, 3) := by decide +kernel
theorem e_R_readPart_81 : q_R_readPart S (f + 1) 81 L (.int y :: .int x :: st) h = ((¬ x.toInt = y.toInt → q_R_readPart S f 97 L st h) ∧ (¬ (¬ x.toInt = y.toInt) → q_R_readPart S f 84 L st h)) := by rw [q_R_readPart, hz_w_at d_R_readPart_81]; rfl
theorem d_R_readPart_84 : decode c_R_readPart 84 = .ok (.aload_n 0, 1) := by decide +kernel
theorem e_R_readPart_84 {a1 a2 a3 a4 : Option Value} : q_R_readPart S (f + 1) 84 [some (.ref i), a1, a2, a3, a4] st h = (q_R_readPart S f 85 [some (.ref i), a1, a2, a3, a4] (.ref i :: st) h) := by rw [q_R_readPart, hz_w_at d_R_readPart_84]; rfl
theorem e_R_readPart_84n {a1 a2 a3 a4 : Option Value} : q_R_readPart S (f + 1) 84 [some .null, a1, a2, a3, a4] st h = (q_R_readPart S f 85 [some .null, a1, a2, a3, a4] (.null :: st) h) := by rw [q_R_readPart, hz_w_at d_R_readPart_84]; rfl
theorem d_R_readPart_85 : decode c_R_readPart 85 = .ok (.dup, 1) := by decide +kernel
theorem e_R_readPart_85 : q_R_readPart S (f + 1) 85 L (.ref i :: st) h = (q_R_readPart S f 86 L (.ref i :: .ref i :: st) h) := by rw [q_R_readPart, hz_w_at d_R_readPart_85]; rfl
theorem e_R_readPart_85i : q_R_readPart S (f + 1) 85 L (.int x :: st) h = (q_R_readPart S f 86 L (.int x :: .int x :: st) h) := by rw [q_R_readPart, hz_w_at d_R_readPart_85]; rfl
theorem d_R_readPart_86 : decode c_R_readPart 86 = .ok (.getfield 15, 3) := by decide +kernel
theorem e_R_readPart_86 : q_R_readPart S (f + 1) 86 L (.ref i :: st) h = (hz_rd h i 2 2 fun v => q_R_readPart S f 89 L (v :: st) h) := by rw [q_R_readPart, hz_w_at d_R_readPart_86]; rfl
theorem d_R_readPart_89 : decode c_R_readPart 89 = .ok (.iconst 1, 1) := by decide +kernel
theorem e_R_readPart_89 : q_R_readPart S (f + 1) 89 L st h = (q_R_readPart S f 90 L (.int (hz_n 1) :: st) h) := by rw [q_R_readPart, hz_w_at d_R_readPart_89]; rfl
theorem d_R_readPart_90 : decode c_R_readPart 90 = .ok (.iadd, 1) := by decide +kernel
theorem e_R_readPart_90 : q_R_readPart S (f + 1) 90 L (.int y :: .int x :: st) h = (q_R_readPart S f 91 L (.int (x + y) :: st) h) := by rw [q_R_readPart, hz_w_at d_R_readPart_90]; rfl
theorem d_R_readPart_91 : decode c_R_readPart 91 = .ok (.putfield 15, 3) := by decide +kernel
theorem e_R_readPart_91 : q_R_readPart S (f + 1) 91 L (.int x :: .ref i :: st) h = (hz_wr h i 2 2 (.int x) fun h => q_R_readPart S f 94 L st h) := by rw [q_R_readPart, hz_w_at d_R_readPart_91]; rfl
theorem d_R_readPart_94 : decode c_R_readPart 94 = .ok (.goto 26, 3) := by decide +kernel
theorem e_R_readPart_94 : q_R_readPart S (f + 1) 94 L st h = (q_R_readPart S f 120 L st h) := by rw [q_R_readPart, hz_w_at d_R_readPart_94]; rfl
theorem d_R_readPart_97 : decode c_R_readPart 97 = .ok (.iload_n 2, 1) := by decide +kernel
theorem e_R_readPart_97 {a0 a1 a3 a4 : Option Value} : q_R_readPart S (f + 1) 97 [a0, a1, some (.int x), a3, a4] st h = (q_R_readPart S f 98 [a0, a1, some (.int x), a3, a4] (.int x :: st) h) := by rw [q_R_readPart, hz_w_at d_R_readPart_97]; rfl
theorem d_R_readPart_98 : decode c_R_readPart 98 = .ok (.bipush 15, 2) := by decide +kernel
theorem e_R_readPart_98 : q_R_readPart S (f + 1) 98 L st h = (q_R_readPart S f 100 L (.int (hz_n 15) :: st) h) := by rw [q_R_readPart, hz_w_at d_R_readPart_98]; rfl
theorem d_R_readPart_100 : decode c_R_readPart 100 = .ok (.if_icmp .lt 11, 3) := by decide +kernel
theorem e_R_readPart_100 : q_R_readPart S (f + 1) 100 L (.int y :: .int x :: st) h = ((x.toInt < y.toInt → q_R_readPart S f 111 L st h) ∧ (¬ (x.toInt < y.toInt) → q_R_readPart S f 103 L st h)) := by rw [q_R_readPart, hz_w_at d_R_readPart_100]; rfl
theorem d_R_readPart_103 : decode c_R_readPart 103 = .ok (.aload_n 0, 1) := by decide +kernel
theorem e_R_readPart_103 {a1 a2 a3 a4 : Option Value} : q_R_readPart S (f + 1) 103 [some (.ref i), a1, a2, a3, a4] st h = (q_R_readPart S f 104 [some (.ref i), a1, a2, a3, a4] (.ref i :: st) h) := by rw [q_R_readPart, hz_w_at d_R_readPart_103]; rfl
theorem e_R_readPart_103n {a1 a2 a3 a4 : Option Value} : q_R_readPart S (f + 1) 103 [some .null, a1, a2, a3, a4] st h = (q_R_readPart S f 104 [some .null, a1, a2, a3, a4] (.null :: st) h) := by rw [q_R_readPart, hz_w_at d_R_readPart_103]; rfl
theorem d_R_readPart_104 : decode c_R_readPart 104 = .ok (.iconst 1, 1) := by decide +kernel
theorem e_R_readPart_104 : q_R_readPart S (f + 1) 104 L st h = (q_R_readPart S f 105 L (.int (hz_n 1) :: st) h) := by rw [q_R_readPart, hz_w_at d_R_readPart_104]; rfl
theorem d_R_readPart_105 : decode c_R_readPart 105 = .ok (.putfield 19, 3) := by decide +kernel
theorem e_R_readPart_105 : q_R_readPart S (f + 1) 105 L (.int x :: .ref i :: st) h = ((narrow .boolean (.int x) = .int x ∧ fits .boolean (.int x) = true) ∧ hz_wr h i 2 3 (.int x) fun h => q_R_readPart S f 108 L st h) := by rw [q_R_readPart, hz_w_at d_R_readPart_105]; rfl
theorem d_R_readPart_108 : decode c_R_readPart 108 = .ok (.goto 12, 3) := by decide +kernel
theorem e_R_readPart_108 : q_R_readPart S (f + 1) 108 L st h = (q_R_readPart S f 120 L st h) := by rw [q_R_readPart, hz_w_at d_R_readPart_108]; rfl
theorem d_R_readPart_111 : decode c_R_readPart 111 = .ok (.aload_n 0, 1) := by decide +kernel
theorem e_R_readPart_111 {a1 a2 a3 a4 : Option Value} : q_R_readPart S (f + 1) 111 [some (.ref i), a1, a2, a3, a4] st h = (q_R_readPart S f 112 [some (.ref i), a1, a2, a3, a4] (.ref i :: st) h) := by rw [q_R_readPart, hz_w_at d_R_readPart_111]; rfl
theorem e_R_readPart_111n {a1 a2 a3 a4 : Option Value} : q_R_readPart S (f + 1) 111 [some .null, a1, a2, a3, a4] st h = (q_R_readPart S f 112 [some .null, a1, a2, a3, a4] (.null :: st) h) := by rw [q_R_readPart, hz_w_at d_R_readPart_111]; rfl
theorem d_R_readPart_112 : decode c_R_readPart 112 = .ok (.iload 4, 2) := by decide +kernel
theorem e_R_readPart_112 {a0 a1 a2 a3 : Option Value} : q_R_readPart S (f + 1) 112 [a0, a1, a2, a3, some (.int x)] st h = (q_R_readPart S f 114 [a0, a1, a2, a3, some (.int x)] (.int x :: st) h) := by rw [q_R_readPart, hz_w_at d_R_readPart_112]; rfl
theorem d_R_readPart_114 : decode c_R_readPart 114 = .ok (.iload_n 2, 1) := by decide +kernel
theorem e_R_readPart_114 {a0 a1 a3 a4 : Option Value} : q_R_readPart S (f + 1) 114 [a0, a1, some (.int x), a3, a4] st h = (q_R_readPart S f 115 [a0, a1, some (.int x), a3, a4] (.int x :: st) h) := by rw [q_R_readPart, hz_w_at d_R_readPart_114]; rfl
theorem d_R_readPart_115 : decode c_R_readPart 115 = .ok (.iconst 1, 1) := by decide +kernel
theorem e_R_readPart_115 : q_R_readPart S (f + 1) 115 L st h = (q_R_readPart S f 116 L (.int (hz_n 1) :: st) h) := by rw [q_R_readPart, hz_w_at d_R_readPart_115]; rfl
theorem d_R_readPart_116 : decode c_R_readPart 116 = .ok (.iadd, 1) := by decide +kernel
theorem e_R_readPart_116 : q_R_readPart S (f + 1) 116 L (.int y :: .int x :: st) h = (q_R_readPart S f 117 L (.int (x + y) :: st) h) := by rw [q_R_readPart, hz_w_at d_R_readPart_116]; rfl
theorem d_R_readPart_117 : decode c_R_readPart 117 = .ok (.invokevirtual 74, 3) := by decide +kernel
theorem e_R_readPart_117 : q_R_readPart S (f + 1) 117 L st h = (S 117 L st h) := by rw [q_R_readPart, hz_w_at d_R_readPart_117]; rfl
theorem d_R_readPart_120 : decode c_R_readPart 120 = .ok (.iload_n 3, 1) := by decide +kernel
theorem e_R_readPart_120 {a0 a1 a2 a4 : Option Value} : q_R_readPart S (f + 1) 120 [a0, a1, a2, some (.int x), a4] st h = (q_R_readPart S f 121 [a0, a1, a2, some (.int x), a4] (.int x :: st) h) := by rw [q_R_readPart, hz_w_at d_R_readPart_120]; rfl
theorem d_R_readPart_121 : decode c_R_readPart 121 = .ok (.ireturn, 1) := by decide +kernel
theorem e_R_readPart_121 : q_R_readPart S (f + 1) 121 L st h = (S 121 L st h) := by rw [q_R_readPart, hz_w_at d_R_readPart_121]; rfl
end
abbrev q_R_useVariable (S : Nat → List (Option Value) → List Value → hz_H → Prop) := hz_w zCl zKT f_R n_R c_R_useVariable [] S
section
variable {S : Nat → List (Option Value) → List Value → hz_H → Prop} {f : Nat} {L : List (Option Value)} {st : List Value} {h : hz_H} {x y : Int32} {i j : Nat} {X Y : Int64}
theorem d_R_useVariable_0 : decode c_R_useVariable 0 = .ok (.aload_n 0, 1) := by decide +kernel
theorem e_R_useVariable_0 {a1 a2 : Option Value} : q_R_useVariable S (f + 1) 0 [some (.ref i), a1, a2] st h = (q_R_useVariable S f 1 [some (.ref i), a1, a2] (.ref i :: st) h) := by rw [q_R_useVariable, hz_w_at d_R_useVariable_0]; rfl
theorem e_R_useVariable_0n {a1 a2 : Option Value} : q_R_useVariable S (f + 1) 0 [some .null, a1, a2] st h = (q_R_useVariable S f 1 [some .null, a1, a2] (.null :: st) h) := by rw [q_R_useVariable, hz_w_at d_R_useVariable_0]; rfl
theorem d_R_useVariable_1 : decode c_R_useVariable 1 = .ok (.getfield 9, 3) := by decide +kernel
theorem e_R_useVariable_1 : q_R_useVariable S (f + 1) 1 L (.ref i :: st) h = (hz_rd h i 2 1 fun v => q_R_useVariable S f 4 L (v :: st) h) := by rw [q_R_useVariable, hz_w_at d_R_useVariable_1]; rfl
theorem d_R_useVariable_4 : decode c_R_useVariable 4 = .ok (.iload_n 1, 1) := by decide +kernel
theorem e_R_useVariable_4 {a0 a2 : Option Value} : q_R_useVariable S (f + 1) 4 [a0, some (.int x), a2] st h = (q_R_useVariable S f 5 [a0, some (.int x), a2] (.int x :: st) h) := by rw [q_R_useVariable, hz_w_at d_R_useVariable_4]; rfl
theorem d_R_useVariable_5 : decode c_R_useVariable 5 = .ok (.bipush 97, 2) := by decide +kernel
theorem e_R_useVariable_5 : q_R_useVariable S (f + 1) 5 L st h = (q_R_useVariable S f 7 L (.int (hz_n 97) :: st) h) := by rw [q_R_useVariable, hz_w_at d_R_useVariable_5]; rfl
theorem d_R_useVariable_7 : decode c_R_useVariable 7 = .ok (.isub, 1) := by decide +kernel
theorem e_R_useVariable_7 : q_R_useVariable S (f + 1) 7 L (.int y :: .int x :: st) h = (q_R_useVariable S f 8 L (.int (x - y) :: st) h) := by rw [q_R_useVariable, hz_w_at d_R_useVariable_7]; rfl
theorem d_R_useVariable_8 : decode c_R_useVariable 8 = .ok (.iaload, 1) := by decide +kernel
theorem e_R_useVariable_8 : q_R_useVariable S (f + 1) 8 L (.int x :: .ref i :: st) h = (hz_ea zKT hz_kI h i x fun v => q_R_useVariable S f 9 L (v :: st) h) := by rw [q_R_useVariable, hz_w_at d_R_useVariable_8]; rfl
theorem d_R_useVariable_9 : decode c_R_useVariable 9 = .ok (.istore_n 2, 1) := by decide +kernel
theorem e_R_useVariable_9 {a0 a1 a2 : Option Value} : q_R_useVariable S (f + 1) 9 [a0, a1, a2] (.int x :: st) h = (q_R_useVariable S f 10 [a0, a1, some (.int x)] st h) := by rw [q_R_useVariable, hz_w_at d_R_useVariable_9]; rfl
theorem d_R_useVariable_10 : decode c_R_useVariable 10 = .ok (.aload_n 0, 1) := by decide +kernel
theorem e_R_useVariable_10 {a1 a2 : Option Value} : q_R_useVariable S (f + 1) 10 [some (.ref i), a1, a2] st h = (q_R_useVariable S f 11 [some (.ref i), a1, a2] (.ref i :: st) h) := by rw [q_R_useVariable, hz_w_at d_R_useVariable_10]; rfl
theorem e_R_useVariable_10n {a1 a2 : Option Value} : q_R_useVariable S (f + 1) 10 [some .null, a1, a2] st h = (q_R_useVariable S f 11 [some .null, a1, a2] (.null :: st) h) := by rw [q_R_useVariable, hz_w_at d_R_useVariable_10]; rfl
theorem d_R_useVariable_11 : decode c_R_useVariable 11 = .ok (.getfield 26, 3) := by decide +kernel
theorem e_R_useVariable_11 : q_R_useVariable S (f + 1) 11 L (.ref i :: st) h = (hz_rd h i 2 0 fun v => q_R_useVariable S f 14 L (v :: st) h) := by rw [q_R_useVariable, hz_w_at d_R_useVariable_11]; rfl
theorem d_R_useVariable_14 : decode c_R_useVariable 14 = .ok (.getfield 78, 3) := by decide +kernel
theorem e_R_useVariable_14 : q_R_useVariable S (f + 1) 14 L (.ref i :: st) h = (hz_rd h i 0 2 fun v => q_R_useVariable S f 17 L (v :: st) h) := by rw [q_R_useVariable, hz_w_at d_R_useVariable_14]; rfl
theorem d_R_useVariable_17 : decode c_R_useVariable 17 = .ok (.aload_n 0, 1) := by decide +kernel
theorem e_R_useVariable_17 {a1 a2 : Option Value} : q_R_useVariable S (f + 1) 17 [some (.ref i), a1, a2] st h = (q_R_useVariable S f 18 [some (.ref i), a1, a2] (.ref i :: st) h) := by rw [q_R_useVariable, hz_w_at d_R_useVariable_17]; rfl
theorem e_R_useVariable_17n {a1 a2 : Option Value} : q_R_useVariable S (f + 1) 17 [some .null, a1, a2] st h = (q_R_useVariable S f 18 [some .null, a1, a2] (.null :: st) h) := by rw [q_R_useVariable, hz_w_at d_R_useVariable_17]; rfl
theorem d_R_useVariable_18 : decode c_R_useVariable 18 = .ok (.getfield 15, 3) := by decide +kernel
theorem e_R_useVariable_18 : q_R_useVariable S (f + 1) 18 L (.ref i :: st) h = (hz_rd h i 2 2 fun v => q_R_useVariable S f 21 L (v :: st) h) := by rw [q_R_useVariable, hz_w_at d_R_useVariable_18]; rfl
theorem d_R_useVariable_21 : decode c_R_useVariable 21 = .ok (.iload_n 2, 1) := by decide +kernel
theorem e_R_useVariable_21 {a0 a1 : Option Value} : q_R_useVariable S (f + 1) 21 [a0, a1, some (.int x)] st h = (q_R_useVariable S f 22 [a0, a1, some (.int x)] (.int x :: st) h) := by rw [q_R_useVariable, hz_w_at d_R_useVariable_21]; rfl
theorem d_R_useVariable_22 : decode c_R_useVariable 22 = .ok (.iastore, 1) := by decide +kernel
theorem e_R_useVariable_22 : q_R_useVariable S (f + 1) 22 L (.int y :: .int x :: .ref i :: st) h = (hz_es zKT hz_kI h i x (.int y) fun h => q_R_useVariable S f 23 L st h) := by rw [q_R_useVariable, hz_w_at d_R_useVariable_22]; rfl
theorem d_R_useVariable_23 : decode c_R_useVariable 23 = .ok (.iload_n 2, 1) := by decide +kernel
theorem e_R_useVariable_23 {a0 a1 : Option Value} : q_R_useVariable S (f + 1) 23 [a0, a1, some (.int x)] st h = (q_R_useVariable S f 24 [a0, a1, some (.int x)] (.int x :: st) h) := by rw [q_R_useVariable, hz_w_at d_R_useVariable_23]; rfl
theorem d_R_useVariable_24 : decode c_R_useVariable 24 = .ok (.iconst (-1), 1) := by decide +kernel
theorem e_R_useVariable_24 : q_R_useVariable S (f + 1) 24 L st h = (q_R_useVariable S f 25 L (.int (hz_n (-1)) :: st) h) := by rw [q_R_useVariable, hz_w_at d_R_useVariable_24]; rfl
theorem d_R_useVariable_25 : decode c_R_useVariable 25 = .ok (.if_icmp .ne 19, 3) := by decide +kernel
theorem e_R_useVariable_25 : q_R_useVariable S (f + 1) 25 L (.int y :: .int x :: st) h = ((¬ x.toInt = y.toInt → q_R_useVariable S f 44 L st h) ∧ (¬ (¬ x.toInt = y.toInt) → q_R_useVariable S f 28 L st h)) := by rw [q_R_useVariable, hz_w_at d_R_useVariable_25]; rfl
theorem d_R_useVariable_28 : decode c_R_useVariable 28 = .ok (.aload_n 0, 1) := by decide +kernel
theorem e_R_useVariable_28 {a1 a2 : Option Value} : q_R_useVariable S (f + 1) 28 [some (.ref i), a1, a2] st h = (q_R_useVariable S f 29 [some (.ref i), a1, a2] (.ref i :: st) h) := by rw [q_R_useVariable, hz_w_at d_R_useVariable_28]; rfl
theorem e_R_useVariable_28n {a1 a2 : Option Value} : q_R_useVariable S (f + 1) 28 [some .null, a1, a2] st h = (q_R_useVariable S f 29 [some .null, a1, a2] (.null :: st) h) := by rw [q_R_useVariable, hz_w_at d_R_useVariable_28]; rfl
theorem d_R_useVariable_29 : decode c_R_useVariable 29 = .ok (.getfield 23, 3) := by decide +kernel
theorem e_R_useVariable_29 : q_R_useVariable S (f + 1) 29 L (.ref i :: st) h = (hz_rd h i 2 4 fun v => q_R_useVariable S f 32 L (v :: st) h) := by rw [q_R_useVariable, hz_w_at d_R_useVariable_29]; rfl
theorem d_R_useVariable_32 : decode c_R_useVariable 32 = .ok (.iconst (-1), 1) := by decide +kernel
theorem e_R_useVariable_32 : q_R_useVariable S (f + 1) 32 L st h = (q_R_useVariable S f 33 L (.int (hz_n (-1)) :: st) h) := by rw [q_R_useVariable, hz_w_at d_R_useVariable_32]; rfl
theorem d_R_useVariable_33 : decode c_R_useVariable 33 = .ok (.if_icmp .ne 11, 3) := by decide +kernel
theorem e_R_useVariable_33 : q_R_useVariable S (f + 1) 33 L (.int y :: .int x :: st) h = ((¬ x.toInt = y.toInt → q_R_useVariable S f 44 L st h) ∧ (¬ (¬ x.toInt = y.toInt) → q_R_useVariable S f 36 L st h)) := by rw [q_R_useVariable, hz_w_at d_R_useVariable_33]; rfl
theorem d_R_useVariable_36 : decode c_R_useVariable 36 = .ok (.aload_n 0, 1) := by decide +kernel
theorem e_R_useVariable_36 {a1 a2 : Option Value} : q_R_useVariable S (f + 1) 36 [some (.ref i), a1, a2] st h = (q_R_useVariable S f 37 [some (.ref i), a1, a2] (.ref i :: st) h) := by rw [q_R_useVariable, hz_w_at d_R_useVariable_36]; rfl
theorem e_R_useVariable_36n {a1 a2 : Option Value} : q_R_useVariable S (f + 1) 36 [some .null, a1, a2] st h = (q_R_useVariable S f 37 [some .null, a1, a2] (.null :: st) h) := by rw [q_R_useVariable, hz_w_at d_R_useVariable_36]; rfl
theorem d_R_useVariable_37 : decode c_R_useVariable 37 = .ok (.aload_n 0, 1) := by decide +kernel
theorem e_R_useVariable_37 {a1 a2 : Option Value} : q_R_useVariable S (f + 1) 37 [some (.ref i), a1, a2] st h = (q_R_useVariable S f 38 [some (.ref i), a1, a2] (.ref i :: st) h) := by rw [q_R_useVariable, hz_w_at d_R_useVariable_37]; rfl
theorem e_R_useVariable_37n {a1 a2 : Option Value} : q_R_useVariable S (f + 1) 37 [some .null, a1, a2] st h = (q_R_useVariable S f 38 [some .null, a1, a2] (.null :: st) h) := by rw [q_R_useVariable, hz_w_at d_R_useVariable_37]; rfl
theorem d_R_useVariable_38 : decode c_R_useVariable 38 = .ok (.getfield 15, 3) := by decide +kernel
theorem e_R_useVariable_38 : q_R_useVariable S (f + 1) 38 L (.ref i :: st) h = (hz_rd h i 2 2 fun v => q_R_useVariable S f 41 L (v :: st) h) := by rw [q_R_useVariable, hz_w_at d_R_useVariable_38]; rfl
theorem d_R_useVariable_41 : decode c_R_useVariable 41 = .ok (.putfield 23, 3) := by decide +kernel
theorem e_R_useVariable_41 : q_R_useVariable S (f + 1) 41 L (.int x :: .ref i :: st) h = (hz_wr h i 2 4 (.int x) fun h => q_R_useVariable S f 44 L st h) := by rw [q_R_useVariable, hz_w_at d_R_useVariable_41]; rfl
theorem d_R_useVariable_44 : decode c_R_useVariable 44 = .ok (.return_, 1) := by decide +kernel
theorem e_R_useVariable_44 : q_R_useVariable S (f + 1) 44 L st h = (S 44 L st h) := by rw [q_R_useVariable, hz_w_at d_R_useVariable_44]; rfl
end
abbrev q_R_readWhole (S : Nat → List (Option Value) → List Value → hz_H → Prop) := hz_w zCl zKT f_R n_R c_R_readWhole [] S
section
variable {S : Nat → List (Option Value) → List Value → hz_H → Prop} {f : Nat} {L : List (Option Value)} {st : List Value} {h : hz_H} {x y : Int32} {i j : Nat} {X Y : Int64}
theorem d_R_readWhole_0 : decode c_R_readWhole 0 = .ok (.iload_n 1, 1) := by decide +kernel
theorem e_R_readWhole_0 {a0 a2 : Option Value} : q_R_readWhole S (f + 1) 0 [a0, some (.int x), a2] st h = (q_R_readWhole S f 1 [a0, some (.int x), a2] (.int x :: st) h) := by rw [q_R_readWhole, hz_w_at d_R_readWhole_0]; rfl
theorem d_R_readWhole_1 : decode c_R_readWhole 1 = .ok (.tableswitch 221 36 63 #[203, 221, 221, 221, 167, 221, 127, 127, 221, 127, 221, 185, 221, 221, 221, 221, 221, 221, 221, 221, 221, 221, 127, 221, 127, 127, 221, 147], 127) := by decide +kernel
theorem e_R_readWhole_1 : q_R_readWhole S (f + 1) 1 L (.int x :: st) h = (((x.toInt < 36 ∨ 63 < x.toInt) → q_R_readWhole S f 222 L st h) ∧ (x.toInt = 36 → q_R_readWhole S f 204 L st h) ∧ (x.toInt = 37 → q_R_readWhole S f 222 L st h) ∧ (x.toInt = 38 → q_R_readWhole S f 222 L st h) ∧ (x.toInt = 39 → q_R_readWhole S f 222 L st h) ∧ (x.toInt = 40 → q_R_readWhole S f 168 L st h) ∧ (x.toInt = 41 → q_R_readWhole S f 222 L st h) ∧ (x.toInt = 42 → q_R_readWhole S f 128 L st h) ∧ (x.toInt = 43 → q_R_readWhole S f 128 L st h) ∧ (x.toInt = 44 → q_R_readWhole S f 222 L st h) ∧ (x.toInt = 45 → q_R_readWhole S f 128 L st h) ∧ (x.toInt = 46 → q_R_readWhole S f 222 L st h) ∧ (x.toInt = 47 → q_R_readWhole S f 186 L st h) ∧ (x.toInt = 48 → q_R_readWhole S f 222 L st h) ∧ (x.toInt = 49 → q_R_readWhole S f 222 L st h) ∧ (x.toInt = 50 → q_R_readWhole S f 222 L st h) ∧ (x.toInt = 51 → q_R_readWhole S f 222 L st h) ∧ (x.toInt = 52 → q_R_readWhole S f 222 L st h) ∧ (x.toInt = 53 → q_R_readWhole S f 222 L st h) ∧ (x.toInt = 54 → q_R_readWhole S f 222 L st h) ∧ (x.toInt = 55 → q_R_readWhole S f 222 L st h) ∧ (x.toInt = 56 → q_R_readWhole S f 222 L st h) ∧ (x.toInt = 57 → q_R_readWhole S f 222 L st h) ∧ (x.toInt = 58 → q_R_readWhole S f 128 L st h) ∧ (x.toInt = 59 → q_R_readWhole S f 222 L st h) ∧ (x.toInt = 60 → q_R_readWhole S f 128 L st h) ∧ (x.toInt = 61 → q_R_readWhole S f 128 L st h) ∧ (x.toInt = 62 → q_R_readWhole S f 222 L st h) ∧ (x.toInt = 63 → q_R_readWhole S f 148 L st h) ∧ True) := by rw [q_R_readWhole, hz_w_at d_R_readWhole_1]; rfl
theorem d_R_readWhole_128 : decode c_R_readWhole 128 = .ok (.aload_n 0, 1) := by decide +kernel
theorem e_R_readWhole_128 {a1 a2 : Option Value} : q_R_readWhole S (f + 1) 128 [some (.ref i), a1, a2] st h = (q_R_readWhole S f 129 [some (.ref i), a1, a2] (.ref i :: st) h) := by rw [q_R_readWhole, hz_w_at d_R_readWhole_128]; rfl
theorem e_R_readWhole_128n {a1 a2 : Option Value} : q_R_readWhole S (f + 1) 128 [some .null, a1, a2] st h = (q_R_readWhole S f 129 [some .null, a1, a2] (.null :: st) h) := by rw [q_R_readWhole, hz_w_at d_R_readWhole_128]; rfl
theorem d_R_readWhole_129 : decode c_R_readWhole 129 = .ok (.dup, 1) := by decide +kernel
theorem e_R_readWhole_129 : q_R_readWhole S (f + 1) 129 L (.ref i :: st) h = (q_R_readWhole S f 130 L (.ref i :: .ref i :: st) h) := by rw [q_R_readWhole, hz_w_at d_R_readWhole_129]; rfl
theorem e_R_readWhole_129i : q_R_readWhole S (f + 1) 129 L (.int x :: st) h = (q_R_readWhole S f 130 L (.int x :: .int x :: st) h) := by rw [q_R_readWhole, hz_w_at d_R_readWhole_129]; rfl
theorem d_R_readWhole_130 : decode c_R_readWhole 130 = .ok (.getfield 15, 3) := by decide +kernel
theorem e_R_readWhole_130 : q_R_readWhole S (f + 1) 130 L (.ref i :: st) h = (hz_rd h i 2 2 fun v => q_R_readWhole S f 133 L (v :: st) h) := by rw [q_R_readWhole, hz_w_at d_R_readWhole_130]; rfl
theorem d_R_readWhole_133 : decode c_R_readWhole 133 = .ok (.iconst 1, 1) := by decide +kernel
theorem e_R_readWhole_133 : q_R_readWhole S (f + 1) 133 L st h = (q_R_readWhole S f 134 L (.int (hz_n 1) :: st) h) := by rw [q_R_readWhole, hz_w_at d_R_readWhole_133]; rfl
theorem d_R_readWhole_134 : decode c_R_readWhole 134 = .ok (.iadd, 1) := by decide +kernel
theorem e_R_readWhole_134 : q_R_readWhole S (f + 1) 134 L (.int y :: .int x :: st) h = (q_R_readWhole S f 135 L (.int (x + y) :: st) h) := by rw [q_R_readWhole, hz_w_at d_R_readWhole_134]; rfl
theorem d_R_readWhole_135 : decode c_R_readWhole 135 = .ok (.putfield 15, 3) := by decide +kernel
theorem e_R_readWhole_135 : q_R_readWhole S (f + 1) 135 L (.int x :: .ref i :: st) h = (hz_wr h i 2 2 (.int x) fun h => q_R_readWhole S f 138 L st h) := by rw [q_R_readWhole, hz_w_at d_R_readWhole_135]; rfl
theorem d_R_readWhole_138 : decode c_R_readWhole 138 = .ok (.aload_n 0, 1) := by decide +kernel
theorem e_R_readWhole_138 {a1 a2 : Option Value} : q_R_readWhole S (f + 1) 138 [some (.ref i), a1, a2] st h = (q_R_readWhole S f 139 [some (.ref i), a1, a2] (.ref i :: st) h) := by rw [q_R_readWhole, hz_w_at d_R_readWhole_138]; rfl
theorem e_R_readWhole_138n {a1 a2 : Option Value} : q_R_readWhole S (f + 1) 138 [some .null, a1, a2] st h = (q_R_readWhole S f 139 [some .null, a1, a2] (.null :: st) h) := by rw [q_R_readWhole, hz_w_at d_R_readWhole_138]; rfl
theorem d_R_readWhole_139 : decode c_R_readWhole 139 = .ok (.iconst 2, 1) := by decide +kernel
theorem e_R_readWhole_139 : q_R_readWhole S (f + 1) 139 L st h = (q_R_readWhole S f 140 L (.int (hz_n 2) :: st) h) := by rw [q_R_readWhole, hz_w_at d_R_readWhole_139]; rfl
theorem d_R_readWhole_140 : decode c_R_readWhole 140 = .ok (.iload_n 2, 1) := by decide +kernel
theorem e_R_readWhole_140 {a0 a1 : Option Value} : q_R_readWhole S (f + 1) 140 [a0, a1, some (.int x)] st h = (q_R_readWhole S f 141 [a0, a1, some (.int x)] (.int x :: st) h) := by rw [q_R_readWhole, hz_w_at d_R_readWhole_140]; rfl
theorem d_R_readWhole_141 : decode c_R_readWhole 141 = .ok (.invokevirtual 81, 3) := by decide +kernel
theorem e_R_readWhole_141 : q_R_readWhole S (f + 1) 141 L st h = (S 141 L st h) := by rw [q_R_readWhole, hz_w_at d_R_readWhole_141]; rfl
theorem d_R_readWhole_144 : decode c_R_readWhole 144 = .ok (.pop, 1) := by decide +kernel
theorem e_R_readWhole_144 : q_R_readWhole S (f + 1) 144 L (.ref i :: st) h = (q_R_readWhole S f 145 L st h) := by rw [q_R_readWhole, hz_w_at d_R_readWhole_144]; rfl
theorem e_R_readWhole_144i : q_R_readWhole S (f + 1) 144 L (.int x :: st) h = (q_R_readWhole S f 145 L st h) := by rw [q_R_readWhole, hz_w_at d_R_readWhole_144]; rfl
theorem d_R_readWhole_145 : decode c_R_readWhole 145 = .ok (.goto 82, 3) := by decide +kernel
theorem e_R_readWhole_145 : q_R_readWhole S (f + 1) 145 L st h = (q_R_readWhole S f 227 L st h) := by rw [q_R_readWhole, hz_w_at d_R_readWhole_145]; rfl
theorem d_R_readWhole_148 : decode c_R_readWhole 148 = .ok (.aload_n 0, 1) := by decide +kernel
theorem e_R_readWhole_148 {a1 a2 : Option Value} : q_R_readWhole S (f + 1) 148 [some (.ref i), a1, a2] st h = (q_R_readWhole S f 149 [some (.ref i), a1, a2] (.ref i :: st) h) := by rw [q_R_readWhole, hz_w_at d_R_readWhole_148]; rfl
theorem e_R_readWhole_148n {a1 a2 : Option Value} : q_R_readWhole S (f + 1) 148 [some .null, a1, a2] st h = (q_R_readWhole S f 149 [some .null, a1, a2] (.null :: st) h) := by rw [q_R_readWhole, hz_w_at d_R_readWhole_148]; rfl
theorem d_R_readWhole_149 : decode c_R_readWhole 149 = .ok (.dup, 1) := by decide +kernel
theorem e_R_readWhole_149 : q_R_readWhole S (f + 1) 149 L (.ref i :: st) h = (q_R_readWhole S f 150 L (.ref i :: .ref i :: st) h) := by rw [q_R_readWhole, hz_w_at d_R_readWhole_149]; rfl
theorem e_R_readWhole_149i : q_R_readWhole S (f + 1) 149 L (.int x :: st) h = (q_R_readWhole S f 150 L (.int x :: .int x :: st) h) := by rw [q_R_readWhole, hz_w_at d_R_readWhole_149]; rfl
theorem d_R_readWhole_150 : decode c_R_readWhole 150 = .ok (.getfield 15, 3) := by decide +kernel
theorem e_R_readWhole_150 : q_R_readWhole S (f + 1) 150 L (.ref i :: st) h = (hz_rd h i 2 2 fun v => q_R_readWhole S f 153 L (v :: st) h) := by rw [q_R_readWhole, hz_w_at d_R_readWhole_150]; rfl
theorem d_R_readWhole_153 : decode c_R_readWhole 153 = .ok (.iconst 1, 1) := by decide +kernel
theorem e_R_readWhole_153 : q_R_readWhole S (f + 1) 153 L st h = (q_R_readWhole S f 154 L (.int (hz_n 1) :: st) h) := by rw [q_R_readWhole, hz_w_at d_R_readWhole_153]; rfl
theorem d_R_readWhole_154 : decode c_R_readWhole 154 = .ok (.iadd, 1) := by decide +kernel
theorem e_R_readWhole_154 : q_R_readWhole S (f + 1) 154 L (.int y :: .int x :: st) h = (q_R_readWhole S f 155 L (.int (x + y) :: st) h) := by rw [q_R_readWhole, hz_w_at d_R_readWhole_154]; rfl
theorem d_R_readWhole_155 : decode c_R_readWhole 155 = .ok (.putfield 15, 3) := by decide +kernel
theorem e_R_readWhole_155 : q_R_readWhole S (f + 1) 155 L (.int x :: .ref i :: st) h = (hz_wr h i 2 2 (.int x) fun h => q_R_readWhole S f 158 L st h) := by rw [q_R_readWhole, hz_w_at d_R_readWhole_155]; rfl
theorem d_R_readWhole_158 : decode c_R_readWhole 158 = .ok (.aload_n 0, 1) := by decide +kernel
theorem e_R_readWhole_158 {a1 a2 : Option Value} : q_R_readWhole S (f + 1) 158 [some (.ref i), a1, a2] st h = (q_R_readWhole S f 159 [some (.ref i), a1, a2] (.ref i :: st) h) := by rw [q_R_readWhole, hz_w_at d_R_readWhole_158]; rfl
theorem e_R_readWhole_158n {a1 a2 : Option Value} : q_R_readWhole S (f + 1) 158 [some .null, a1, a2] st h = (q_R_readWhole S f 159 [some .null, a1, a2] (.null :: st) h) := by rw [q_R_readWhole, hz_w_at d_R_readWhole_158]; rfl
theorem d_R_readWhole_159 : decode c_R_readWhole 159 = .ok (.iconst 3, 1) := by decide +kernel
theorem e_R_readWhole_159 : q_R_readWhole S (f + 1) 159 L st h = (q_R_readWhole S f 160 L (.int (hz_n 3) :: st) h) := by rw [q_R_readWhole, hz_w_at d_R_readWhole_159]; rfl
theorem d_R_readWhole_160 : decode c_R_readWhole 160 = .ok (.iload_n 2, 1) := by decide +kernel
theorem e_R_readWhole_160 {a0 a1 : Option Value} : q_R_readWhole S (f + 1) 160 [a0, a1, some (.int x)] st h = (q_R_readWhole S f 161 [a0, a1, some (.int x)] (.int x :: st) h) := by rw [q_R_readWhole, hz_w_at d_R_readWhole_160]; rfl
theorem d_R_readWhole_161 : decode c_R_readWhole 161 = .ok (.invokevirtual 81, 3) := by decide +kernel
theorem e_R_readWhole_161 : q_R_readWhole S (f + 1) 161 L st h = (S 161 L st h) := by rw [q_R_readWhole, hz_w_at d_R_readWhole_161]; rfl
theorem d_R_readWhole_164 : decode c_R_readWhole 164 = .ok (.pop, 1) := by decide +kernel
theorem e_R_readWhole_164 : q_R_readWhole S (f + 1) 164 L (.ref i :: st) h = (q_R_readWhole S f 165 L st h) := by rw [q_R_readWhole, hz_w_at d_R_readWhole_164]; rfl
theorem e_R_readWhole_164i : q_R_readWhole S (f + 1) 164 L (.int x :: st) h = (q_R_readWhole S f 165 L st h) := by rw [q_R_readWhole, hz_w_at d_R_readWhole_164]; rfl
theorem d_R_readWhole_165 : decode c_R_readWhole 165 = .ok (.goto 62, 3) := by decide +kernel
theorem e_R_readWhole_165 : q_R_readWhole S (f + 1) 165 L st h = (q_R_readWhole S f 227 L st h) := by rw [q_R_readWhole, hz_w_at d_R_readWhole_165]; rfl
theorem d_R_readWhole_168 : decode c_R_readWhole 168 = .ok (.aload_n 0, 1) := by decide +kernel
theorem e_R_readWhole_168 {a1 a2 : Option Value} : q_R_readWhole S (f + 1) 168 [some (.ref i), a1, a2] st h = (q_R_readWhole S f 169 [some (.ref i), a1, a2] (.ref i :: st) h) := by rw [q_R_readWhole, hz_w_at d_R_readWhole_168]; rfl
theorem e_R_readWhole_168n {a1 a2 : Option Value} : q_R_readWhole S (f + 1) 168 [some .null, a1, a2] st h = (q_R_readWhole S f 169 [some .null, a1, a2] (.null :: st) h) := by rw [q_R_readWhole, hz_w_at d_R_readWhole_168]; rfl
theorem d_R_readWhole_169 : decode c_R_readWhole 169 = .ok (.dup, 1) := by decide +kernel
theorem e_R_readWhole_169 : q_R_readWhole S (f + 1) 169 L (.ref i :: st) h = (q_R_readWhole S f 170 L (.ref i :: .ref i :: st) h) := by rw [q_R_readWhole, hz_w_at d_R_readWhole_169]; rfl
theorem e_R_readWhole_169i : q_R_readWhole S (f + 1) 169 L (.int x :: st) h = (q_R_readWhole S f 170 L (.int x :: .int x :: st) h) := by rw [q_R_readWhole, hz_w_at d_R_readWhole_169]; rfl
theorem d_R_readWhole_170 : decode c_R_readWhole 170 = .ok (.getfield 15, 3) := by decide +kernel
theorem e_R_readWhole_170 : q_R_readWhole S (f + 1) 170 L (.ref i :: st) h = (hz_rd h i 2 2 fun v => q_R_readWhole S f 173 L (v :: st) h) := by rw [q_R_readWhole, hz_w_at d_R_readWhole_170]; rfl
theorem d_R_readWhole_173 : decode c_R_readWhole 173 = .ok (.iconst 1, 1) := by decide +kernel
theorem e_R_readWhole_173 : q_R_readWhole S (f + 1) 173 L st h = (q_R_readWhole S f 174 L (.int (hz_n 1) :: st) h) := by rw [q_R_readWhole, hz_w_at d_R_readWhole_173]; rfl
theorem d_R_readWhole_174 : decode c_R_readWhole 174 = .ok (.iadd, 1) := by decide +kernel
theorem e_R_readWhole_174 : q_R_readWhole S (f + 1) 174 L (.int y :: .int x :: st) h = (q_R_readWhole S f 175 L (.int (x + y) :: st) h) := by rw [q_R_readWhole, hz_w_at d_R_readWhole_174]; rfl
theorem d_R_readWhole_175 : decode c_R_readWhole 175 = .ok (.putfield 15, 3) := by decide +kernel
theorem e_R_readWhole_175 : q_R_readWhole S (f + 1) 175 L (.int x :: .ref i :: st) h = (hz_wr h i 2 2 (.int x) fun h => q_R_readWhole S f 178 L st h) := by rw [q_R_readWhole, hz_w_at d_R_readWhole_175]; rfl
theorem d_R_readWhole_178 : decode c_R_readWhole 178 = .ok (.aload_n 0, 1) := by decide +kernel
theorem e_R_readWhole_178 {a1 a2 : Option Value} : q_R_readWhole S (f + 1) 178 [some (.ref i), a1, a2] st h = (q_R_readWhole S f 179 [some (.ref i), a1, a2] (.ref i :: st) h) := by rw [q_R_readWhole, hz_w_at d_R_readWhole_178]; rfl
theorem e_R_readWhole_178n {a1 a2 : Option Value} : q_R_readWhole S (f + 1) 178 [some .null, a1, a2] st h = (q_R_readWhole S f 179 [some .null, a1, a2] (.null :: st) h) := by rw [q_R_readWhole, hz_w_at d_R_readWhole_178]; rfl
theorem d_R_readWhole_179 : decode c_R_readWhole 179 = .ok (.iload_n 2, 1) := by decide +kernel
theorem e_R_readWhole_179 {a0 a1 : Option Value} : q_R_readWhole S (f + 1) 179 [a0, a1, some (.int x)] st h = (q_R_readWhole S f 180 [a0, a1, some (.int x)] (.int x :: st) h) := by rw [q_R_readWhole, hz_w_at d_R_readWhole_179]; rfl
theorem d_R_readWhole_180 : decode c_R_readWhole 180 = .ok (.invokevirtual 84, 3) := by decide +kernel
theorem e_R_readWhole_180 : q_R_readWhole S (f + 1) 180 L st h = (S 180 L st h) := by rw [q_R_readWhole, hz_w_at d_R_readWhole_180]; rfl
theorem d_R_readWhole_183 : decode c_R_readWhole 183 = .ok (.goto 44, 3) := by decide +kernel
theorem e_R_readWhole_183 : q_R_readWhole S (f + 1) 183 L st h = (q_R_readWhole S f 227 L st h) := by rw [q_R_readWhole, hz_w_at d_R_readWhole_183]; rfl
theorem d_R_readWhole_186 : decode c_R_readWhole 186 = .ok (.aload_n 0, 1) := by decide +kernel
theorem e_R_readWhole_186 {a1 a2 : Option Value} : q_R_readWhole S (f + 1) 186 [some (.ref i), a1, a2] st h = (q_R_readWhole S f 187 [some (.ref i), a1, a2] (.ref i :: st) h) := by rw [q_R_readWhole, hz_w_at d_R_readWhole_186]; rfl
theorem e_R_readWhole_186n {a1 a2 : Option Value} : q_R_readWhole S (f + 1) 186 [some .null, a1, a2] st h = (q_R_readWhole S f 187 [some .null, a1, a2] (.null :: st) h) := by rw [q_R_readWhole, hz_w_at d_R_readWhole_186]; rfl
theorem d_R_readWhole_187 : decode c_R_readWhole 187 = .ok (.dup, 1) := by decide +kernel
theorem e_R_readWhole_187 : q_R_readWhole S (f + 1) 187 L (.ref i :: st) h = (q_R_readWhole S f 188 L (.ref i :: .ref i :: st) h) := by rw [q_R_readWhole, hz_w_at d_R_readWhole_187]; rfl
theorem e_R_readWhole_187i : q_R_readWhole S (f + 1) 187 L (.int x :: st) h = (q_R_readWhole S f 188 L (.int x :: .int x :: st) h) := by rw [q_R_readWhole, hz_w_at d_R_readWhole_187]; rfl
theorem d_R_readWhole_188 : decode c_R_readWhole 188 = .ok (.getfield 15, 3) := by decide +kernel
theorem e_R_readWhole_188 : q_R_readWhole S (f + 1) 188 L (.ref i :: st) h = (hz_rd h i 2 2 fun v => q_R_readWhole S f 191 L (v :: st) h) := by rw [q_R_readWhole, hz_w_at d_R_readWhole_188]; rfl
theorem d_R_readWhole_191 : decode c_R_readWhole 191 = .ok (.iconst 1, 1) := by decide +kernel
theorem e_R_readWhole_191 : q_R_readWhole S (f + 1) 191 L st h = (q_R_readWhole S f 192 L (.int (hz_n 1) :: st) h) := by rw [q_R_readWhole, hz_w_at d_R_readWhole_191]; rfl
theorem d_R_readWhole_192 : decode c_R_readWhole 192 = .ok (.iadd, 1) := by decide +kernel
theorem e_R_readWhole_192 : q_R_readWhole S (f + 1) 192 L (.int y :: .int x :: st) h = (q_R_readWhole S f 193 L (.int (x + y) :: st) h) := by rw [q_R_readWhole, hz_w_at d_R_readWhole_192]; rfl
theorem d_R_readWhole_193 : decode c_R_readWhole 193 = .ok (.putfield 15, 3) := by decide +kernel
theorem e_R_readWhole_193 : q_R_readWhole S (f + 1) 193 L (.int x :: .ref i :: st) h = (hz_wr h i 2 2 (.int x) fun h => q_R_readWhole S f 196 L st h) := by rw [q_R_readWhole, hz_w_at d_R_readWhole_193]; rfl
theorem d_R_readWhole_196 : decode c_R_readWhole 196 = .ok (.aload_n 0, 1) := by decide +kernel
theorem e_R_readWhole_196 {a1 a2 : Option Value} : q_R_readWhole S (f + 1) 196 [some (.ref i), a1, a2] st h = (q_R_readWhole S f 197 [some (.ref i), a1, a2] (.ref i :: st) h) := by rw [q_R_readWhole, hz_w_at d_R_readWhole_196]; rfl
theorem e_R_readWhole_196n {a1 a2 : Option Value} : q_R_readWhole S (f + 1) 196 [some .null, a1, a2] st h = (q_R_readWhole S f 197 [some .null, a1, a2] (.null :: st) h) := by rw [q_R_readWhole, hz_w_at d_R_readWhole_196]; rfl
theorem d_R_readWhole_197 : decode c_R_readWhole 197 = .ok (.iload_n 2, 1) := by decide +kernel
theorem e_R_readWhole_197 {a0 a1 : Option Value} : q_R_readWhole S (f + 1) 197 [a0, a1, some (.int x)] st h = (q_R_readWhole S f 198 [a0, a1, some (.int x)] (.int x :: st) h) := by rw [q_R_readWhole, hz_w_at d_R_readWhole_197]; rfl
theorem d_R_readWhole_198 : decode c_R_readWhole 198 = .ok (.invokevirtual 88, 3) := by decide +kernel
theorem e_R_readWhole_198 : q_R_readWhole S (f + 1) 198 L st h = (S 198 L st h) := by rw [q_R_readWhole, hz_w_at d_R_readWhole_198]; rfl
theorem d_R_readWhole_201 : decode c_R_readWhole 201 = .ok (.goto 26, 3) := by decide +kernel
theorem e_R_readWhole_201 : q_R_readWhole S (f + 1) 201 L st h = (q_R_readWhole S f 227 L st h) := by rw [q_R_readWhole, hz_w_at d_R_readWhole_201]; rfl
theorem d_R_readWhole_204 : decode c_R_readWhole 204 = .ok (.aload_n 0, 1) := by decide +kernel
theorem e_R_readWhole_204 {a1 a2 : Option Value} : q_R_readWhole S (f + 1) 204 [some (.ref i), a1, a2] st h = (q_R_readWhole S f 205 [some (.ref i), a1, a2] (.ref i :: st) h) := by rw [q_R_readWhole, hz_w_at d_R_readWhole_204]; rfl
theorem e_R_readWhole_204n {a1 a2 : Option Value} : q_R_readWhole S (f + 1) 204 [some .null, a1, a2] st h = (q_R_readWhole S f 205 [some .null, a1, a2] (.null :: st) h) := by rw [q_R_readWhole, hz_w_at d_R_readWhole_204]; rfl
theorem d_R_readWhole_205 : decode c_R_readWhole 205 = .ok (.dup, 1) := by decide +kernel
theorem e_R_readWhole_205 : q_R_readWhole S (f + 1) 205 L (.ref i :: st) h = (q_R_readWhole S f 206 L (.ref i :: .ref i :: st) h) := by rw [q_R_readWhole, hz_w_at d_R_readWhole_205]; rfl
theorem e_R_readWhole_205i : q_R_readWhole S (f + 1) 205 L (.int x :: st) h = (q_R_readWhole S f 206 L (.int x :: .int x :: st) h) := by rw [q_R_readWhole, hz_w_at d_R_readWhole_205]; rfl
theorem d_R_readWhole_206 : decode c_R_readWhole 206 = .ok (.getfield 15, 3) := by decide +kernel
theorem e_R_readWhole_206 : q_R_readWhole S (f + 1) 206 L (.ref i :: st) h = (hz_rd h i 2 2 fun v => q_R_readWhole S f 209 L (v :: st) h) := by rw [q_R_readWhole, hz_w_at d_R_readWhole_206]; rfl
theorem d_R_readWhole_209 : decode c_R_readWhole 209 = .ok (.iconst 1, 1) := by decide +kernel
theorem e_R_readWhole_209 : q_R_readWhole S (f + 1) 209 L st h = (q_R_readWhole S f 210 L (.int (hz_n 1) :: st) h) := by rw [q_R_readWhole, hz_w_at d_R_readWhole_209]; rfl
theorem d_R_readWhole_210 : decode c_R_readWhole 210 = .ok (.iadd, 1) := by decide +kernel
theorem e_R_readWhole_210 : q_R_readWhole S (f + 1) 210 L (.int y :: .int x :: st) h = (q_R_readWhole S f 211 L (.int (x + y) :: st) h) := by rw [q_R_readWhole, hz_w_at d_R_readWhole_210]; rfl
theorem d_R_readWhole_211 : decode c_R_readWhole 211 = .ok (.putfield 15, 3) := by decide +kernel
theorem e_R_readWhole_211 : q_R_readWhole S (f + 1) 211 L (.int x :: .ref i :: st) h = (hz_wr h i 2 2 (.int x) fun h => q_R_readWhole S f 214 L st h) := by rw [q_R_readWhole, hz_w_at d_R_readWhole_211]; rfl
theorem d_R_readWhole_214 : decode c_R_readWhole 214 = .ok (.aload_n 0, 1) := by decide +kernel
theorem e_R_readWhole_214 {a1 a2 : Option Value} : q_R_readWhole S (f + 1) 214 [some (.ref i), a1, a2] st h = (q_R_readWhole S f 215 [some (.ref i), a1, a2] (.ref i :: st) h) := by rw [q_R_readWhole, hz_w_at d_R_readWhole_214]; rfl
theorem e_R_readWhole_214n {a1 a2 : Option Value} : q_R_readWhole S (f + 1) 214 [some .null, a1, a2] st h = (q_R_readWhole S f 215 [some .null, a1, a2] (.null :: st) h) := by rw [q_R_readWhole, hz_w_at d_R_readWhole_214]; rfl
theorem d_R_readWhole_215 : decode c_R_readWhole 215 = .ok (.iload_n 2, 1) := by decide +kernel
theorem e_R_readWhole_215 {a0 a1 : Option Value} : q_R_readWhole S (f + 1) 215 [a0, a1, some (.int x)] st h = (q_R_readWhole S f 216 [a0, a1, some (.int x)] (.int x :: st) h) := by rw [q_R_readWhole, hz_w_at d_R_readWhole_215]; rfl
theorem d_R_readWhole_216 : decode c_R_readWhole 216 = .ok (.invokevirtual 91, 3) := by decide +kernel
theorem e_R_readWhole_216 : q_R_readWhole S (f + 1) 216 L st h = (S 216 L st h) := by rw [q_R_readWhole, hz_w_at d_R_readWhole_216]; rfl
theorem d_R_readWhole_219 : decode c_R_readWhole 219 = .ok (.goto 8, 3) := by decide +kernel
theorem e_R_readWhole_219 : q_R_readWhole S (f + 1) 219 L st h = (q_R_readWhole S f 227 L st h) := by rw [q_R_readWhole, hz_w_at d_R_readWhole_219]; rfl
theorem d_R_readWhole_222 : decode c_R_readWhole 222 = .ok (.aload_n 0, 1) := by decide +kernel
theorem e_R_readWhole_222 {a1 a2 : Option Value} : q_R_readWhole S (f + 1) 222 [some (.ref i), a1, a2] st h = (q_R_readWhole S f 223 [some (.ref i), a1, a2] (.ref i :: st) h) := by rw [q_R_readWhole, hz_w_at d_R_readWhole_222]; rfl
theorem e_R_readWhole_222n {a1 a2 : Option Value} : q_R_readWhole S (f + 1) 222 [some .null, a1, a2] st h = (q_R_readWhole S f 223 [some .null, a1, a2] (.null :: st) h) := by rw [q_R_readWhole, hz_w_at d_R_readWhole_222]; rfl
theorem d_R_readWhole_223 : decode c_R_readWhole 223 = .ok (.iconst 1, 1) := by decide +kernel
theorem e_R_readWhole_223 : q_R_readWhole S (f + 1) 223 L st h = (q_R_readWhole S f 224 L (.int (hz_n 1) :: st) h) := by rw [q_R_readWhole, hz_w_at d_R_readWhole_223]; rfl
theorem d_R_readWhole_224 : decode c_R_readWhole 224 = .ok (.putfield 19, 3) := by decide +kernel
theorem e_R_readWhole_224 : q_R_readWhole S (f + 1) 224 L (.int x :: .ref i :: st) h = ((narrow .boolean (.int x) = .int x ∧ fits .boolean (.int x) = true) ∧ hz_wr h i 2 3 (.int x) fun h => q_R_readWhole S f 227 L st h) := by rw [q_R_readWhole, hz_w_at d_R_readWhole_224]; rfl
theorem d_R_readWhole_227 : decode c_R_readWhole 227 = .ok (.return_, 1) := by decide +kernel
theorem e_R_readWhole_227 : q_R_readWhole S (f + 1) 227 L st h = (S 227 L st h) := by rw [q_R_readWhole, hz_w_at d_R_readWhole_227]; rfl
end
abbrev q_R_readParts (S : Nat → List (Option Value) → List Value → hz_H → Prop) := hz_w zCl zKT f_R n_R c_R_readParts [5] S
section
variable {S : Nat → List (Option Value) → List Value → hz_H → Prop} {f : Nat} {L : List (Option Value)} {st : List Value} {h : hz_H} {x y : Int32} {i j : Nat} {X Y : Int64}
theorem d_R_readParts_0 : decode c_R_readParts 0 = .ok (.iconst 0, 1) := by decide +kernel
theorem e_R_readParts_0 : q_R_readParts S (f + 1) 0 L st h = (q_R_readParts S f 1 L (.int (hz_n 0) :: st) h) := by rw [q_R_readParts, hz_w_at d_R_readParts_0]; rfl
theorem d_R_readParts_1 : decode c_R_readParts 1 = .ok (.istore_n 3, 1) := by decide +kernel
theorem e_R_readParts_1 {a0 a1 a2 a3 a4 : Option Value} : q_R_readParts S (f + 1) 1 [a0, a1, a2, a3, a4] (.int x :: st) h = (q_R_readParts S f 2 [a0, a1, a2, some (.int x), a4] st h) := by rw [q_R_readParts, hz_w_at d_R_readParts_1]; rfl
theorem d_R_readParts_2 : decode c_R_readParts 2 = .ok (.iconst 0, 1) := by decide +kernel
theorem e_R_readParts_2 : q_R_readParts S (f + 1) 2 L st h = (q_R_readParts S f 3 L (.int (hz_n 0) :: st) h) := by rw [q_R_readParts, hz_w_at d_R_readParts_2]; rfl
theorem d_R_readParts_3 : decode c_R_readParts 3 = .ok (.istore 4, 2) := by decide +kernel
theorem e_R_readParts_3 {a0 a1 a2 a3 a4 : Option Value} : q_R_readParts S (f + 1) 3 [a0, a1, a2, a3, a4] (.int x :: st) h = (S 5 [a0, a1, a2, a3, some (.int x)] st h) := by rw [q_R_readParts, hz_w_at d_R_readParts_3]; rfl
theorem d_R_readParts_5 : decode c_R_readParts 5 = .ok (.iload 4, 2) := by decide +kernel
theorem e_R_readParts_5 {a0 a1 a2 a3 : Option Value} : q_R_readParts S (f + 1) 5 [a0, a1, a2, a3, some (.int x)] st h = (q_R_readParts S f 7 [a0, a1, a2, a3, some (.int x)] (.int x :: st) h) := by rw [q_R_readParts, hz_w_at d_R_readParts_5]; rfl
theorem d_R_readParts_7 : decode c_R_readParts 7 = .ok (.iload_n 1, 1) := by decide +kernel
theorem e_R_readParts_7 {a0 a2 a3 a4 : Option Value} : q_R_readParts S (f + 1) 7 [a0, some (.int x), a2, a3, a4] st h = (q_R_readParts S f 8 [a0, some (.int x), a2, a3, a4] (.int x :: st) h) := by rw [q_R_readParts, hz_w_at d_R_readParts_7]; rfl
theorem d_R_readParts_8 : decode c_R_readParts 8 = .ok (.if_icmp .ge 16, 3) := by decide +kernel
theorem e_R_readParts_8 : q_R_readParts S (f + 1) 8 L (.int y :: .int x :: st) h = ((y.toInt ≤ x.toInt → q_R_readParts S f 24 L st h) ∧ (¬ (y.toInt ≤ x.toInt) → q_R_readParts S f 11 L st h)) := by rw [q_R_readParts, hz_w_at d_R_readParts_8]; rfl
theorem d_R_readParts_11 : decode c_R_readParts 11 = .ok (.aload_n 0, 1) := by decide +kernel
theorem e_R_readParts_11 {a1 a2 a3 a4 : Option Value} : q_R_readParts S (f + 1) 11 [some (.ref i), a1, a2, a3, a4] st h = (q_R_readParts S f 12 [some (.ref i), a1, a2, a3, a4] (.ref i :: st) h) := by rw [q_R_readParts, hz_w_at d_R_readParts_11]; rfl
theorem e_R_readParts_11n {a1 a2 a3 a4 : Option Value} : q_R_readParts S (f + 1) 11 [some .null, a1, a2, a3, a4] st h = (q_R_readParts S f 12 [some .null, a1, a2, a3, a4] (.null :: st) h) := by rw [q_R_readParts, hz_w_at d_R_readParts_11]; rfl
theorem d_R_readParts_12 : decode c_R_readParts 12 = .ok (.iload_n 3, 1) := by decide +kernel
theorem e_R_readParts_12 {a0 a1 a2 a4 : Option Value} : q_R_readParts S (f + 1) 12 [a0, a1, a2, some (.int x), a4] st h = (q_R_readParts S f 13 [a0, a1, a2, some (.int x), a4] (.int x :: st) h) := by rw [q_R_readParts, hz_w_at d_R_readParts_12]; rfl
theorem d_R_readParts_13 : decode c_R_readParts 13 = .ok (.iload_n 2, 1) := by decide +kernel
theorem e_R_readParts_13 {a0 a1 a3 a4 : Option Value} : q_R_readParts S (f + 1) 13 [a0, a1, some (.int x), a3, a4] st h = (q_R_readParts S f 14 [a0, a1, some (.int x), a3, a4] (.int x :: st) h) := by rw [q_R_readParts, hz_w_at d_R_readParts_13]; rfl
theorem d_R_readParts_14 : decode c_R_readParts 14 = .ok (.invokevirtual 33, 3) := by decide +kernel
theorem e_R_readParts_14 : q_R_readParts S (f + 1) 14 L st h = (S 14 L st h) := by rw [q_R_readParts, hz_w_at d_R_readParts_14]; rfl
theorem d_R_readParts_17 : decode c_R_readParts 17 = .ok (.istore_n 3, 1) := by decide +kernel
theorem e_R_readParts_17 {a0 a1 a2 a3 a4 : Option Value} : q_R_readParts S (f + 1) 17 [a0, a1, a2, a3, a4] (.int x :: st) h = (q_R_readParts S f 18 [a0, a1, a2, some (.int x), a4] st h) := by rw [q_R_readParts, hz_w_at d_R_readParts_17]; rfl
theorem d_R_readParts_18 : decode c_R_readParts 18 = .ok (.iinc 4 1, 3) := by decide +kernel
theorem e_R_readParts_18 {a0 a1 a2 a3 : Option Value} : q_R_readParts S (f + 1) 18 [a0, a1, a2, a3, some (.int x)] st h = (q_R_readParts S f 21 [a0, a1, a2, a3, some (.int (x + hz_n 1))] st h) := by rw [q_R_readParts, hz_w_at d_R_readParts_18]; rfl
theorem d_R_readParts_21 : decode c_R_readParts 21 = .ok (.goto (-16), 3) := by decide +kernel
theorem e_R_readParts_21 : q_R_readParts S (f + 1) 21 L st h = (S 5 L st h) := by rw [q_R_readParts, hz_w_at d_R_readParts_21]; rfl
theorem d_R_readParts_24 : decode c_R_readParts 24 = .ok (.iload_n 3, 1) := by decide +kernel
theorem e_R_readParts_24 {a0 a1 a2 a4 : Option Value} : q_R_readParts S (f + 1) 24 [a0, a1, a2, some (.int x), a4] st h = (q_R_readParts S f 25 [a0, a1, a2, some (.int x), a4] (.int x :: st) h) := by rw [q_R_readParts, hz_w_at d_R_readParts_24]; rfl
theorem d_R_readParts_25 : decode c_R_readParts 25 = .ok (.ireturn, 1) := by decide +kernel
theorem e_R_readParts_25 : q_R_readParts S (f + 1) 25 L st h = (S 25 L st h) := by rw [q_R_readParts, hz_w_at d_R_readParts_25]; rfl
end
abbrev q_R_readApplication (S : Nat → List (Option Value) → List Value → hz_H → Prop) := hz_w zCl zKT f_R n_R c_R_readApplication [9] S
section
variable {S : Nat → List (Option Value) → List Value → hz_H → Prop} {f : Nat} {L : List (Option Value)} {st : List Value} {h : hz_H} {x y : Int32} {i j : Nat} {X Y : Int64}
theorem d_R_readApplication_0 : decode c_R_readApplication 0 = .ok (.aload_n 0, 1) := by decide +kernel
theorem e_R_readApplication_0 {a1 a2 a3 : Option Value} : q_R_readApplication S (f + 1) 0 [some (.ref i), a1, a2, a3] st h = (q_R_readApplication S f 1 [some (.ref i), a1, a2, a3] (.ref i :: st) h) := by rw [q_R_readApplication, hz_w_at d_R_readApplication_0]; rfl
theorem e_R_readApplication_0n {a1 a2 a3 : Option Value} : q_R_readApplication S (f + 1) 0 [some .null, a1, a2, a3] st h = (q_R_readApplication S f 1 [some .null, a1, a2, a3] (.null :: st) h) := by rw [q_R_readApplication, hz_w_at d_R_readApplication_0]; rfl
theorem d_R_readApplication_1 : decode c_R_readApplication 1 = .ok (.iconst 2, 1) := by decide +kernel
theorem e_R_readApplication_1 : q_R_readApplication S (f + 1) 1 L st h = (q_R_readApplication S f 2 L (.int (hz_n 2) :: st) h) := by rw [q_R_readApplication, hz_w_at d_R_readApplication_1]; rfl
theorem d_R_readApplication_2 : decode c_R_readApplication 2 = .ok (.iload_n 1, 1) := by decide +kernel
theorem e_R_readApplication_2 {a0 a2 a3 : Option Value} : q_R_readApplication S (f + 1) 2 [a0, some (.int x), a2, a3] st h = (q_R_readApplication S f 3 [a0, some (.int x), a2, a3] (.int x :: st) h) := by rw [q_R_readApplication, hz_w_at d_R_readApplication_2]; rfl
theorem d_R_readApplication_3 : decode c_R_readApplication 3 = .ok (.invokevirtual 81, 3) := by decide +kernel
theorem e_R_readApplication_3 : q_R_readApplication S (f + 1) 3 L st h = (S 3 L st h) := by rw [q_R_readApplication, hz_w_at d_R_readApplication_3]; rfl
theorem d_R_readApplication_6 : decode c_R_readApplication 6 = .ok (.istore_n 2, 1) := by decide +kernel
theorem e_R_readApplication_6 {a0 a1 a2 a3 : Option Value} : q_R_readApplication S (f + 1) 6 [a0, a1, a2, a3] (.int x :: st) h = (q_R_readApplication S f 7 [a0, a1, some (.int x), a3] st h) := by rw [q_R_readApplication, hz_w_at d_R_readApplication_6]; rfl
theorem d_R_readApplication_7 : decode c_R_readApplication 7 = .ok (.iconst 1, 1) := by decide +kernel
theorem e_R_readApplication_7 : q_R_readApplication S (f + 1) 7 L st h = (q_R_readApplication S f 8 L (.int (hz_n 1) :: st) h) := by rw [q_R_readApplication, hz_w_at d_R_readApplication_7]; rfl
theorem d_R_readApplication_8 : decode c_R_readApplication 8 = .ok (.istore_n 3, 1) := by decide +kernel
theorem e_R_readApplication_8 {a0 a1 a2 a3 : Option Value} : q_R_readApplication S (f + 1) 8 [a0, a1, a2, a3] (.int x :: st) h = (S 9 [a0, a1, a2, some (.int x)] st h) := by rw [q_R_readApplication, hz_w_at d_R_readApplication_8]; rfl
theorem d_R_readApplication_9 : decode c_R_readApplication 9 = .ok (.iload_n 3, 1) := by decide +kernel
theorem e_R_readApplication_9 {a0 a1 a2 : Option Value} : q_R_readApplication S (f + 1) 9 [a0, a1, a2, some (.int x)] st h = (q_R_readApplication S f 10 [a0, a1, a2, some (.int x)] (.int x :: st) h) := by rw [q_R_readApplication, hz_w_at d_R_readApplication_9]; rfl
theorem d_R_readApplication_10 : decode c_R_readApplication 10 = .ok (.iconst 4, 1) := by decide +kernel
theorem e_R_readApplication_10 : q_R_readApplication S (f + 1) 10 L st h = (q_R_readApplication S f 11 L (.int (hz_n 4) :: st) h) := by rw [q_R_readApplication, hz_w_at d_R_readApplication_10]; rfl
theorem d_R_readApplication_11 : decode c_R_readApplication 11 = .ok (.if_icmp .ge 32, 3) := by decide +kernel
theorem e_R_readApplication_11 : q_R_readApplication S (f + 1) 11 L (.int y :: .int x :: st) h = ((y.toInt ≤ x.toInt → q_R_readApplication S f 43 L st h) ∧ (¬ (y.toInt ≤ x.toInt) → q_R_readApplication S f 14 L st h)) := by rw [q_R_readApplication, hz_w_at d_R_readApplication_11]; rfl
theorem d_R_readApplication_14 : decode c_R_readApplication 14 = .ok (.aload_n 0, 1) := by decide +kernel
theorem e_R_readApplication_14 {a1 a2 a3 : Option Value} : q_R_readApplication S (f + 1) 14 [some (.ref i), a1, a2, a3] st h = (q_R_readApplication S f 15 [some (.ref i), a1, a2, a3] (.ref i :: st) h) := by rw [q_R_readApplication, hz_w_at d_R_readApplication_14]; rfl
theorem e_R_readApplication_14n {a1 a2 a3 : Option Value} : q_R_readApplication S (f + 1) 14 [some .null, a1, a2, a3] st h = (q_R_readApplication S f 15 [some .null, a1, a2, a3] (.null :: st) h) := by rw [q_R_readApplication, hz_w_at d_R_readApplication_14]; rfl
theorem d_R_readApplication_15 : decode c_R_readApplication 15 = .ok (.getfield 19, 3) := by decide +kernel
theorem e_R_readApplication_15 : q_R_readApplication S (f + 1) 15 L (.ref i :: st) h = (hz_rd h i 2 3 fun v => q_R_readApplication S f 18 L (v :: st) h) := by rw [q_R_readApplication, hz_w_at d_R_readApplication_15]; rfl
theorem d_R_readApplication_18 : decode c_R_readApplication 18 = .ok (.ifCond .ne 25, 3) := by decide +kernel
theorem e_R_readApplication_18 : q_R_readApplication S (f + 1) 18 L (.int x :: st) h = ((¬ x.toInt = 0 → q_R_readApplication S f 43 L st h) ∧ (¬ (¬ x.toInt = 0) → q_R_readApplication S f 21 L st h)) := by rw [q_R_readApplication, hz_w_at d_R_readApplication_18]; rfl
theorem d_R_readApplication_21 : decode c_R_readApplication 21 = .ok (.aload_n 0, 1) := by decide +kernel
theorem e_R_readApplication_21 {a1 a2 a3 : Option Value} : q_R_readApplication S (f + 1) 21 [some (.ref i), a1, a2, a3] st h = (q_R_readApplication S f 22 [some (.ref i), a1, a2, a3] (.ref i :: st) h) := by rw [q_R_readApplication, hz_w_at d_R_readApplication_21]; rfl
theorem e_R_readApplication_21n {a1 a2 a3 : Option Value} : q_R_readApplication S (f + 1) 21 [some .null, a1, a2, a3] st h = (q_R_readApplication S f 22 [some .null, a1, a2, a3] (.null :: st) h) := by rw [q_R_readApplication, hz_w_at d_R_readApplication_21]; rfl
theorem d_R_readApplication_22 : decode c_R_readApplication 22 = .ok (.invokevirtual 46, 3) := by decide +kernel
theorem e_R_readApplication_22 : q_R_readApplication S (f + 1) 22 L st h = (S 22 L st h) := by rw [q_R_readApplication, hz_w_at d_R_readApplication_22]; rfl
theorem d_R_readApplication_25 : decode c_R_readApplication 25 = .ok (.bipush 41, 2) := by decide +kernel
theorem e_R_readApplication_25 : q_R_readApplication S (f + 1) 25 L st h = (q_R_readApplication S f 27 L (.int (hz_n 41) :: st) h) := by rw [q_R_readApplication, hz_w_at d_R_readApplication_25]; rfl
theorem d_R_readApplication_27 : decode c_R_readApplication 27 = .ok (.if_icmp .eq 16, 3) := by decide +kernel
theorem e_R_readApplication_27 : q_R_readApplication S (f + 1) 27 L (.int y :: .int x :: st) h = ((x.toInt = y.toInt → q_R_readApplication S f 43 L st h) ∧ (¬ (x.toInt = y.toInt) → q_R_readApplication S f 30 L st h)) := by rw [q_R_readApplication, hz_w_at d_R_readApplication_27]; rfl
theorem d_R_readApplication_30 : decode c_R_readApplication 30 = .ok (.aload_n 0, 1) := by decide +kernel
theorem e_R_readApplication_30 {a1 a2 a3 : Option Value} : q_R_readApplication S (f + 1) 30 [some (.ref i), a1, a2, a3] st h = (q_R_readApplication S f 31 [some (.ref i), a1, a2, a3] (.ref i :: st) h) := by rw [q_R_readApplication, hz_w_at d_R_readApplication_30]; rfl
theorem e_R_readApplication_30n {a1 a2 a3 : Option Value} : q_R_readApplication S (f + 1) 30 [some .null, a1, a2, a3] st h = (q_R_readApplication S f 31 [some .null, a1, a2, a3] (.null :: st) h) := by rw [q_R_readApplication, hz_w_at d_R_readApplication_30]; rfl
theorem d_R_readApplication_31 : decode c_R_readApplication 31 = .ok (.iload_n 2, 1) := by decide +kernel
theorem e_R_readApplication_31 {a0 a1 a3 : Option Value} : q_R_readApplication S (f + 1) 31 [a0, a1, some (.int x), a3] st h = (q_R_readApplication S f 32 [a0, a1, some (.int x), a3] (.int x :: st) h) := by rw [q_R_readApplication, hz_w_at d_R_readApplication_31]; rfl
theorem d_R_readApplication_32 : decode c_R_readApplication 32 = .ok (.iload_n 1, 1) := by decide +kernel
theorem e_R_readApplication_32 {a0 a2 a3 : Option Value} : q_R_readApplication S (f + 1) 32 [a0, some (.int x), a2, a3] st h = (q_R_readApplication S f 33 [a0, some (.int x), a2, a3] (.int x :: st) h) := by rw [q_R_readApplication, hz_w_at d_R_readApplication_32]; rfl
theorem d_R_readApplication_33 : decode c_R_readApplication 33 = .ok (.invokevirtual 33, 3) := by decide +kernel
theorem e_R_readApplication_33 : q_R_readApplication S (f + 1) 33 L st h = (S 33 L st h) := by rw [q_R_readApplication, hz_w_at d_R_readApplication_33]; rfl
theorem d_R_readApplication_36 : decode c_R_readApplication 36 = .ok (.istore_n 2, 1) := by decide +kernel
theorem e_R_readApplication_36 {a0 a1 a2 a3 : Option Value} : q_R_readApplication S (f + 1) 36 [a0, a1, a2, a3] (.int x :: st) h = (q_R_readApplication S f 37 [a0, a1, some (.int x), a3] st h) := by rw [q_R_readApplication, hz_w_at d_R_readApplication_36]; rfl
theorem d_R_readApplication_37 : decode c_R_readApplication 37 = .ok (.iinc 3 1, 3) := by decide +kernel
theorem e_R_readApplication_37 {a0 a1 a2 : Option Value} : q_R_readApplication S (f + 1) 37 [a0, a1, a2, some (.int x)] st h = (q_R_readApplication S f 40 [a0, a1, a2, some (.int (x + hz_n 1))] st h) := by rw [q_R_readApplication, hz_w_at d_R_readApplication_37]; rfl
theorem d_R_readApplication_40 : decode c_R_readApplication 40 = .ok (.goto (-31), 3) := by decide +kernel
theorem e_R_readApplication_40 : q_R_readApplication S (f + 1) 40 L st h = (S 9 L st h) := by rw [q_R_readApplication, hz_w_at d_R_readApplication_40]; rfl
theorem d_R_readApplication_43 : decode c_R_readApplication 43 = .ok (.aload_n 0, 1) := by decide +kernel
theorem e_R_readApplication_43 {a1 a2 a3 : Option Value} : q_R_readApplication S (f + 1) 43 [some (.ref i), a1, a2, a3] st h = (q_R_readApplication S f 44 [some (.ref i), a1, a2, a3] (.ref i :: st) h) := by rw [q_R_readApplication, hz_w_at d_R_readApplication_43]; rfl
theorem e_R_readApplication_43n {a1 a2 a3 : Option Value} : q_R_readApplication S (f + 1) 43 [some .null, a1, a2, a3] st h = (q_R_readApplication S f 44 [some .null, a1, a2, a3] (.null :: st) h) := by rw [q_R_readApplication, hz_w_at d_R_readApplication_43]; rfl
theorem d_R_readApplication_44 : decode c_R_readApplication 44 = .ok (.bipush 41, 2) := by decide +kernel
theorem e_R_readApplication_44 : q_R_readApplication S (f + 1) 44 L st h = (q_R_readApplication S f 46 L (.int (hz_n 41) :: st) h) := by rw [q_R_readApplication, hz_w_at d_R_readApplication_44]; rfl
theorem d_R_readApplication_46 : decode c_R_readApplication 46 = .ok (.invokevirtual 58, 3) := by decide +kernel
theorem e_R_readApplication_46 : q_R_readApplication S (f + 1) 46 L st h = (S 46 L st h) := by rw [q_R_readApplication, hz_w_at d_R_readApplication_46]; rfl
theorem d_R_readApplication_49 : decode c_R_readApplication 49 = .ok (.return_, 1) := by decide +kernel
theorem e_R_readApplication_49 : q_R_readApplication S (f + 1) 49 L st h = (S 49 L st h) := by rw [q_R_readApplication, hz_w_at d_R_readApplication_49]; rfl
end
abbrev q_R_readSplit (S : Nat → List (Option Value) → List Value → hz_H → Prop) := hz_w zCl zKT f_R n_R c_R_readSplit [] S
section
variable {S : Nat → List (Option Value) → List Value → hz_H → Prop} {f : Nat} {L : List (Option Value)} {st : List Value} {h : hz_H} {x y : Int32} {i j : Nat} {X Y : Int64}
theorem d_R_readSplit_0 : decode c_R_readSplit 0 = .ok (.aload_n 0, 1) := by decide +kernel
theorem e_R_readSplit_0 {a1 a2 a3 a4 a5 a6 : Option Value} : q_R_readSplit S (f + 1) 0 [some (.ref i), a1, a2, a3, a4, a5, a6] st h = (q_R_readSplit S f 1 [some (.ref i), a1, a2, a3, a4, a5, a6] (.ref i :: st) h) := by rw [q_R_readSplit, hz_w_at d_R_readSplit_0]; rfl
theorem e_R_readSplit_0n {a1 a2 a3 a4 a5 a6 : Option Value} : q_R_readSplit S (f + 1) 0 [some .null, a1, a2, a3, a4, a5, a6] st h = (q_R_readSplit S f 1 [some .null, a1, a2, a3, a4, a5, a6] (.null :: st) h) := by rw [q_R_readSplit, hz_w_at d_R_readSplit_0]; rfl
theorem d_R_readSplit_1 : decode c_R_readSplit 1 = .ok (.iconst 2, 1) := by decide +kernel
theorem e_R_readSplit_1 : q_R_readSplit S (f + 1) 1 L st h = (q_R_readSplit S f 2 L (.int (hz_n 2) :: st) h) := by rw [q_R_readSplit, hz_w_at d_R_readSplit_1]; rfl
theorem d_R_readSplit_2 : decode c_R_readSplit 2 = .ok (.iload_n 1, 1) := by decide +kernel
theorem e_R_readSplit_2 {a0 a2 a3 a4 a5 a6 : Option Value} : q_R_readSplit S (f + 1) 2 [a0, some (.int x), a2, a3, a4, a5, a6] st h = (q_R_readSplit S f 3 [a0, some (.int x), a2, a3, a4, a5, a6] (.int x :: st) h) := by rw [q_R_readSplit, hz_w_at d_R_readSplit_2]; rfl
theorem d_R_readSplit_3 : decode c_R_readSplit 3 = .ok (.invokevirtual 81, 3) := by decide +kernel
theorem e_R_readSplit_3 : q_R_readSplit S (f + 1) 3 L st h = (S 3 L st h) := by rw [q_R_readSplit, hz_w_at d_R_readSplit_3]; rfl
theorem d_R_readSplit_6 : decode c_R_readSplit 6 = .ok (.istore_n 2, 1) := by decide +kernel
theorem e_R_readSplit_6 {a0 a1 a2 a3 a4 a5 a6 : Option Value} : q_R_readSplit S (f + 1) 6 [a0, a1, a2, a3, a4, a5, a6] (.int x :: st) h = (q_R_readSplit S f 7 [a0, a1, some (.int x), a3, a4, a5, a6] st h) := by rw [q_R_readSplit, hz_w_at d_R_readSplit_6]; rfl
theorem d_R_readSplit_7 : decode c_R_readSplit 7 = .ok (.aload_n 0, 1) := by decide +kernel
theorem e_R_readSplit_7 {a1 a2 a3 a4 a5 a6 : Option Value} : q_R_readSplit S (f + 1) 7 [some (.ref i), a1, a2, a3, a4, a5, a6] st h = (q_R_readSplit S f 8 [some (.ref i), a1, a2, a3, a4, a5, a6] (.ref i :: st) h) := by rw [q_R_readSplit, hz_w_at d_R_readSplit_7]; rfl
theorem e_R_readSplit_7n {a1 a2 a3 a4 a5 a6 : Option Value} : q_R_readSplit S (f + 1) 7 [some .null, a1, a2, a3, a4, a5, a6] st h = (q_R_readSplit S f 8 [some .null, a1, a2, a3, a4, a5, a6] (.null :: st) h) := by rw [q_R_readSplit, hz_w_at d_R_readSplit_7]; rfl
theorem d_R_readSplit_8 : decode c_R_readSplit 8 = .ok (.invokevirtual 94, 3) := by decide +kernel
theorem e_R_readSplit_8 : q_R_readSplit S (f + 1) 8 L st h = (S 8 L st h) := by rw [q_R_readSplit, hz_w_at d_R_readSplit_8]; rfl
theorem d_R_readSplit_11 : decode c_R_readSplit 11 = .ok (.istore_n 3, 1) := by decide +kernel
theorem e_R_readSplit_11 {a0 a1 a2 a3 a4 a5 a6 : Option Value} : q_R_readSplit S (f + 1) 11 [a0, a1, a2, a3, a4, a5, a6] (.int x :: st) h = (q_R_readSplit S f 12 [a0, a1, a2, some (.int x), a4, a5, a6] st h) := by rw [q_R_readSplit, hz_w_at d_R_readSplit_11]; rfl
theorem d_R_readSplit_12 : decode c_R_readSplit 12 = .ok (.aload_n 0, 1) := by decide +kernel
theorem e_R_readSplit_12 {a1 a2 a3 a4 a5 a6 : Option Value} : q_R_readSplit S (f + 1) 12 [some (.ref i), a1, a2, a3, a4, a5, a6] st h = (q_R_readSplit S f 13 [some (.ref i), a1, a2, a3, a4, a5, a6] (.ref i :: st) h) := by rw [q_R_readSplit, hz_w_at d_R_readSplit_12]; rfl
theorem e_R_readSplit_12n {a1 a2 a3 a4 a5 a6 : Option Value} : q_R_readSplit S (f + 1) 12 [some .null, a1, a2, a3, a4, a5, a6] st h = (q_R_readSplit S f 13 [some .null, a1, a2, a3, a4, a5, a6] (.null :: st) h) := by rw [q_R_readSplit, hz_w_at d_R_readSplit_12]; rfl
theorem d_R_readSplit_13 : decode c_R_readSplit 13 = .ok (.invokevirtual 94, 3) := by decide +kernel
theorem e_R_readSplit_13 : q_R_readSplit S (f + 1) 13 L st h = (S 13 L st h) := by rw [q_R_readSplit, hz_w_at d_R_readSplit_13]; rfl
theorem d_R_readSplit_16 : decode c_R_readSplit 16 = .ok (.istore 4, 2) := by decide +kernel
theorem e_R_readSplit_16 {a0 a1 a2 a3 a4 a5 a6 : Option Value} : q_R_readSplit S (f + 1) 16 [a0, a1, a2, a3, a4, a5, a6] (.int x :: st) h = (q_R_readSplit S f 18 [a0, a1, a2, a3, some (.int x), a5, a6] st h) := by rw [q_R_readSplit, hz_w_at d_R_readSplit_16]; rfl
theorem d_R_readSplit_18 : decode c_R_readSplit 18 = .ok (.aload_n 0, 1) := by decide +kernel
theorem e_R_readSplit_18 {a1 a2 a3 a4 a5 a6 : Option Value} : q_R_readSplit S (f + 1) 18 [some (.ref i), a1, a2, a3, a4, a5, a6] st h = (q_R_readSplit S f 19 [some (.ref i), a1, a2, a3, a4, a5, a6] (.ref i :: st) h) := by rw [q_R_readSplit, hz_w_at d_R_readSplit_18]; rfl
theorem e_R_readSplit_18n {a1 a2 a3 a4 a5 a6 : Option Value} : q_R_readSplit S (f + 1) 18 [some .null, a1, a2, a3, a4, a5, a6] st h = (q_R_readSplit S f 19 [some .null, a1, a2, a3, a4, a5, a6] (.null :: st) h) := by rw [q_R_readSplit, hz_w_at d_R_readSplit_18]; rfl
theorem d_R_readSplit_19 : decode c_R_readSplit 19 = .ok (.getfield 19, 3) := by decide +kernel
theorem e_R_readSplit_19 : q_R_readSplit S (f + 1) 19 L (.ref i :: st) h = (hz_rd h i 2 3 fun v => q_R_readSplit S f 22 L (v :: st) h) := by rw [q_R_readSplit, hz_w_at d_R_readSplit_19]; rfl
theorem d_R_readSplit_22 : decode c_R_readSplit 22 = .ok (.ifCond .eq 4, 3) := by decide +kernel
theorem e_R_readSplit_22 : q_R_readSplit S (f + 1) 22 L (.int x :: st) h = ((x.toInt = 0 → q_R_readSplit S f 26 L st h) ∧ (¬ (x.toInt = 0) → q_R_readSplit S f 25 L st h)) := by rw [q_R_readSplit, hz_w_at d_R_readSplit_22]; rfl
theorem d_R_readSplit_25 : decode c_R_readSplit 25 = .ok (.return_, 1) := by decide +kernel
theorem e_R_readSplit_25 : q_R_readSplit S (f + 1) 25 L st h = (S 25 L st h) := by rw [q_R_readSplit, hz_w_at d_R_readSplit_25]; rfl
theorem d_R_readSplit_26 : decode c_R_readSplit 26 = .ok (.aload_n 0, 1) := by decide +kernel
theorem e_R_readSplit_26 {a1 a2 a3 a4 a5 a6 : Option Value} : q_R_readSplit S (f + 1) 26 [some (.ref i), a1, a2, a3, a4, a5, a6] st h = (q_R_readSplit S f 27 [some (.ref i), a1, a2, a3, a4, a5, a6] (.ref i :: st) h) := by rw [q_R_readSplit, hz_w_at d_R_readSplit_26]; rfl
theorem e_R_readSplit_26n {a1 a2 a3 a4 a5 a6 : Option Value} : q_R_readSplit S (f + 1) 26 [some .null, a1, a2, a3, a4, a5, a6] st h = (q_R_readSplit S f 27 [some .null, a1, a2, a3, a4, a5, a6] (.null :: st) h) := by rw [q_R_readSplit, hz_w_at d_R_readSplit_26]; rfl
theorem d_R_readSplit_27 : decode c_R_readSplit 27 = .ok (.iload_n 3, 1) := by decide +kernel
theorem e_R_readSplit_27 {a0 a1 a2 a4 a5 a6 : Option Value} : q_R_readSplit S (f + 1) 27 [a0, a1, a2, some (.int x), a4, a5, a6] st h = (q_R_readSplit S f 28 [a0, a1, a2, some (.int x), a4, a5, a6] (.int x :: st) h) := by rw [q_R_readSplit, hz_w_at d_R_readSplit_27]; rfl
theorem d_R_readSplit_28 : decode c_R_readSplit 28 = .ok (.invokevirtual 54, 3) := by decide +kernel
theorem e_R_readSplit_28 : q_R_readSplit S (f + 1) 28 L st h = (S 28 L st h) := by rw [q_R_readSplit, hz_w_at d_R_readSplit_28]; rfl
theorem d_R_readSplit_31 : decode c_R_readSplit 31 = .ok (.istore 5, 2) := by decide +kernel
theorem e_R_readSplit_31 {a0 a1 a2 a3 a4 a5 a6 : Option Value} : q_R_readSplit S (f + 1) 31 [a0, a1, a2, a3, a4, a5, a6] (.int x :: st) h = (q_R_readSplit S f 33 [a0, a1, a2, a3, a4, some (.int x), a6] st h) := by rw [q_R_readSplit, hz_w_at d_R_readSplit_31]; rfl
theorem d_R_readSplit_33 : decode c_R_readSplit 33 = .ok (.aload_n 0, 1) := by decide +kernel
theorem e_R_readSplit_33 {a1 a2 a3 a4 a5 a6 : Option Value} : q_R_readSplit S (f + 1) 33 [some (.ref i), a1, a2, a3, a4, a5, a6] st h = (q_R_readSplit S f 34 [some (.ref i), a1, a2, a3, a4, a5, a6] (.ref i :: st) h) := by rw [q_R_readSplit, hz_w_at d_R_readSplit_33]; rfl
theorem e_R_readSplit_33n {a1 a2 a3 a4 a5 a6 : Option Value} : q_R_readSplit S (f + 1) 33 [some .null, a1, a2, a3, a4, a5, a6] st h = (q_R_readSplit S f 34 [some .null, a1, a2, a3, a4, a5, a6] (.null :: st) h) := by rw [q_R_readSplit, hz_w_at d_R_readSplit_33]; rfl
theorem d_R_readSplit_34 : decode c_R_readSplit 34 = .ok (.iload 4, 2) := by decide +kernel
theorem e_R_readSplit_34 {a0 a1 a2 a3 a5 a6 : Option Value} : q_R_readSplit S (f + 1) 34 [a0, a1, a2, a3, some (.int x), a5, a6] st h = (q_R_readSplit S f 36 [a0, a1, a2, a3, some (.int x), a5, a6] (.int x :: st) h) := by rw [q_R_readSplit, hz_w_at d_R_readSplit_34]; rfl
theorem d_R_readSplit_36 : decode c_R_readSplit 36 = .ok (.invokevirtual 54, 3) := by decide +kernel
theorem e_R_readSplit_36 : q_R_readSplit S (f + 1) 36 L st h = (S 36 L st h) := by rw [q_R_readSplit, hz_w_at d_R_readSplit_36]; rfl
theorem d_R_readSplit_39 : decode c_R_readSplit 39 = .ok (.istore 6, 2) := by decide +kernel
theorem e_R_readSplit_39 {a0 a1 a2 a3 a4 a5 a6 : Option Value} : q_R_readSplit S (f + 1) 39 [a0, a1, a2, a3, a4, a5, a6] (.int x :: st) h = (q_R_readSplit S f 41 [a0, a1, a2, a3, a4, a5, some (.int x)] st h) := by rw [q_R_readSplit, hz_w_at d_R_readSplit_39]; rfl
theorem d_R_readSplit_41 : decode c_R_readSplit 41 = .ok (.aload_n 0, 1) := by decide +kernel
theorem e_R_readSplit_41 {a1 a2 a3 a4 a5 a6 : Option Value} : q_R_readSplit S (f + 1) 41 [some (.ref i), a1, a2, a3, a4, a5, a6] st h = (q_R_readSplit S f 42 [some (.ref i), a1, a2, a3, a4, a5, a6] (.ref i :: st) h) := by rw [q_R_readSplit, hz_w_at d_R_readSplit_41]; rfl
theorem e_R_readSplit_41n {a1 a2 a3 a4 a5 a6 : Option Value} : q_R_readSplit S (f + 1) 41 [some .null, a1, a2, a3, a4, a5, a6] st h = (q_R_readSplit S f 42 [some .null, a1, a2, a3, a4, a5, a6] (.null :: st) h) := by rw [q_R_readSplit, hz_w_at d_R_readSplit_41]; rfl
theorem d_R_readSplit_42 : decode c_R_readSplit 42 = .ok (.iload_n 2, 1) := by decide +kernel
theorem e_R_readSplit_42 {a0 a1 a3 a4 a5 a6 : Option Value} : q_R_readSplit S (f + 1) 42 [a0, a1, some (.int x), a3, a4, a5, a6] st h = (q_R_readSplit S f 43 [a0, a1, some (.int x), a3, a4, a5, a6] (.int x :: st) h) := by rw [q_R_readSplit, hz_w_at d_R_readSplit_42]; rfl
theorem d_R_readSplit_43 : decode c_R_readSplit 43 = .ok (.iload_n 1, 1) := by decide +kernel
theorem e_R_readSplit_43 {a0 a2 a3 a4 a5 a6 : Option Value} : q_R_readSplit S (f + 1) 43 [a0, some (.int x), a2, a3, a4, a5, a6] st h = (q_R_readSplit S f 44 [a0, some (.int x), a2, a3, a4, a5, a6] (.int x :: st) h) := by rw [q_R_readSplit, hz_w_at d_R_readSplit_43]; rfl
theorem d_R_readSplit_44 : decode c_R_readSplit 44 = .ok (.invokevirtual 33, 3) := by decide +kernel
theorem e_R_readSplit_44 : q_R_readSplit S (f + 1) 44 L st h = (S 44 L st h) := by rw [q_R_readSplit, hz_w_at d_R_readSplit_44]; rfl
theorem d_R_readSplit_47 : decode c_R_readSplit 47 = .ok (.pop, 1) := by decide +kernel
theorem e_R_readSplit_47 : q_R_readSplit S (f + 1) 47 L (.ref i :: st) h = (q_R_readSplit S f 48 L st h) := by rw [q_R_readSplit, hz_w_at d_R_readSplit_47]; rfl
theorem e_R_readSplit_47i : q_R_readSplit S (f + 1) 47 L (.int x :: st) h = (q_R_readSplit S f 48 L st h) := by rw [q_R_readSplit, hz_w_at d_R_readSplit_47]; rfl
theorem d_R_readSplit_48 : decode c_R_readSplit 48 = .ok (.aload_n 0, 1) := by decide +kernel
theorem e_R_readSplit_48 {a1 a2 a3 a4 a5 a6 : Option Value} : q_R_readSplit S (f + 1) 48 [some (.ref i), a1, a2, a3, a4, a5, a6] st h = (q_R_readSplit S f 49 [some (.ref i), a1, a2, a3, a4, a5, a6] (.ref i :: st) h) := by rw [q_R_readSplit, hz_w_at d_R_readSplit_48]; rfl
theorem e_R_readSplit_48n {a1 a2 a3 a4 a5 a6 : Option Value} : q_R_readSplit S (f + 1) 48 [some .null, a1, a2, a3, a4, a5, a6] st h = (q_R_readSplit S f 49 [some .null, a1, a2, a3, a4, a5, a6] (.null :: st) h) := by rw [q_R_readSplit, hz_w_at d_R_readSplit_48]; rfl
theorem d_R_readSplit_49 : decode c_R_readSplit 49 = .ok (.iload 4, 2) := by decide +kernel
theorem e_R_readSplit_49 {a0 a1 a2 a3 a5 a6 : Option Value} : q_R_readSplit S (f + 1) 49 [a0, a1, a2, a3, some (.int x), a5, a6] st h = (q_R_readSplit S f 51 [a0, a1, a2, a3, some (.int x), a5, a6] (.int x :: st) h) := by rw [q_R_readSplit, hz_w_at d_R_readSplit_49]; rfl
theorem d_R_readSplit_51 : decode c_R_readSplit 51 = .ok (.iload 6, 2) := by decide +kernel
theorem e_R_readSplit_51 {a0 a1 a2 a3 a4 a5 : Option Value} : q_R_readSplit S (f + 1) 51 [a0, a1, a2, a3, a4, a5, some (.int x)] st h = (q_R_readSplit S f 53 [a0, a1, a2, a3, a4, a5, some (.int x)] (.int x :: st) h) := by rw [q_R_readSplit, hz_w_at d_R_readSplit_51]; rfl
theorem d_R_readSplit_53 : decode c_R_readSplit 53 = .ok (.invokevirtual 98, 3) := by decide +kernel
theorem e_R_readSplit_53 : q_R_readSplit S (f + 1) 53 L st h = (S 53 L st h) := by rw [q_R_readSplit, hz_w_at d_R_readSplit_53]; rfl
theorem d_R_readSplit_56 : decode c_R_readSplit 56 = .ok (.aload_n 0, 1) := by decide +kernel
theorem e_R_readSplit_56 {a1 a2 a3 a4 a5 a6 : Option Value} : q_R_readSplit S (f + 1) 56 [some (.ref i), a1, a2, a3, a4, a5, a6] st h = (q_R_readSplit S f 57 [some (.ref i), a1, a2, a3, a4, a5, a6] (.ref i :: st) h) := by rw [q_R_readSplit, hz_w_at d_R_readSplit_56]; rfl
theorem e_R_readSplit_56n {a1 a2 a3 a4 a5 a6 : Option Value} : q_R_readSplit S (f + 1) 56 [some .null, a1, a2, a3, a4, a5, a6] st h = (q_R_readSplit S f 57 [some .null, a1, a2, a3, a4, a5, a6] (.null :: st) h) := by rw [q_R_readSplit, hz_w_at d_R_readSplit_56]; rfl
theorem d_R_readSplit_57 : decode c_R_readSplit 57 = .ok (.iload_n 3, 1) := by decide +kernel
theorem e_R_readSplit_57 {a0 a1 a2 a4 a5 a6 : Option Value} : q_R_readSplit S (f + 1) 57 [a0, a1, a2, some (.int x), a4, a5, a6] st h = (q_R_readSplit S f 58 [a0, a1, a2, some (.int x), a4, a5, a6] (.int x :: st) h) := by rw [q_R_readSplit, hz_w_at d_R_readSplit_57]; rfl
theorem d_R_readSplit_58 : decode c_R_readSplit 58 = .ok (.iload 5, 2) := by decide +kernel
theorem e_R_readSplit_58 {a0 a1 a2 a3 a4 a6 : Option Value} : q_R_readSplit S (f + 1) 58 [a0, a1, a2, a3, a4, some (.int x), a6] st h = (q_R_readSplit S f 60 [a0, a1, a2, a3, a4, some (.int x), a6] (.int x :: st) h) := by rw [q_R_readSplit, hz_w_at d_R_readSplit_58]; rfl
theorem d_R_readSplit_60 : decode c_R_readSplit 60 = .ok (.invokevirtual 98, 3) := by decide +kernel
theorem e_R_readSplit_60 : q_R_readSplit S (f + 1) 60 L st h = (S 60 L st h) := by rw [q_R_readSplit, hz_w_at d_R_readSplit_60]; rfl
theorem d_R_readSplit_63 : decode c_R_readSplit 63 = .ok (.return_, 1) := by decide +kernel
theorem e_R_readSplit_63 : q_R_readSplit S (f + 1) 63 L st h = (S 63 L st h) := by rw [q_R_readSplit, hz_w_at d_R_readSplit_63]; rfl
end
abbrev q_R_readBinding (S : Nat → List (Option Value) → List Value → hz_H → Prop) := hz_w zCl zKT f_R n_R c_R_readBinding [] S
section
variable {S : Nat → List (Option Value) → List Value → hz_H → Prop} {f : Nat} {L : List (Option Value)} {st : List Value} {h : hz_H} {x y : Int32} {i j : Nat} {X Y : Int64}
theorem d_R_readBinding_0 : decode c_R_readBinding 0 = .ok (.aload_n 0, 1) := by decide +kernel
theorem e_R_readBinding_0 {a1 a2 a3 : Option Value} : q_R_readBinding S (f + 1) 0 [some (.ref i), a1, a2, a3] st h = (q_R_readBinding S f 1 [some (.ref i), a1, a2, a3] (.ref i :: st) h) := by rw [q_R_readBinding, hz_w_at d_R_readBinding_0]; rfl
theorem e_R_readBinding_0n {a1 a2 a3 : Option Value} : q_R_readBinding S (f + 1) 0 [some .null, a1, a2, a3] st h = (q_R_readBinding S f 1 [some .null, a1, a2, a3] (.null :: st) h) := by rw [q_R_readBinding, hz_w_at d_R_readBinding_0]; rfl
theorem d_R_readBinding_1 : decode c_R_readBinding 1 = .ok (.invokevirtual 94, 3) := by decide +kernel
theorem e_R_readBinding_1 : q_R_readBinding S (f + 1) 1 L st h = (S 1 L st h) := by rw [q_R_readBinding, hz_w_at d_R_readBinding_1]; rfl
theorem d_R_readBinding_4 : decode c_R_readBinding 4 = .ok (.istore_n 2, 1) := by decide +kernel
theorem e_R_readBinding_4 {a0 a1 a2 a3 : Option Value} : q_R_readBinding S (f + 1) 4 [a0, a1, a2, a3] (.int x :: st) h = (q_R_readBinding S f 5 [a0, a1, some (.int x), a3] st h) := by rw [q_R_readBinding, hz_w_at d_R_readBinding_4]; rfl
theorem d_R_readBinding_5 : decode c_R_readBinding 5 = .ok (.aload_n 0, 1) := by decide +kernel
theorem e_R_readBinding_5 {a1 a2 a3 : Option Value} : q_R_readBinding S (f + 1) 5 [some (.ref i), a1, a2, a3] st h = (q_R_readBinding S f 6 [some (.ref i), a1, a2, a3] (.ref i :: st) h) := by rw [q_R_readBinding, hz_w_at d_R_readBinding_5]; rfl
theorem e_R_readBinding_5n {a1 a2 a3 : Option Value} : q_R_readBinding S (f + 1) 5 [some .null, a1, a2, a3] st h = (q_R_readBinding S f 6 [some .null, a1, a2, a3] (.null :: st) h) := by rw [q_R_readBinding, hz_w_at d_R_readBinding_5]; rfl
theorem d_R_readBinding_6 : decode c_R_readBinding 6 = .ok (.getfield 19, 3) := by decide +kernel
theorem e_R_readBinding_6 : q_R_readBinding S (f + 1) 6 L (.ref i :: st) h = (hz_rd h i 2 3 fun v => q_R_readBinding S f 9 L (v :: st) h) := by rw [q_R_readBinding, hz_w_at d_R_readBinding_6]; rfl
theorem d_R_readBinding_9 : decode c_R_readBinding 9 = .ok (.ifCond .eq 4, 3) := by decide +kernel
theorem e_R_readBinding_9 : q_R_readBinding S (f + 1) 9 L (.int x :: st) h = ((x.toInt = 0 → q_R_readBinding S f 13 L st h) ∧ (¬ (x.toInt = 0) → q_R_readBinding S f 12 L st h)) := by rw [q_R_readBinding, hz_w_at d_R_readBinding_9]; rfl
theorem d_R_readBinding_12 : decode c_R_readBinding 12 = .ok (.return_, 1) := by decide +kernel
theorem e_R_readBinding_12 : q_R_readBinding S (f + 1) 12 L st h = (S 12 L st h) := by rw [q_R_readBinding, hz_w_at d_R_readBinding_12]; rfl
theorem d_R_readBinding_13 : decode c_R_readBinding 13 = .ok (.aload_n 0, 1) := by decide +kernel
theorem e_R_readBinding_13 {a1 a2 a3 : Option Value} : q_R_readBinding S (f + 1) 13 [some (.ref i), a1, a2, a3] st h = (q_R_readBinding S f 14 [some (.ref i), a1, a2, a3] (.ref i :: st) h) := by rw [q_R_readBinding, hz_w_at d_R_readBinding_13]; rfl
theorem e_R_readBinding_13n {a1 a2 a3 : Option Value} : q_R_readBinding S (f + 1) 13 [some .null, a1, a2, a3] st h = (q_R_readBinding S f 14 [some .null, a1, a2, a3] (.null :: st) h) := by rw [q_R_readBinding, hz_w_at d_R_readBinding_13]; rfl
theorem d_R_readBinding_14 : decode c_R_readBinding 14 = .ok (.iload_n 2, 1) := by decide +kernel
theorem e_R_readBinding_14 {a0 a1 a3 : Option Value} : q_R_readBinding S (f + 1) 14 [a0, a1, some (.int x), a3] st h = (q_R_readBinding S f 15 [a0, a1, some (.int x), a3] (.int x :: st) h) := by rw [q_R_readBinding, hz_w_at d_R_readBinding_14]; rfl
theorem d_R_readBinding_15 : decode c_R_readBinding 15 = .ok (.invokevirtual 54, 3) := by decide +kernel
theorem e_R_readBinding_15 : q_R_readBinding S (f + 1) 15 L st h = (S 15 L st h) := by rw [q_R_readBinding, hz_w_at d_R_readBinding_15]; rfl
theorem d_R_readBinding_18 : decode c_R_readBinding 18 = .ok (.istore_n 3, 1) := by decide +kernel
theorem e_R_readBinding_18 {a0 a1 a2 a3 : Option Value} : q_R_readBinding S (f + 1) 18 [a0, a1, a2, a3] (.int x :: st) h = (q_R_readBinding S f 19 [a0, a1, a2, some (.int x)] st h) := by rw [q_R_readBinding, hz_w_at d_R_readBinding_18]; rfl
theorem d_R_readBinding_19 : decode c_R_readBinding 19 = .ok (.aload_n 0, 1) := by decide +kernel
theorem e_R_readBinding_19 {a1 a2 a3 : Option Value} : q_R_readBinding S (f + 1) 19 [some (.ref i), a1, a2, a3] st h = (q_R_readBinding S f 20 [some (.ref i), a1, a2, a3] (.ref i :: st) h) := by rw [q_R_readBinding, hz_w_at d_R_readBinding_19]; rfl
theorem e_R_readBinding_19n {a1 a2 a3 : Option Value} : q_R_readBinding S (f + 1) 19 [some .null, a1, a2, a3] st h = (q_R_readBinding S f 20 [some .null, a1, a2, a3] (.null :: st) h) := by rw [q_R_readBinding, hz_w_at d_R_readBinding_19]; rfl
theorem d_R_readBinding_20 : decode c_R_readBinding 20 = .ok (.iconst 2, 1) := by decide +kernel
theorem e_R_readBinding_20 : q_R_readBinding S (f + 1) 20 L st h = (q_R_readBinding S f 21 L (.int (hz_n 2) :: st) h) := by rw [q_R_readBinding, hz_w_at d_R_readBinding_20]; rfl
theorem d_R_readBinding_21 : decode c_R_readBinding 21 = .ok (.iload_n 1, 1) := by decide +kernel
theorem e_R_readBinding_21 {a0 a2 a3 : Option Value} : q_R_readBinding S (f + 1) 21 [a0, some (.int x), a2, a3] st h = (q_R_readBinding S f 22 [a0, some (.int x), a2, a3] (.int x :: st) h) := by rw [q_R_readBinding, hz_w_at d_R_readBinding_21]; rfl
theorem d_R_readBinding_22 : decode c_R_readBinding 22 = .ok (.invokevirtual 81, 3) := by decide +kernel
theorem e_R_readBinding_22 : q_R_readBinding S (f + 1) 22 L st h = (S 22 L st h) := by rw [q_R_readBinding, hz_w_at d_R_readBinding_22]; rfl
theorem d_R_readBinding_25 : decode c_R_readBinding 25 = .ok (.pop, 1) := by decide +kernel
theorem e_R_readBinding_25 : q_R_readBinding S (f + 1) 25 L (.ref i :: st) h = (q_R_readBinding S f 26 L st h) := by rw [q_R_readBinding, hz_w_at d_R_readBinding_25]; rfl
theorem e_R_readBinding_25i : q_R_readBinding S (f + 1) 25 L (.int x :: st) h = (q_R_readBinding S f 26 L st h) := by rw [q_R_readBinding, hz_w_at d_R_readBinding_25]; rfl
theorem d_R_readBinding_26 : decode c_R_readBinding 26 = .ok (.aload_n 0, 1) := by decide +kernel
theorem e_R_readBinding_26 {a1 a2 a3 : Option Value} : q_R_readBinding S (f + 1) 26 [some (.ref i), a1, a2, a3] st h = (q_R_readBinding S f 27 [some (.ref i), a1, a2, a3] (.ref i :: st) h) := by rw [q_R_readBinding, hz_w_at d_R_readBinding_26]; rfl
theorem e_R_readBinding_26n {a1 a2 a3 : Option Value} : q_R_readBinding S (f + 1) 26 [some .null, a1, a2, a3] st h = (q_R_readBinding S f 27 [some .null, a1, a2, a3] (.null :: st) h) := by rw [q_R_readBinding, hz_w_at d_R_readBinding_26]; rfl
theorem d_R_readBinding_27 : decode c_R_readBinding 27 = .ok (.iload_n 2, 1) := by decide +kernel
theorem e_R_readBinding_27 {a0 a1 a3 : Option Value} : q_R_readBinding S (f + 1) 27 [a0, a1, some (.int x), a3] st h = (q_R_readBinding S f 28 [a0, a1, some (.int x), a3] (.int x :: st) h) := by rw [q_R_readBinding, hz_w_at d_R_readBinding_27]; rfl
theorem d_R_readBinding_28 : decode c_R_readBinding 28 = .ok (.iload_n 3, 1) := by decide +kernel
theorem e_R_readBinding_28 {a0 a1 a2 : Option Value} : q_R_readBinding S (f + 1) 28 [a0, a1, a2, some (.int x)] st h = (q_R_readBinding S f 29 [a0, a1, a2, some (.int x)] (.int x :: st) h) := by rw [q_R_readBinding, hz_w_at d_R_readBinding_28]; rfl
theorem d_R_readBinding_29 : decode c_R_readBinding 29 = .ok (.invokevirtual 98, 3) := by decide +kernel
theorem e_R_readBinding_29 : q_R_readBinding S (f + 1) 29 L st h = (S 29 L st h) := by rw [q_R_readBinding, hz_w_at d_R_readBinding_29]; rfl
theorem d_R_readBinding_32 : decode c_R_readBinding 32 = .ok (.return_, 1) := by decide +kernel
theorem e_R_readBinding_32 : q_R_readBinding S (f + 1) 32 L st h = (S 32 L st h) := by rw [q_R_readBinding, hz_w_at d_R_readBinding_32]; rfl
end
abbrev q_R_readVariable (S : Nat → List (Option Value) → List Value → hz_H → Prop) := hz_w zCl zKT f_R n_R c_R_readVariable [] S
section
variable {S : Nat → List (Option Value) → List Value → hz_H → Prop} {f : Nat} {L : List (Option Value)} {st : List Value} {h : hz_H} {x y : Int32} {i j : Nat} {X Y : Int64}
theorem d_R_readVariable_0 : decode c_R_readVariable 0 = .ok (.aload_n 0, 1) := by decide +kernel
theorem e_R_readVariable_0 {a1 : Option Value} : q_R_readVariable S (f + 1) 0 [some (.ref i), a1] st h = (q_R_readVariable S f 1 [some (.ref i), a1] (.ref i :: st) h) := by rw [q_R_readVariable, hz_w_at d_R_readVariable_0]; rfl
theorem e_R_readVariable_0n {a1 : Option Value} : q_R_readVariable S (f + 1) 0 [some .null, a1] st h = (q_R_readVariable S f 1 [some .null, a1] (.null :: st) h) := by rw [q_R_readVariable, hz_w_at d_R_readVariable_0]; rfl
theorem d_R_readVariable_1 : decode c_R_readVariable 1 = .ok (.getfield 15, 3) := by decide +kernel
theorem e_R_readVariable_1 : q_R_readVariable S (f + 1) 1 L (.ref i :: st) h = (hz_rd h i 2 2 fun v => q_R_readVariable S f 4 L (v :: st) h) := by rw [q_R_readVariable, hz_w_at d_R_readVariable_1]; rfl
theorem d_R_readVariable_4 : decode c_R_readVariable 4 = .ok (.istore_n 1, 1) := by decide +kernel
theorem e_R_readVariable_4 {a0 a1 : Option Value} : q_R_readVariable S (f + 1) 4 [a0, a1] (.int x :: st) h = (q_R_readVariable S f 5 [a0, some (.int x)] st h) := by rw [q_R_readVariable, hz_w_at d_R_readVariable_4]; rfl
theorem d_R_readVariable_5 : decode c_R_readVariable 5 = .ok (.aload_n 0, 1) := by decide +kernel
theorem e_R_readVariable_5 {a1 : Option Value} : q_R_readVariable S (f + 1) 5 [some (.ref i), a1] st h = (q_R_readVariable S f 6 [some (.ref i), a1] (.ref i :: st) h) := by rw [q_R_readVariable, hz_w_at d_R_readVariable_5]; rfl
theorem e_R_readVariable_5n {a1 : Option Value} : q_R_readVariable S (f + 1) 5 [some .null, a1] st h = (q_R_readVariable S f 6 [some .null, a1] (.null :: st) h) := by rw [q_R_readVariable, hz_w_at d_R_readVariable_5]; rfl
theorem d_R_readVariable_6 : decode c_R_readVariable 6 = .ok (.getfield 19, 3) := by decide +kernel
theorem e_R_readVariable_6 : q_R_readVariable S (f + 1) 6 L (.ref i :: st) h = (hz_rd h i 2 3 fun v => q_R_readVariable S f 9 L (v :: st) h) := by rw [q_R_readVariable, hz_w_at d_R_readVariable_6]; rfl
theorem d_R_readVariable_9 : decode c_R_readVariable 9 = .ok (.ifCond .ne 26, 3) := by decide +kernel
theorem e_R_readVariable_9 : q_R_readVariable S (f + 1) 9 L (.int x :: st) h = ((¬ x.toInt = 0 → q_R_readVariable S f 35 L st h) ∧ (¬ (¬ x.toInt = 0) → q_R_readVariable S f 12 L st h)) := by rw [q_R_readVariable, hz_w_at d_R_readVariable_9]; rfl
theorem d_R_readVariable_12 : decode c_R_readVariable 12 = .ok (.aload_n 0, 1) := by decide +kernel
theorem e_R_readVariable_12 {a1 : Option Value} : q_R_readVariable S (f + 1) 12 [some (.ref i), a1] st h = (q_R_readVariable S f 13 [some (.ref i), a1] (.ref i :: st) h) := by rw [q_R_readVariable, hz_w_at d_R_readVariable_12]; rfl
theorem e_R_readVariable_12n {a1 : Option Value} : q_R_readVariable S (f + 1) 12 [some .null, a1] st h = (q_R_readVariable S f 13 [some .null, a1] (.null :: st) h) := by rw [q_R_readVariable, hz_w_at d_R_readVariable_12]; rfl
theorem d_R_readVariable_13 : decode c_R_readVariable 13 = .ok (.invokevirtual 46, 3) := by decide +kernel
theorem e_R_readVariable_13 : q_R_readVariable S (f + 1) 13 L st h = (S 13 L st h) := by rw [q_R_readVariable, hz_w_at d_R_readVariable_13]; rfl
theorem d_R_readVariable_16 : decode c_R_readVariable 16 = .ok (.invokestatic 50, 3) := by decide +kernel
theorem e_R_readVariable_16 : q_R_readVariable S (f + 1) 16 L st h = (S 16 L st h) := by rw [q_R_readVariable, hz_w_at d_R_readVariable_16]; rfl
theorem d_R_readVariable_19 : decode c_R_readVariable 19 = .ok (.ifCond .eq 16, 3) := by decide +kernel
theorem e_R_readVariable_19 : q_R_readVariable S (f + 1) 19 L (.int x :: st) h = ((x.toInt = 0 → q_R_readVariable S f 35 L st h) ∧ (¬ (x.toInt = 0) → q_R_readVariable S f 22 L st h)) := by rw [q_R_readVariable, hz_w_at d_R_readVariable_19]; rfl
theorem d_R_readVariable_22 : decode c_R_readVariable 22 = .ok (.aload_n 0, 1) := by decide +kernel
theorem e_R_readVariable_22 {a1 : Option Value} : q_R_readVariable S (f + 1) 22 [some (.ref i), a1] st h = (q_R_readVariable S f 23 [some (.ref i), a1] (.ref i :: st) h) := by rw [q_R_readVariable, hz_w_at d_R_readVariable_22]; rfl
theorem e_R_readVariable_22n {a1 : Option Value} : q_R_readVariable S (f + 1) 22 [some .null, a1] st h = (q_R_readVariable S f 23 [some .null, a1] (.null :: st) h) := by rw [q_R_readVariable, hz_w_at d_R_readVariable_22]; rfl
theorem d_R_readVariable_23 : decode c_R_readVariable 23 = .ok (.dup, 1) := by decide +kernel
theorem e_R_readVariable_23 : q_R_readVariable S (f + 1) 23 L (.ref i :: st) h = (q_R_readVariable S f 24 L (.ref i :: .ref i :: st) h) := by rw [q_R_readVariable, hz_w_at d_R_readVariable_23]; rfl
theorem e_R_readVariable_23i : q_R_readVariable S (f + 1) 23 L (.int x :: st) h = (q_R_readVariable S f 24 L (.int x :: .int x :: st) h) := by rw [q_R_readVariable, hz_w_at d_R_readVariable_23]; rfl
theorem d_R_readVariable_24 : decode c_R_readVariable 24 = .ok (.getfield 15, 3) := by decide +kernel
theorem e_R_readVariable_24 : q_R_readVariable S (f + 1) 24 L (.ref i :: st) h = (hz_rd h i 2 2 fun v => q_R_readVariable S f 27 L (v :: st) h) := by rw [q_R_readVariable, hz_w_at d_R_readVariable_24]; rfl
theorem d_R_readVariable_27 : decode c_R_readVariable 27 = .ok (.iconst 1, 1) := by decide +kernel
theorem e_R_readVariable_27 : q_R_readVariable S (f + 1) 27 L st h = (q_R_readVariable S f 28 L (.int (hz_n 1) :: st) h) := by rw [q_R_readVariable, hz_w_at d_R_readVariable_27]; rfl
theorem d_R_readVariable_28 : decode c_R_readVariable 28 = .ok (.iadd, 1) := by decide +kernel
theorem e_R_readVariable_28 : q_R_readVariable S (f + 1) 28 L (.int y :: .int x :: st) h = (q_R_readVariable S f 29 L (.int (x + y) :: st) h) := by rw [q_R_readVariable, hz_w_at d_R_readVariable_28]; rfl
theorem d_R_readVariable_29 : decode c_R_readVariable 29 = .ok (.putfield 15, 3) := by decide +kernel
theorem e_R_readVariable_29 : q_R_readVariable S (f + 1) 29 L (.int x :: .ref i :: st) h = (hz_wr h i 2 2 (.int x) fun h => q_R_readVariable S f 32 L st h) := by rw [q_R_readVariable, hz_w_at d_R_readVariable_29]; rfl
theorem d_R_readVariable_32 : decode c_R_readVariable 32 = .ok (.goto 8, 3) := by decide +kernel
theorem e_R_readVariable_32 : q_R_readVariable S (f + 1) 32 L st h = (q_R_readVariable S f 40 L st h) := by rw [q_R_readVariable, hz_w_at d_R_readVariable_32]; rfl
theorem d_R_readVariable_35 : decode c_R_readVariable 35 = .ok (.aload_n 0, 1) := by decide +kernel
theorem e_R_readVariable_35 {a1 : Option Value} : q_R_readVariable S (f + 1) 35 [some (.ref i), a1] st h = (q_R_readVariable S f 36 [some (.ref i), a1] (.ref i :: st) h) := by rw [q_R_readVariable, hz_w_at d_R_readVariable_35]; rfl
theorem e_R_readVariable_35n {a1 : Option Value} : q_R_readVariable S (f + 1) 35 [some .null, a1] st h = (q_R_readVariable S f 36 [some .null, a1] (.null :: st) h) := by rw [q_R_readVariable, hz_w_at d_R_readVariable_35]; rfl
theorem d_R_readVariable_36 : decode c_R_readVariable 36 = .ok (.iconst 1, 1) := by decide +kernel
theorem e_R_readVariable_36 : q_R_readVariable S (f + 1) 36 L st h = (q_R_readVariable S f 37 L (.int (hz_n 1) :: st) h) := by rw [q_R_readVariable, hz_w_at d_R_readVariable_36]; rfl
theorem d_R_readVariable_37 : decode c_R_readVariable 37 = .ok (.putfield 19, 3) := by decide +kernel
theorem e_R_readVariable_37 : q_R_readVariable S (f + 1) 37 L (.int x :: .ref i :: st) h = ((narrow .boolean (.int x) = .int x ∧ fits .boolean (.int x) = true) ∧ hz_wr h i 2 3 (.int x) fun h => q_R_readVariable S f 40 L st h) := by rw [q_R_readVariable, hz_w_at d_R_readVariable_37]; rfl
theorem d_R_readVariable_40 : decode c_R_readVariable 40 = .ok (.iload_n 1, 1) := by decide +kernel
theorem e_R_readVariable_40 {a0 : Option Value} : q_R_readVariable S (f + 1) 40 [a0, some (.int x)] st h = (q_R_readVariable S f 41 [a0, some (.int x)] (.int x :: st) h) := by rw [q_R_readVariable, hz_w_at d_R_readVariable_40]; rfl
theorem d_R_readVariable_41 : decode c_R_readVariable 41 = .ok (.ireturn, 1) := by decide +kernel
theorem e_R_readVariable_41 : q_R_readVariable S (f + 1) 41 L st h = (S 41 L st h) := by rw [q_R_readVariable, hz_w_at d_R_readVariable_41]; rfl
end
abbrev q_R_readSign (S : Nat → List (Option Value) → List Value → hz_H → Prop) := hz_w zCl zKT f_R n_R c_R_readSign [] S
section
variable {S : Nat → List (Option Value) → List Value → hz_H → Prop} {f : Nat} {L : List (Option Value)} {st : List Value} {h : hz_H} {x y : Int32} {i j : Nat} {X Y : Int64}
theorem d_R_readSign_0 : decode c_R_readSign 0 = .ok (.aload_n 0, 1) := by decide +kernel
theorem e_R_readSign_0 {a1 : Option Value} : q_R_readSign S (f + 1) 0 [some (.ref i), a1] st h = (q_R_readSign S f 1 [some (.ref i), a1] (.ref i :: st) h) := by rw [q_R_readSign, hz_w_at d_R_readSign_0]; rfl
theorem e_R_readSign_0n {a1 : Option Value} : q_R_readSign S (f + 1) 0 [some .null, a1] st h = (q_R_readSign S f 1 [some .null, a1] (.null :: st) h) := by rw [q_R_readSign, hz_w_at d_R_readSign_0]; rfl
theorem d_R_readSign_1 : decode c_R_readSign 1 = .ok (.getfield 19, 3) := by decide +kernel
theorem e_R_readSign_1 : q_R_readSign S (f + 1) 1 L (.ref i :: st) h = (hz_rd h i 2 3 fun v => q_R_readSign S f 4 L (v :: st) h) := by rw [q_R_readSign, hz_w_at d_R_readSign_1]; rfl
theorem d_R_readSign_4 : decode c_R_readSign 4 = .ok (.ifCond .ne 24, 3) := by decide +kernel
theorem e_R_readSign_4 : q_R_readSign S (f + 1) 4 L (.int x :: st) h = ((¬ x.toInt = 0 → q_R_readSign S f 28 L st h) ∧ (¬ (¬ x.toInt = 0) → q_R_readSign S f 7 L st h)) := by rw [q_R_readSign, hz_w_at d_R_readSign_4]; rfl
theorem d_R_readSign_7 : decode c_R_readSign 7 = .ok (.aload_n 0, 1) := by decide +kernel
theorem e_R_readSign_7 {a1 : Option Value} : q_R_readSign S (f + 1) 7 [some (.ref i), a1] st h = (q_R_readSign S f 8 [some (.ref i), a1] (.ref i :: st) h) := by rw [q_R_readSign, hz_w_at d_R_readSign_7]; rfl
theorem e_R_readSign_7n {a1 : Option Value} : q_R_readSign S (f + 1) 7 [some .null, a1] st h = (q_R_readSign S f 8 [some .null, a1] (.null :: st) h) := by rw [q_R_readSign, hz_w_at d_R_readSign_7]; rfl
theorem d_R_readSign_8 : decode c_R_readSign 8 = .ok (.invokevirtual 46, 3) := by decide +kernel
theorem e_R_readSign_8 : q_R_readSign S (f + 1) 8 L st h = (S 8 L st h) := by rw [q_R_readSign, hz_w_at d_R_readSign_8]; rfl
theorem d_R_readSign_11 : decode c_R_readSign 11 = .ok (.iload_n 1, 1) := by decide +kernel
theorem e_R_readSign_11 {a0 : Option Value} : q_R_readSign S (f + 1) 11 [a0, some (.int x)] st h = (q_R_readSign S f 12 [a0, some (.int x)] (.int x :: st) h) := by rw [q_R_readSign, hz_w_at d_R_readSign_11]; rfl
theorem d_R_readSign_12 : decode c_R_readSign 12 = .ok (.if_icmp .ne 16, 3) := by decide +kernel
theorem e_R_readSign_12 : q_R_readSign S (f + 1) 12 L (.int y :: .int x :: st) h = ((¬ x.toInt = y.toInt → q_R_readSign S f 28 L st h) ∧ (¬ (¬ x.toInt = y.toInt) → q_R_readSign S f 15 L st h)) := by rw [q_R_readSign, hz_w_at d_R_readSign_12]; rfl
theorem d_R_readSign_15 : decode c_R_readSign 15 = .ok (.aload_n 0, 1) := by decide +kernel
theorem e_R_readSign_15 {a1 : Option Value} : q_R_readSign S (f + 1) 15 [some (.ref i), a1] st h = (q_R_readSign S f 16 [some (.ref i), a1] (.ref i :: st) h) := by rw [q_R_readSign, hz_w_at d_R_readSign_15]; rfl
theorem e_R_readSign_15n {a1 : Option Value} : q_R_readSign S (f + 1) 15 [some .null, a1] st h = (q_R_readSign S f 16 [some .null, a1] (.null :: st) h) := by rw [q_R_readSign, hz_w_at d_R_readSign_15]; rfl
theorem d_R_readSign_16 : decode c_R_readSign 16 = .ok (.dup, 1) := by decide +kernel
theorem e_R_readSign_16 : q_R_readSign S (f + 1) 16 L (.ref i :: st) h = (q_R_readSign S f 17 L (.ref i :: .ref i :: st) h) := by rw [q_R_readSign, hz_w_at d_R_readSign_16]; rfl
theorem e_R_readSign_16i : q_R_readSign S (f + 1) 16 L (.int x :: st) h = (q_R_readSign S f 17 L (.int x :: .int x :: st) h) := by rw [q_R_readSign, hz_w_at d_R_readSign_16]; rfl
theorem d_R_readSign_17 : decode c_R_readSign 17 = .ok (.getfield 15, 3) := by decide +kernel
theorem e_R_readSign_17 : q_R_readSign S (f + 1) 17 L (.ref i :: st) h = (hz_rd h i 2 2 fun v => q_R_readSign S f 20 L (v :: st) h) := by rw [q_R_readSign, hz_w_at d_R_readSign_17]; rfl
theorem d_R_readSign_20 : decode c_R_readSign 20 = .ok (.iconst 1, 1) := by decide +kernel
theorem e_R_readSign_20 : q_R_readSign S (f + 1) 20 L st h = (q_R_readSign S f 21 L (.int (hz_n 1) :: st) h) := by rw [q_R_readSign, hz_w_at d_R_readSign_20]; rfl
theorem d_R_readSign_21 : decode c_R_readSign 21 = .ok (.iadd, 1) := by decide +kernel
theorem e_R_readSign_21 : q_R_readSign S (f + 1) 21 L (.int y :: .int x :: st) h = (q_R_readSign S f 22 L (.int (x + y) :: st) h) := by rw [q_R_readSign, hz_w_at d_R_readSign_21]; rfl
theorem d_R_readSign_22 : decode c_R_readSign 22 = .ok (.putfield 15, 3) := by decide +kernel
theorem e_R_readSign_22 : q_R_readSign S (f + 1) 22 L (.int x :: .ref i :: st) h = (hz_wr h i 2 2 (.int x) fun h => q_R_readSign S f 25 L st h) := by rw [q_R_readSign, hz_w_at d_R_readSign_22]; rfl
theorem d_R_readSign_25 : decode c_R_readSign 25 = .ok (.goto 8, 3) := by decide +kernel
theorem e_R_readSign_25 : q_R_readSign S (f + 1) 25 L st h = (q_R_readSign S f 33 L st h) := by rw [q_R_readSign, hz_w_at d_R_readSign_25]; rfl
theorem d_R_readSign_28 : decode c_R_readSign 28 = .ok (.aload_n 0, 1) := by decide +kernel
theorem e_R_readSign_28 {a1 : Option Value} : q_R_readSign S (f + 1) 28 [some (.ref i), a1] st h = (q_R_readSign S f 29 [some (.ref i), a1] (.ref i :: st) h) := by rw [q_R_readSign, hz_w_at d_R_readSign_28]; rfl
theorem e_R_readSign_28n {a1 : Option Value} : q_R_readSign S (f + 1) 28 [some .null, a1] st h = (q_R_readSign S f 29 [some .null, a1] (.null :: st) h) := by rw [q_R_readSign, hz_w_at d_R_readSign_28]; rfl
theorem d_R_readSign_29 : decode c_R_readSign 29 = .ok (.iconst 1, 1) := by decide +kernel
theorem e_R_readSign_29 : q_R_readSign S (f + 1) 29 L st h = (q_R_readSign S f 30 L (.int (hz_n 1) :: st) h) := by rw [q_R_readSign, hz_w_at d_R_readSign_29]; rfl
theorem d_R_readSign_30 : decode c_R_readSign 30 = .ok (.putfield 19, 3) := by decide +kernel
theorem e_R_readSign_30 : q_R_readSign S (f + 1) 30 L (.int x :: .ref i :: st) h = ((narrow .boolean (.int x) = .int x ∧ fits .boolean (.int x) = true) ∧ hz_wr h i 2 3 (.int x) fun h => q_R_readSign S f 33 L st h) := by rw [q_R_readSign, hz_w_at d_R_readSign_30]; rfl
theorem d_R_readSign_33 : decode c_R_readSign 33 = .ok (.return_, 1) := by decide +kernel
theorem e_R_readSign_33 : q_R_readSign S (f + 1) 33 L st h = (S 33 L st h) := by rw [q_R_readSign, hz_w_at d_R_readSign_33]; rfl
end
abbrev q_R_sign (S : Nat → List (Option Value) → List Value → hz_H → Prop) := hz_w zCl zKT f_R n_R c_R_sign [] S
section
variable {S : Nat → List (Option Value) → List Value → hz_H → Prop} {f : Nat} {L : List (Option Value)} {st : List Value} {h : hz_H} {x y : Int32} {i j : Nat} {X Y : Int64}
theorem d_R_sign_0 : decode c_R_sign 0 = .ok (.aload_n 0, 1) := by decide +kernel
theorem e_R_sign_0 : q_R_sign S (f + 1) 0 [some (.ref i)] st h = (q_R_sign S f 1 [some (.ref i)] (.ref i :: st) h) := by rw [q_R_sign, hz_w_at d_R_sign_0]; rfl
theorem e_R_sign_0n : q_R_sign S (f + 1) 0 [some .null] st h = (q_R_sign S f 1 [some .null] (.null :: st) h) := by rw [q_R_sign, hz_w_at d_R_sign_0]; rfl
theorem d_R_sign_1 : decode c_R_sign 1 = .ok (.getfield 15, 3) := by decide +kernel
theorem e_R_sign_1 : q_R_sign S (f + 1) 1 L (.ref i :: st) h = (hz_rd h i 2 2 fun v => q_R_sign S f 4 L (v :: st) h) := by rw [q_R_sign, hz_w_at d_R_sign_1]; rfl
theorem d_R_sign_4 : decode c_R_sign 4 = .ok (.aload_n 0, 1) := by decide +kernel
theorem e_R_sign_4 : q_R_sign S (f + 1) 4 [some (.ref i)] st h = (q_R_sign S f 5 [some (.ref i)] (.ref i :: st) h) := by rw [q_R_sign, hz_w_at d_R_sign_4]; rfl
theorem e_R_sign_4n : q_R_sign S (f + 1) 4 [some .null] st h = (q_R_sign S f 5 [some .null] (.null :: st) h) := by rw [q_R_sign, hz_w_at d_R_sign_4]; rfl
theorem d_R_sign_5 : decode c_R_sign 5 = .ok (.getfield 26, 3) := by decide +kernel
theorem e_R_sign_5 : q_R_sign S (f + 1) 5 L (.ref i :: st) h = (hz_rd h i 2 0 fun v => q_R_sign S f 8 L (v :: st) h) := by rw [q_R_sign, hz_w_at d_R_sign_5]; rfl
theorem d_R_sign_8 : decode c_R_sign 8 = .ok (.getfield 37, 3) := by decide +kernel
theorem e_R_sign_8 : q_R_sign S (f + 1) 8 L (.ref i :: st) h = (hz_rd h i 0 0 fun v => q_R_sign S f 11 L (v :: st) h) := by rw [q_R_sign, hz_w_at d_R_sign_8]; rfl
theorem d_R_sign_11 : decode c_R_sign 11 = .ok (.arraylength, 1) := by decide +kernel
theorem e_R_sign_11 : q_R_sign S (f + 1) 11 L (.ref i :: st) h = (hz_al zKT h i fun v => q_R_sign S f 12 L (v :: st) h) := by rw [q_R_sign, hz_w_at d_R_sign_11]; rfl
theorem d_R_sign_12 : decode c_R_sign 12 = .ok (.if_icmp .ge 18, 3) := by decide +kernel
theorem e_R_sign_12 : q_R_sign S (f + 1) 12 L (.int y :: .int x :: st) h = ((y.toInt ≤ x.toInt → q_R_sign S f 30 L st h) ∧ (¬ (y.toInt ≤ x.toInt) → q_R_sign S f 15 L st h)) := by rw [q_R_sign, hz_w_at d_R_sign_12]; rfl
theorem d_R_sign_15 : decode c_R_sign 15 = .ok (.aload_n 0, 1) := by decide +kernel
theorem e_R_sign_15 : q_R_sign S (f + 1) 15 [some (.ref i)] st h = (q_R_sign S f 16 [some (.ref i)] (.ref i :: st) h) := by rw [q_R_sign, hz_w_at d_R_sign_15]; rfl
theorem e_R_sign_15n : q_R_sign S (f + 1) 15 [some .null] st h = (q_R_sign S f 16 [some .null] (.null :: st) h) := by rw [q_R_sign, hz_w_at d_R_sign_15]; rfl
theorem d_R_sign_16 : decode c_R_sign 16 = .ok (.getfield 26, 3) := by decide +kernel
theorem e_R_sign_16 : q_R_sign S (f + 1) 16 L (.ref i :: st) h = (hz_rd h i 2 0 fun v => q_R_sign S f 19 L (v :: st) h) := by rw [q_R_sign, hz_w_at d_R_sign_16]; rfl
theorem d_R_sign_19 : decode c_R_sign 19 = .ok (.getfield 37, 3) := by decide +kernel
theorem e_R_sign_19 : q_R_sign S (f + 1) 19 L (.ref i :: st) h = (hz_rd h i 0 0 fun v => q_R_sign S f 22 L (v :: st) h) := by rw [q_R_sign, hz_w_at d_R_sign_19]; rfl
theorem d_R_sign_22 : decode c_R_sign 22 = .ok (.aload_n 0, 1) := by decide +kernel
theorem e_R_sign_22 : q_R_sign S (f + 1) 22 [some (.ref i)] st h = (q_R_sign S f 23 [some (.ref i)] (.ref i :: st) h) := by rw [q_R_sign, hz_w_at d_R_sign_22]; rfl
theorem e_R_sign_22n : q_R_sign S (f + 1) 22 [some .null] st h = (q_R_sign S f 23 [some .null] (.null :: st) h) := by rw [q_R_sign, hz_w_at d_R_sign_22]; rfl
theorem d_R_sign_23 : decode c_R_sign 23 = .ok (.getfield 15, 3) := by decide +kernel
theorem e_R_sign_23 : q_R_sign S (f + 1) 23 L (.ref i :: st) h = (hz_rd h i 2 2 fun v => q_R_sign S f 26 L (v :: st) h) := by rw [q_R_sign, hz_w_at d_R_sign_23]; rfl
theorem d_R_sign_26 : decode c_R_sign 26 = .ok (.caload, 1) := by decide +kernel
theorem e_R_sign_26 : q_R_sign S (f + 1) 26 L (.int x :: .ref i :: st) h = (hz_ea zKT hz_kC h i x fun v => q_R_sign S f 27 L (v :: st) h) := by rw [q_R_sign, hz_w_at d_R_sign_26]; rfl
theorem d_R_sign_27 : decode c_R_sign 27 = .ok (.goto 4, 3) := by decide +kernel
theorem e_R_sign_27 : q_R_sign S (f + 1) 27 L st h = (q_R_sign S f 31 L st h) := by rw [q_R_sign, hz_w_at d_R_sign_27]; rfl
theorem d_R_sign_30 : decode c_R_sign 30 = .ok (.iconst 0, 1) := by decide +kernel
theorem e_R_sign_30 : q_R_sign S (f + 1) 30 L st h = (q_R_sign S f 31 L (.int (hz_n 0) :: st) h) := by rw [q_R_sign, hz_w_at d_R_sign_30]; rfl
theorem d_R_sign_31 : decode c_R_sign 31 = .ok (.ireturn, 1) := by decide +kernel
theorem e_R_sign_31 : q_R_sign S (f + 1) 31 L st h = (S 31 L st h) := by rw [q_R_sign, hz_w_at d_R_sign_31]; rfl
end
abbrev q_R_bind (S : Nat → List (Option Value) → List Value → hz_H → Prop) := hz_w zCl zKT f_R n_R c_R_bind [] S
section
variable {S : Nat → List (Option Value) → List Value → hz_H → Prop} {f : Nat} {L : List (Option Value)} {st : List Value} {h : hz_H} {x y : Int32} {i j : Nat} {X Y : Int64}
theorem d_R_bind_0 : decode c_R_bind 0 = .ok (.aload_n 0, 1) := by decide +kernel
theorem e_R_bind_0 {a1 a2 a3 : Option Value} : q_R_bind S (f + 1) 0 [some (.ref i), a1, a2, a3] st h = (q_R_bind S f 1 [some (.ref i), a1, a2, a3] (.ref i :: st) h) := by rw [q_R_bind, hz_w_at d_R_bind_0]; rfl
theorem e_R_bind_0n {a1 a2 a3 : Option Value} : q_R_bind S (f + 1) 0 [some .null, a1, a2, a3] st h = (q_R_bind S f 1 [some .null, a1, a2, a3] (.null :: st) h) := by rw [q_R_bind, hz_w_at d_R_bind_0]; rfl
theorem d_R_bind_1 : decode c_R_bind 1 = .ok (.getfield 26, 3) := by decide +kernel
theorem e_R_bind_1 : q_R_bind S (f + 1) 1 L (.ref i :: st) h = (hz_rd h i 2 0 fun v => q_R_bind S f 4 L (v :: st) h) := by rw [q_R_bind, hz_w_at d_R_bind_1]; rfl
theorem d_R_bind_4 : decode c_R_bind 4 = .ok (.getfield 37, 3) := by decide +kernel
theorem e_R_bind_4 : q_R_bind S (f + 1) 4 L (.ref i :: st) h = (hz_rd h i 0 0 fun v => q_R_bind S f 7 L (v :: st) h) := by rw [q_R_bind, hz_w_at d_R_bind_4]; rfl
theorem d_R_bind_7 : decode c_R_bind 7 = .ok (.iload_n 1, 1) := by decide +kernel
theorem e_R_bind_7 {a0 a2 a3 : Option Value} : q_R_bind S (f + 1) 7 [a0, some (.int x), a2, a3] st h = (q_R_bind S f 8 [a0, some (.int x), a2, a3] (.int x :: st) h) := by rw [q_R_bind, hz_w_at d_R_bind_7]; rfl
theorem d_R_bind_8 : decode c_R_bind 8 = .ok (.caload, 1) := by decide +kernel
theorem e_R_bind_8 : q_R_bind S (f + 1) 8 L (.int x :: .ref i :: st) h = (hz_ea zKT hz_kC h i x fun v => q_R_bind S f 9 L (v :: st) h) := by rw [q_R_bind, hz_w_at d_R_bind_8]; rfl
theorem d_R_bind_9 : decode c_R_bind 9 = .ok (.bipush 97, 2) := by decide +kernel
theorem e_R_bind_9 : q_R_bind S (f + 1) 9 L st h = (q_R_bind S f 11 L (.int (hz_n 97) :: st) h) := by rw [q_R_bind, hz_w_at d_R_bind_9]; rfl
theorem d_R_bind_11 : decode c_R_bind 11 = .ok (.isub, 1) := by decide +kernel
theorem e_R_bind_11 : q_R_bind S (f + 1) 11 L (.int y :: .int x :: st) h = (q_R_bind S f 12 L (.int (x - y) :: st) h) := by rw [q_R_bind, hz_w_at d_R_bind_11]; rfl
theorem d_R_bind_12 : decode c_R_bind 12 = .ok (.istore_n 2, 1) := by decide +kernel
theorem e_R_bind_12 {a0 a1 a2 a3 : Option Value} : q_R_bind S (f + 1) 12 [a0, a1, a2, a3] (.int x :: st) h = (q_R_bind S f 13 [a0, a1, some (.int x), a3] st h) := by rw [q_R_bind, hz_w_at d_R_bind_12]; rfl
theorem d_R_bind_13 : decode c_R_bind 13 = .ok (.aload_n 0, 1) := by decide +kernel
theorem e_R_bind_13 {a1 a2 a3 : Option Value} : q_R_bind S (f + 1) 13 [some (.ref i), a1, a2, a3] st h = (q_R_bind S f 14 [some (.ref i), a1, a2, a3] (.ref i :: st) h) := by rw [q_R_bind, hz_w_at d_R_bind_13]; rfl
theorem e_R_bind_13n {a1 a2 a3 : Option Value} : q_R_bind S (f + 1) 13 [some .null, a1, a2, a3] st h = (q_R_bind S f 14 [some .null, a1, a2, a3] (.null :: st) h) := by rw [q_R_bind, hz_w_at d_R_bind_13]; rfl
theorem d_R_bind_14 : decode c_R_bind 14 = .ok (.getfield 9, 3) := by decide +kernel
theorem e_R_bind_14 : q_R_bind S (f + 1) 14 L (.ref i :: st) h = (hz_rd h i 2 1 fun v => q_R_bind S f 17 L (v :: st) h) := by rw [q_R_bind, hz_w_at d_R_bind_14]; rfl
theorem d_R_bind_17 : decode c_R_bind 17 = .ok (.iload_n 2, 1) := by decide +kernel
theorem e_R_bind_17 {a0 a1 a3 : Option Value} : q_R_bind S (f + 1) 17 [a0, a1, some (.int x), a3] st h = (q_R_bind S f 18 [a0, a1, some (.int x), a3] (.int x :: st) h) := by rw [q_R_bind, hz_w_at d_R_bind_17]; rfl
theorem d_R_bind_18 : decode c_R_bind 18 = .ok (.iaload, 1) := by decide +kernel
theorem e_R_bind_18 : q_R_bind S (f + 1) 18 L (.int x :: .ref i :: st) h = (hz_ea zKT hz_kI h i x fun v => q_R_bind S f 19 L (v :: st) h) := by rw [q_R_bind, hz_w_at d_R_bind_18]; rfl
theorem d_R_bind_19 : decode c_R_bind 19 = .ok (.istore_n 3, 1) := by decide +kernel
theorem e_R_bind_19 {a0 a1 a2 a3 : Option Value} : q_R_bind S (f + 1) 19 [a0, a1, a2, a3] (.int x :: st) h = (q_R_bind S f 20 [a0, a1, a2, some (.int x)] st h) := by rw [q_R_bind, hz_w_at d_R_bind_19]; rfl
theorem d_R_bind_20 : decode c_R_bind 20 = .ok (.aload_n 0, 1) := by decide +kernel
theorem e_R_bind_20 {a1 a2 a3 : Option Value} : q_R_bind S (f + 1) 20 [some (.ref i), a1, a2, a3] st h = (q_R_bind S f 21 [some (.ref i), a1, a2, a3] (.ref i :: st) h) := by rw [q_R_bind, hz_w_at d_R_bind_20]; rfl
theorem e_R_bind_20n {a1 a2 a3 : Option Value} : q_R_bind S (f + 1) 20 [some .null, a1, a2, a3] st h = (q_R_bind S f 21 [some .null, a1, a2, a3] (.null :: st) h) := by rw [q_R_bind, hz_w_at d_R_bind_20]; rfl
theorem d_R_bind_21 : decode c_R_bind 21 = .ok (.getfield 9, 3) := by decide +kernel
theorem e_R_bind_21 : q_R_bind S (f + 1) 21 L (.ref i :: st) h = (hz_rd h i 2 1 fun v => q_R_bind S f 24 L (v :: st) h) := by rw [q_R_bind, hz_w_at d_R_bind_21]; rfl
theorem d_R_bind_24 : decode c_R_bind 24 = .ok (.iload_n 2, 1) := by decide +kernel
theorem e_R_bind_24 {a0 a1 a3 : Option Value} : q_R_bind S (f + 1) 24 [a0, a1, some (.int x), a3] st h = (q_R_bind S f 25 [a0, a1, some (.int x), a3] (.int x :: st) h) := by rw [q_R_bind, hz_w_at d_R_bind_24]; rfl
theorem d_R_bind_25 : decode c_R_bind 25 = .ok (.iload_n 1, 1) := by decide +kernel
theorem e_R_bind_25 {a0 a2 a3 : Option Value} : q_R_bind S (f + 1) 25 [a0, some (.int x), a2, a3] st h = (q_R_bind S f 26 [a0, some (.int x), a2, a3] (.int x :: st) h) := by rw [q_R_bind, hz_w_at d_R_bind_25]; rfl
theorem d_R_bind_26 : decode c_R_bind 26 = .ok (.iastore, 1) := by decide +kernel
theorem e_R_bind_26 : q_R_bind S (f + 1) 26 L (.int y :: .int x :: .ref i :: st) h = (hz_es zKT hz_kI h i x (.int y) fun h => q_R_bind S f 27 L st h) := by rw [q_R_bind, hz_w_at d_R_bind_26]; rfl
theorem d_R_bind_27 : decode c_R_bind 27 = .ok (.iload_n 3, 1) := by decide +kernel
theorem e_R_bind_27 {a0 a1 a2 : Option Value} : q_R_bind S (f + 1) 27 [a0, a1, a2, some (.int x)] st h = (q_R_bind S f 28 [a0, a1, a2, some (.int x)] (.int x :: st) h) := by rw [q_R_bind, hz_w_at d_R_bind_27]; rfl
theorem d_R_bind_28 : decode c_R_bind 28 = .ok (.ireturn, 1) := by decide +kernel
theorem e_R_bind_28 : q_R_bind S (f + 1) 28 L st h = (S 28 L st h) := by rw [q_R_bind, hz_w_at d_R_bind_28]; rfl
end
abbrev q_R_unbind (S : Nat → List (Option Value) → List Value → hz_H → Prop) := hz_w zCl zKT f_R n_R c_R_unbind [] S
section
variable {S : Nat → List (Option Value) → List Value → hz_H → Prop} {f : Nat} {L : List (Option Value)} {st : List Value} {h : hz_H} {x y : Int32} {i j : Nat} {X Y : Int64}
theorem d_R_unbind_0 : decode c_R_unbind 0 = .ok (.aload_n 0, 1) := by decide +kernel
theorem e_R_unbind_0 {a1 a2 : Option Value} : q_R_unbind S (f + 1) 0 [some (.ref i), a1, a2] st h = (q_R_unbind S f 1 [some (.ref i), a1, a2] (.ref i :: st) h) := by rw [q_R_unbind, hz_w_at d_R_unbind_0]; rfl
theorem e_R_unbind_0n {a1 a2 : Option Value} : q_R_unbind S (f + 1) 0 [some .null, a1, a2] st h = (q_R_unbind S f 1 [some .null, a1, a2] (.null :: st) h) := by rw [q_R_unbind, hz_w_at d_R_unbind_0]; rfl
theorem d_R_unbind_1 : decode c_R_unbind 1 = .ok (.getfield 9, 3) := by decide +kernel
theorem e_R_unbind_1 : q_R_unbind S (f + 1) 1 L (.ref i :: st) h = (hz_rd h i 2 1 fun v => q_R_unbind S f 4 L (v :: st) h) := by rw [q_R_unbind, hz_w_at d_R_unbind_1]; rfl
theorem d_R_unbind_4 : decode c_R_unbind 4 = .ok (.aload_n 0, 1) := by decide +kernel
theorem e_R_unbind_4 {a1 a2 : Option Value} : q_R_unbind S (f + 1) 4 [some (.ref i), a1, a2] st h = (q_R_unbind S f 5 [some (.ref i), a1, a2] (.ref i :: st) h) := by rw [q_R_unbind, hz_w_at d_R_unbind_4]; rfl
theorem e_R_unbind_4n {a1 a2 : Option Value} : q_R_unbind S (f + 1) 4 [some .null, a1, a2] st h = (q_R_unbind S f 5 [some .null, a1, a2] (.null :: st) h) := by rw [q_R_unbind, hz_w_at d_R_unbind_4]; rfl
theorem d_R_unbind_5 : decode c_R_unbind 5 = .ok (.getfield 26, 3) := by decide +kernel
theorem e_R_unbind_5 : q_R_unbind S (f + 1) 5 L (.ref i :: st) h = (hz_rd h i 2 0 fun v => q_R_unbind S f 8 L (v :: st) h) := by rw [q_R_unbind, hz_w_at d_R_unbind_5]; rfl
theorem d_R_unbind_8 : decode c_R_unbind 8 = .ok (.getfield 37, 3) := by decide +kernel
theorem e_R_unbind_8 : q_R_unbind S (f + 1) 8 L (.ref i :: st) h = (hz_rd h i 0 0 fun v => q_R_unbind S f 11 L (v :: st) h) := by rw [q_R_unbind, hz_w_at d_R_unbind_8]; rfl
theorem d_R_unbind_11 : decode c_R_unbind 11 = .ok (.iload_n 1, 1) := by decide +kernel
theorem e_R_unbind_11 {a0 a2 : Option Value} : q_R_unbind S (f + 1) 11 [a0, some (.int x), a2] st h = (q_R_unbind S f 12 [a0, some (.int x), a2] (.int x :: st) h) := by rw [q_R_unbind, hz_w_at d_R_unbind_11]; rfl
theorem d_R_unbind_12 : decode c_R_unbind 12 = .ok (.caload, 1) := by decide +kernel
theorem e_R_unbind_12 : q_R_unbind S (f + 1) 12 L (.int x :: .ref i :: st) h = (hz_ea zKT hz_kC h i x fun v => q_R_unbind S f 13 L (v :: st) h) := by rw [q_R_unbind, hz_w_at d_R_unbind_12]; rfl
theorem d_R_unbind_13 : decode c_R_unbind 13 = .ok (.bipush 97, 2) := by decide +kernel
theorem e_R_unbind_13 : q_R_unbind S (f + 1) 13 L st h = (q_R_unbind S f 15 L (.int (hz_n 97) :: st) h) := by rw [q_R_unbind, hz_w_at d_R_unbind_13]; rfl
theorem d_R_unbind_15 : decode c_R_unbind 15 = .ok (.isub, 1) := by decide +kernel
theorem e_R_unbind_15 : q_R_unbind S (f + 1) 15 L (.int y :: .int x :: st) h = (q_R_unbind S f 16 L (.int (x - y) :: st) h) := by rw [q_R_unbind, hz_w_at d_R_unbind_15]; rfl
theorem d_R_unbind_16 : decode c_R_unbind 16 = .ok (.iload_n 2, 1) := by decide +kernel
theorem e_R_unbind_16 {a0 a1 : Option Value} : q_R_unbind S (f + 1) 16 [a0, a1, some (.int x)] st h = (q_R_unbind S f 17 [a0, a1, some (.int x)] (.int x :: st) h) := by rw [q_R_unbind, hz_w_at d_R_unbind_16]; rfl
theorem d_R_unbind_17 : decode c_R_unbind 17 = .ok (.iastore, 1) := by decide +kernel
theorem e_R_unbind_17 : q_R_unbind S (f + 1) 17 L (.int y :: .int x :: .ref i :: st) h = (hz_es zKT hz_kI h i x (.int y) fun h => q_R_unbind S f 18 L st h) := by rw [q_R_unbind, hz_w_at d_R_unbind_17]; rfl
theorem d_R_unbind_18 : decode c_R_unbind 18 = .ok (.return_, 1) := by decide +kernel
theorem e_R_unbind_18 : q_R_unbind S (f + 1) 18 L st h = (S 18 L st h) := by rw [q_R_unbind, hz_w_at d_R_unbind_18]; rfl
end
