/-! Rows of LazyGraphs$Definition: instructions, and what each asks of the state behind it. Printed by wip/genparts.py. -/
abbrev q_D_init (S : Nat → List (Option Value) → List Value → hz_H → Prop) := hz_w zCl zKT f_Di n_D c_D_init [] S
section
variable {S : Nat → List (Option Value) → List Value → hz_H → Prop} {f : Nat} {L : List (Option Value)} {st : List Value} {h : hz_H} {x y : Int32} {i j : Nat} {X Y : Int64}
theorem d_D_init_0 : decode c_D_init 0 = .ok (.aload_n 0, 1) := by decide +kernel
theorem e_D_init_0 {a1 a2 : Option Value} : q_D_init S (f + 1) 0 [some (.ref i), a1, a2] st h = (q_D_init S f 1 [some (.ref i), a1, a2] (.ref i :: st) h) := by rw [q_D_init, hz_w_at d_D_init_0]; rfl
theorem e_D_init_0n {a1 a2 : Option Value} : q_D_init S (f + 1) 0 [some .null, a1, a2] st h = (q_D_init S f 1 [some .null, a1, a2] (.null :: st) h) := by rw [q_D_init, hz_w_at d_D_init_0]; rfl
theorem d_D_init_1 : decode c_D_init 1 = .ok (.invokespecial 1, 3) := by decide +kernel
theorem e_D_init_1 : q_D_init S (f + 1) 1 L st h = (S 1 L st h) := by rw [q_D_init, hz_w_at d_D_init_1]; rfl
theorem d_D_init_4 : decode c_D_init 4 = .ok (.aload_n 0, 1) := by decide +kernel
theorem e_D_init_4 {a1 a2 : Option Value} : q_D_init S (f + 1) 4 [some (.ref i), a1, a2] st h = (q_D_init S f 5 [some (.ref i), a1, a2] (.ref i :: st) h) := by rw [q_D_init, hz_w_at d_D_init_4]; rfl
theorem e_D_init_4n {a1 a2 : Option Value} : q_D_init S (f + 1) 4 [some .null, a1, a2] st h = (q_D_init S f 5 [some .null, a1, a2] (.null :: st) h) := by rw [q_D_init, hz_w_at d_D_init_4]; rfl
theorem d_D_init_5 : decode c_D_init 5 = .ok (.iconst 0, 1) := by decide +kernel
theorem e_D_init_5 : q_D_init S (f + 1) 5 L st h = (q_D_init S f 6 L (.int (hz_n 0) :: st) h) := by rw [q_D_init, hz_w_at d_D_init_5]; rfl
theorem d_D_init_6 : decode c_D_init 6 = .ok (.putfield 7, 3) := by decide +kernel
theorem e_D_init_6 : q_D_init S (f + 1) 6 L (.int x :: .ref i :: st) h = (hz_wr h i 0 3 (.int x) fun h => q_D_init S f 9 L st h) := by rw [q_D_init, hz_w_at d_D_init_6]; rfl
theorem d_D_init_9 : decode c_D_init 9 = .ok (.aload_n 0, 1) := by decide +kernel
theorem e_D_init_9 {a1 a2 : Option Value} : q_D_init S (f + 1) 9 [some (.ref i), a1, a2] st h = (q_D_init S f 10 [some (.ref i), a1, a2] (.ref i :: st) h) := by rw [q_D_init, hz_w_at d_D_init_9]; rfl
theorem e_D_init_9n {a1 a2 : Option Value} : q_D_init S (f + 1) 9 [some .null, a1, a2] st h = (q_D_init S f 10 [some .null, a1, a2] (.null :: st) h) := by rw [q_D_init, hz_w_at d_D_init_9]; rfl
theorem d_D_init_10 : decode c_D_init 10 = .ok (.iload_n 2, 1) := by decide +kernel
theorem e_D_init_10 {a0 a1 : Option Value} : q_D_init S (f + 1) 10 [a0, a1, some (.int x)] st h = (q_D_init S f 11 [a0, a1, some (.int x)] (.int x :: st) h) := by rw [q_D_init, hz_w_at d_D_init_10]; rfl
theorem d_D_init_11 : decode c_D_init 11 = .ok (.newarray .char, 2) := by decide +kernel
theorem e_D_init_11 : q_D_init S (f + 1) 11 L st h = (S 11 L st h) := by rw [q_D_init, hz_w_at d_D_init_11]; rfl
theorem d_D_init_13 : decode c_D_init 13 = .ok (.putfield 13, 3) := by decide +kernel
theorem e_D_init_13 : q_D_init S (f + 1) 13 L (.ref j :: .ref i :: st) h = (hz_wr h i 0 0 (.ref j) fun h => q_D_init S f 16 L st h) := by rw [q_D_init, hz_w_at d_D_init_13]; rfl
theorem d_D_init_16 : decode c_D_init 16 = .ok (.aload_n 0, 1) := by decide +kernel
theorem e_D_init_16 {a1 a2 : Option Value} : q_D_init S (f + 1) 16 [some (.ref i), a1, a2] st h = (q_D_init S f 17 [some (.ref i), a1, a2] (.ref i :: st) h) := by rw [q_D_init, hz_w_at d_D_init_16]; rfl
theorem e_D_init_16n {a1 a2 : Option Value} : q_D_init S (f + 1) 16 [some .null, a1, a2] st h = (q_D_init S f 17 [some .null, a1, a2] (.null :: st) h) := by rw [q_D_init, hz_w_at d_D_init_16]; rfl
theorem d_D_init_17 : decode c_D_init 17 = .ok (.iload_n 2, 1) := by decide +kernel
theorem e_D_init_17 {a0 a1 : Option Value} : q_D_init S (f + 1) 17 [a0, a1, some (.int x)] st h = (q_D_init S f 18 [a0, a1, some (.int x)] (.int x :: st) h) := by rw [q_D_init, hz_w_at d_D_init_17]; rfl
theorem d_D_init_18 : decode c_D_init 18 = .ok (.newarray .int, 2) := by decide +kernel
theorem e_D_init_18 : q_D_init S (f + 1) 18 L st h = (S 18 L st h) := by rw [q_D_init, hz_w_at d_D_init_18]; rfl
theorem d_D_init_20 : decode c_D_init 20 = .ok (.putfield 17, 3) := by decide +kernel
theorem e_D_init_20 : q_D_init S (f + 1) 20 L (.ref j :: .ref i :: st) h = (hz_wr h i 0 1 (.ref j) fun h => q_D_init S f 23 L st h) := by rw [q_D_init, hz_w_at d_D_init_20]; rfl
theorem d_D_init_23 : decode c_D_init 23 = .ok (.aload_n 0, 1) := by decide +kernel
theorem e_D_init_23 {a1 a2 : Option Value} : q_D_init S (f + 1) 23 [some (.ref i), a1, a2] st h = (q_D_init S f 24 [some (.ref i), a1, a2] (.ref i :: st) h) := by rw [q_D_init, hz_w_at d_D_init_23]; rfl
theorem e_D_init_23n {a1 a2 : Option Value} : q_D_init S (f + 1) 23 [some .null, a1, a2] st h = (q_D_init S f 24 [some .null, a1, a2] (.null :: st) h) := by rw [q_D_init, hz_w_at d_D_init_23]; rfl
theorem d_D_init_24 : decode c_D_init 24 = .ok (.iload_n 2, 1) := by decide +kernel
theorem e_D_init_24 {a0 a1 : Option Value} : q_D_init S (f + 1) 24 [a0, a1, some (.int x)] st h = (q_D_init S f 25 [a0, a1, some (.int x)] (.int x :: st) h) := by rw [q_D_init, hz_w_at d_D_init_24]; rfl
theorem d_D_init_25 : decode c_D_init 25 = .ok (.newarray .int, 2) := by decide +kernel
theorem e_D_init_25 : q_D_init S (f + 1) 25 L st h = (S 25 L st h) := by rw [q_D_init, hz_w_at d_D_init_25]; rfl
theorem d_D_init_27 : decode c_D_init 27 = .ok (.putfield 21, 3) := by decide +kernel
theorem e_D_init_27 : q_D_init S (f + 1) 27 L (.ref j :: .ref i :: st) h = (hz_wr h i 0 2 (.ref j) fun h => q_D_init S f 30 L st h) := by rw [q_D_init, hz_w_at d_D_init_27]; rfl
theorem d_D_init_30 : decode c_D_init 30 = .ok (.aload_n 1, 1) := by decide +kernel
theorem e_D_init_30 {a0 a2 : Option Value} : q_D_init S (f + 1) 30 [a0, some (.ref i), a2] st h = (q_D_init S f 31 [a0, some (.ref i), a2] (.ref i :: st) h) := by rw [q_D_init, hz_w_at d_D_init_30]; rfl
theorem e_D_init_30n {a0 a2 : Option Value} : q_D_init S (f + 1) 30 [a0, some .null, a2] st h = (q_D_init S f 31 [a0, some .null, a2] (.null :: st) h) := by rw [q_D_init, hz_w_at d_D_init_30]; rfl
theorem d_D_init_31 : decode c_D_init 31 = .ok (.iconst 0, 1) := by decide +kernel
theorem e_D_init_31 : q_D_init S (f + 1) 31 L st h = (q_D_init S f 32 L (.int (hz_n 0) :: st) h) := by rw [q_D_init, hz_w_at d_D_init_31]; rfl
theorem d_D_init_32 : decode c_D_init 32 = .ok (.aload_n 0, 1) := by decide +kernel
theorem e_D_init_32 {a1 a2 : Option Value} : q_D_init S (f + 1) 32 [some (.ref i), a1, a2] st h = (q_D_init S f 33 [some (.ref i), a1, a2] (.ref i :: st) h) := by rw [q_D_init, hz_w_at d_D_init_32]; rfl
theorem e_D_init_32n {a1 a2 : Option Value} : q_D_init S (f + 1) 32 [some .null, a1, a2] st h = (q_D_init S f 33 [some .null, a1, a2] (.null :: st) h) := by rw [q_D_init, hz_w_at d_D_init_32]; rfl
theorem d_D_init_33 : decode c_D_init 33 = .ok (.getfield 13, 3) := by decide +kernel
theorem e_D_init_33 : q_D_init S (f + 1) 33 L (.ref i :: st) h = (hz_rd h i 0 0 fun v => q_D_init S f 36 L (v :: st) h) := by rw [q_D_init, hz_w_at d_D_init_33]; rfl
theorem d_D_init_36 : decode c_D_init 36 = .ok (.iconst 0, 1) := by decide +kernel
theorem e_D_init_36 : q_D_init S (f + 1) 36 L st h = (q_D_init S f 37 L (.int (hz_n 0) :: st) h) := by rw [q_D_init, hz_w_at d_D_init_36]; rfl
theorem d_D_init_37 : decode c_D_init 37 = .ok (.iload_n 2, 1) := by decide +kernel
theorem e_D_init_37 {a0 a1 : Option Value} : q_D_init S (f + 1) 37 [a0, a1, some (.int x)] st h = (q_D_init S f 38 [a0, a1, some (.int x)] (.int x :: st) h) := by rw [q_D_init, hz_w_at d_D_init_37]; rfl
theorem d_D_init_38 : decode c_D_init 38 = .ok (.invokestatic 24, 3) := by decide +kernel
theorem e_D_init_38 : q_D_init S (f + 1) 38 L st h = (S 38 L st h) := by rw [q_D_init, hz_w_at d_D_init_38]; rfl
theorem d_D_init_41 : decode c_D_init 41 = .ok (.return_, 1) := by decide +kernel
theorem e_D_init_41 : q_D_init S (f + 1) 41 L st h = (S 41 L st h) := by rw [q_D_init, hz_w_at d_D_init_41]; rfl
end
