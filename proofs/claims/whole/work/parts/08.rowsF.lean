/-! Rows of LazyGraphs: instructions, and what each asks of the state behind it. Printed by wip/genparts.py. -/
abbrev q_F_init (S : Nat → List (Option Value) → List Value → hz_H → Prop) := hz_w zCl zKT f_Fi n_F c_F_init [] S
section
variable {S : Nat → List (Option Value) → List Value → hz_H → Prop} {f : Nat} {L : List (Option Value)} {st : List Value} {h : hz_H} {x y : Int32} {i j : Nat} {X Y : Int64}
theorem d_F_init_0 : decode c_F_init 0 = .ok (.aload_n 0, 1) := by decide +kernel
theorem e_F_init_0 : q_F_init S (f + 1) 0 [some (.ref i)] st h = (q_F_init S f 1 [some (.ref i)] (.ref i :: st) h) := by rw [q_F_init, hz_w_at d_F_init_0]; rfl
theorem e_F_init_0n : q_F_init S (f + 1) 0 [some .null] st h = (q_F_init S f 1 [some .null] (.null :: st) h) := by rw [q_F_init, hz_w_at d_F_init_0]; rfl
theorem d_F_init_1 : decode c_F_init 1 = .ok (.invokespecial 1, 3) := by decide +kernel
theorem e_F_init_1 : q_F_init S (f + 1) 1 L st h = (S 1 L st h) := by rw [q_F_init, hz_w_at d_F_init_1]; rfl
theorem d_F_init_4 : decode c_F_init 4 = .ok (.aload_n 0, 1) := by decide +kernel
theorem e_F_init_4 : q_F_init S (f + 1) 4 [some (.ref i)] st h = (q_F_init S f 5 [some (.ref i)] (.ref i :: st) h) := by rw [q_F_init, hz_w_at d_F_init_4]; rfl
theorem e_F_init_4n : q_F_init S (f + 1) 4 [some .null] st h = (q_F_init S f 5 [some .null] (.null :: st) h) := by rw [q_F_init, hz_w_at d_F_init_4]; rfl
theorem d_F_init_5 : decode c_F_init 5 = .ok (.bipush 40, 2) := by decide +kernel
theorem e_F_init_5 : q_F_init S (f + 1) 5 L st h = (q_F_init S f 7 L (.int (hz_n 40) :: st) h) := by rw [q_F_init, hz_w_at d_F_init_5]; rfl
theorem d_F_init_7 : decode c_F_init 7 = .ok (.newarray .char, 2) := by decide +kernel
theorem e_F_init_7 : q_F_init S (f + 1) 7 L st h = (S 7 L st h) := by rw [q_F_init, hz_w_at d_F_init_7]; rfl
theorem d_F_init_9 : decode c_F_init 9 = .ok (.putfield 9, 3) := by decide +kernel
theorem e_F_init_9 : q_F_init S (f + 1) 9 L (.ref j :: .ref i :: st) h = (hz_wr h i 4 0 (.ref j) fun h => q_F_init S f 12 L st h) := by rw [q_F_init, hz_w_at d_F_init_9]; rfl
theorem d_F_init_12 : decode c_F_init 12 = .ok (.aload_n 0, 1) := by decide +kernel
theorem e_F_init_12 : q_F_init S (f + 1) 12 [some (.ref i)] st h = (q_F_init S f 13 [some (.ref i)] (.ref i :: st) h) := by rw [q_F_init, hz_w_at d_F_init_12]; rfl
theorem e_F_init_12n : q_F_init S (f + 1) 12 [some .null] st h = (q_F_init S f 13 [some .null] (.null :: st) h) := by rw [q_F_init, hz_w_at d_F_init_12]; rfl
theorem d_F_init_13 : decode c_F_init 13 = .ok (.iconst 0, 1) := by decide +kernel
theorem e_F_init_13 : q_F_init S (f + 1) 13 L st h = (q_F_init S f 14 L (.int (hz_n 0) :: st) h) := by rw [q_F_init, hz_w_at d_F_init_13]; rfl
theorem d_F_init_14 : decode c_F_init 14 = .ok (.putfield 13, 3) := by decide +kernel
theorem e_F_init_14 : q_F_init S (f + 1) 14 L (.int x :: .ref i :: st) h = (hz_wr h i 4 1 (.int x) fun h => q_F_init S f 17 L st h) := by rw [q_F_init, hz_w_at d_F_init_14]; rfl
theorem d_F_init_17 : decode c_F_init 17 = .ok (.aload_n 0, 1) := by decide +kernel
theorem e_F_init_17 : q_F_init S (f + 1) 17 [some (.ref i)] st h = (q_F_init S f 18 [some (.ref i)] (.ref i :: st) h) := by rw [q_F_init, hz_w_at d_F_init_17]; rfl
theorem e_F_init_17n : q_F_init S (f + 1) 17 [some .null] st h = (q_F_init S f 18 [some .null] (.null :: st) h) := by rw [q_F_init, hz_w_at d_F_init_17]; rfl
theorem d_F_init_18 : decode c_F_init 18 = .ok (.new 17, 3) := by decide +kernel
theorem e_F_init_18 : q_F_init S (f + 1) 18 L st h = (S 18 L st h) := by rw [q_F_init, hz_w_at d_F_init_18]; rfl
theorem d_F_init_21 : decode c_F_init 21 = .ok (.dup, 1) := by decide +kernel
theorem e_F_init_21 : q_F_init S (f + 1) 21 L (.ref i :: st) h = (q_F_init S f 22 L (.ref i :: .ref i :: st) h) := by rw [q_F_init, hz_w_at d_F_init_21]; rfl
theorem e_F_init_21i : q_F_init S (f + 1) 21 L (.int x :: st) h = (q_F_init S f 22 L (.int x :: .int x :: st) h) := by rw [q_F_init, hz_w_at d_F_init_21]; rfl
theorem d_F_init_22 : decode c_F_init 22 = .ok (.invokespecial 19, 3) := by decide +kernel
theorem e_F_init_22 : q_F_init S (f + 1) 22 L st h = (S 22 L st h) := by rw [q_F_init, hz_w_at d_F_init_22]; rfl
theorem d_F_init_25 : decode c_F_init 25 = .ok (.putfield 20, 3) := by decide +kernel
theorem e_F_init_25 : q_F_init S (f + 1) 25 L (.ref j :: .ref i :: st) h = (hz_wr h i 4 2 (.ref j) fun h => q_F_init S f 28 L st h) := by rw [q_F_init, hz_w_at d_F_init_25]; rfl
theorem d_F_init_28 : decode c_F_init 28 = .ok (.aload_n 0, 1) := by decide +kernel
theorem e_F_init_28 : q_F_init S (f + 1) 28 [some (.ref i)] st h = (q_F_init S f 29 [some (.ref i)] (.ref i :: st) h) := by rw [q_F_init, hz_w_at d_F_init_28]; rfl
theorem e_F_init_28n : q_F_init S (f + 1) 28 [some .null] st h = (q_F_init S f 29 [some .null] (.null :: st) h) := by rw [q_F_init, hz_w_at d_F_init_28]; rfl
theorem d_F_init_29 : decode c_F_init 29 = .ok (.new 24, 3) := by decide +kernel
theorem e_F_init_29 : q_F_init S (f + 1) 29 L st h = (S 29 L st h) := by rw [q_F_init, hz_w_at d_F_init_29]; rfl
theorem d_F_init_32 : decode c_F_init 32 = .ok (.dup, 1) := by decide +kernel
theorem e_F_init_32 : q_F_init S (f + 1) 32 L (.ref i :: st) h = (q_F_init S f 33 L (.ref i :: .ref i :: st) h) := by rw [q_F_init, hz_w_at d_F_init_32]; rfl
theorem e_F_init_32i : q_F_init S (f + 1) 32 L (.int x :: st) h = (q_F_init S f 33 L (.int x :: .int x :: st) h) := by rw [q_F_init, hz_w_at d_F_init_32]; rfl
theorem d_F_init_33 : decode c_F_init 33 = .ok (.invokespecial 26, 3) := by decide +kernel
theorem e_F_init_33 : q_F_init S (f + 1) 33 L st h = (S 33 L st h) := by rw [q_F_init, hz_w_at d_F_init_33]; rfl
theorem d_F_init_36 : decode c_F_init 36 = .ok (.putfield 27, 3) := by decide +kernel
theorem e_F_init_36 : q_F_init S (f + 1) 36 L (.ref j :: .ref i :: st) h = (hz_wr h i 4 3 (.ref j) fun h => q_F_init S f 39 L st h) := by rw [q_F_init, hz_w_at d_F_init_36]; rfl
theorem d_F_init_39 : decode c_F_init 39 = .ok (.return_, 1) := by decide +kernel
theorem e_F_init_39 : q_F_init S (f + 1) 39 L st h = (S 39 L st h) := by rw [q_F_init, hz_w_at d_F_init_39]; rfl
end
abbrev q_F_type (S : Nat → List (Option Value) → List Value → hz_H → Prop) := hz_w zCl zKT f_F n_F c_F_type [] S
section
variable {S : Nat → List (Option Value) → List Value → hz_H → Prop} {f : Nat} {L : List (Option Value)} {st : List Value} {h : hz_H} {x y : Int32} {i j : Nat} {X Y : Int64}
theorem d_F_type_0 : decode c_F_type 0 = .ok (.iload_n 1, 1) := by decide +kernel
theorem e_F_type_0 {a0 : Option Value} : q_F_type S (f + 1) 0 [a0, some (.int x)] st h = (q_F_type S f 1 [a0, some (.int x)] (.int x :: st) h) := by rw [q_F_type, hz_w_at d_F_type_0]; rfl
theorem d_F_type_1 : decode c_F_type 1 = .ok (.bipush 32, 2) := by decide +kernel
theorem e_F_type_1 : q_F_type S (f + 1) 1 L st h = (q_F_type S f 3 L (.int (hz_n 32) :: st) h) := by rw [q_F_type, hz_w_at d_F_type_1]; rfl
theorem d_F_type_3 : decode c_F_type 3 = .ok (.if_icmp .lt 18, 3) := by decide +kernel
theorem e_F_type_3 : q_F_type S (f + 1) 3 L (.int y :: .int x :: st) h = ((x.toInt < y.toInt → q_F_type S f 21 L st h) ∧ (¬ (x.toInt < y.toInt) → q_F_type S f 6 L st h)) := by rw [q_F_type, hz_w_at d_F_type_3]; rfl
theorem d_F_type_6 : decode c_F_type 6 = .ok (.iload_n 1, 1) := by decide +kernel
theorem e_F_type_6 {a0 : Option Value} : q_F_type S (f + 1) 6 [a0, some (.int x)] st h = (q_F_type S f 7 [a0, some (.int x)] (.int x :: st) h) := by rw [q_F_type, hz_w_at d_F_type_6]; rfl
theorem d_F_type_7 : decode c_F_type 7 = .ok (.bipush 126, 2) := by decide +kernel
theorem e_F_type_7 : q_F_type S (f + 1) 7 L st h = (q_F_type S f 9 L (.int (hz_n 126) :: st) h) := by rw [q_F_type, hz_w_at d_F_type_7]; rfl
theorem d_F_type_9 : decode c_F_type 9 = .ok (.if_icmp .gt 12, 3) := by decide +kernel
theorem e_F_type_9 : q_F_type S (f + 1) 9 L (.int y :: .int x :: st) h = ((y.toInt < x.toInt → q_F_type S f 21 L st h) ∧ (¬ (y.toInt < x.toInt) → q_F_type S f 12 L st h)) := by rw [q_F_type, hz_w_at d_F_type_9]; rfl
theorem d_F_type_12 : decode c_F_type 12 = .ok (.aload_n 0, 1) := by decide +kernel
theorem e_F_type_12 {a1 : Option Value} : q_F_type S (f + 1) 12 [some (.ref i), a1] st h = (q_F_type S f 13 [some (.ref i), a1] (.ref i :: st) h) := by rw [q_F_type, hz_w_at d_F_type_12]; rfl
theorem e_F_type_12n {a1 : Option Value} : q_F_type S (f + 1) 12 [some .null, a1] st h = (q_F_type S f 13 [some .null, a1] (.null :: st) h) := by rw [q_F_type, hz_w_at d_F_type_12]; rfl
theorem d_F_type_13 : decode c_F_type 13 = .ok (.getfield 13, 3) := by decide +kernel
theorem e_F_type_13 : q_F_type S (f + 1) 13 L (.ref i :: st) h = (hz_rd h i 4 1 fun v => q_F_type S f 16 L (v :: st) h) := by rw [q_F_type, hz_w_at d_F_type_13]; rfl
theorem d_F_type_16 : decode c_F_type 16 = .ok (.bipush 40, 2) := by decide +kernel
theorem e_F_type_16 : q_F_type S (f + 1) 16 L st h = (q_F_type S f 18 L (.int (hz_n 40) :: st) h) := by rw [q_F_type, hz_w_at d_F_type_16]; rfl
theorem d_F_type_18 : decode c_F_type 18 = .ok (.if_icmp .lt 5, 3) := by decide +kernel
theorem e_F_type_18 : q_F_type S (f + 1) 18 L (.int y :: .int x :: st) h = ((x.toInt < y.toInt → q_F_type S f 23 L st h) ∧ (¬ (x.toInt < y.toInt) → q_F_type S f 21 L st h)) := by rw [q_F_type, hz_w_at d_F_type_18]; rfl
theorem d_F_type_21 : decode c_F_type 21 = .ok (.iconst 0, 1) := by decide +kernel
theorem e_F_type_21 : q_F_type S (f + 1) 21 L st h = (q_F_type S f 22 L (.int (hz_n 0) :: st) h) := by rw [q_F_type, hz_w_at d_F_type_21]; rfl
theorem d_F_type_22 : decode c_F_type 22 = .ok (.ireturn, 1) := by decide +kernel
theorem e_F_type_22 : q_F_type S (f + 1) 22 L st h = (S 22 L st h) := by rw [q_F_type, hz_w_at d_F_type_22]; rfl
theorem d_F_type_23 : decode c_F_type 23 = .ok (.aload_n 0, 1) := by decide +kernel
theorem e_F_type_23 {a1 : Option Value} : q_F_type S (f + 1) 23 [some (.ref i), a1] st h = (q_F_type S f 24 [some (.ref i), a1] (.ref i :: st) h) := by rw [q_F_type, hz_w_at d_F_type_23]; rfl
theorem e_F_type_23n {a1 : Option Value} : q_F_type S (f + 1) 23 [some .null, a1] st h = (q_F_type S f 24 [some .null, a1] (.null :: st) h) := by rw [q_F_type, hz_w_at d_F_type_23]; rfl
theorem d_F_type_24 : decode c_F_type 24 = .ok (.getfield 9, 3) := by decide +kernel
theorem e_F_type_24 : q_F_type S (f + 1) 24 L (.ref i :: st) h = (hz_rd h i 4 0 fun v => q_F_type S f 27 L (v :: st) h) := by rw [q_F_type, hz_w_at d_F_type_24]; rfl
theorem d_F_type_27 : decode c_F_type 27 = .ok (.aload_n 0, 1) := by decide +kernel
theorem e_F_type_27 {a1 : Option Value} : q_F_type S (f + 1) 27 [some (.ref i), a1] st h = (q_F_type S f 28 [some (.ref i), a1] (.ref i :: st) h) := by rw [q_F_type, hz_w_at d_F_type_27]; rfl
theorem e_F_type_27n {a1 : Option Value} : q_F_type S (f + 1) 27 [some .null, a1] st h = (q_F_type S f 28 [some .null, a1] (.null :: st) h) := by rw [q_F_type, hz_w_at d_F_type_27]; rfl
theorem d_F_type_28 : decode c_F_type 28 = .ok (.getfield 13, 3) := by decide +kernel
theorem e_F_type_28 : q_F_type S (f + 1) 28 L (.ref i :: st) h = (hz_rd h i 4 1 fun v => q_F_type S f 31 L (v :: st) h) := by rw [q_F_type, hz_w_at d_F_type_28]; rfl
theorem d_F_type_31 : decode c_F_type 31 = .ok (.iload_n 1, 1) := by decide +kernel
theorem e_F_type_31 {a0 : Option Value} : q_F_type S (f + 1) 31 [a0, some (.int x)] st h = (q_F_type S f 32 [a0, some (.int x)] (.int x :: st) h) := by rw [q_F_type, hz_w_at d_F_type_31]; rfl
theorem d_F_type_32 : decode c_F_type 32 = .ok (.castore, 1) := by decide +kernel
theorem e_F_type_32 : q_F_type S (f + 1) 32 L (.int y :: .int x :: .ref i :: st) h = (narrow .char (.int y) = .int y ∧ hz_es zKT hz_kC h i x (.int y) fun h => q_F_type S f 33 L st h) := by rw [q_F_type, hz_w_at d_F_type_32]; rfl
theorem d_F_type_33 : decode c_F_type 33 = .ok (.aload_n 0, 1) := by decide +kernel
theorem e_F_type_33 {a1 : Option Value} : q_F_type S (f + 1) 33 [some (.ref i), a1] st h = (q_F_type S f 34 [some (.ref i), a1] (.ref i :: st) h) := by rw [q_F_type, hz_w_at d_F_type_33]; rfl
theorem e_F_type_33n {a1 : Option Value} : q_F_type S (f + 1) 33 [some .null, a1] st h = (q_F_type S f 34 [some .null, a1] (.null :: st) h) := by rw [q_F_type, hz_w_at d_F_type_33]; rfl
theorem d_F_type_34 : decode c_F_type 34 = .ok (.dup, 1) := by decide +kernel
theorem e_F_type_34 : q_F_type S (f + 1) 34 L (.ref i :: st) h = (q_F_type S f 35 L (.ref i :: .ref i :: st) h) := by rw [q_F_type, hz_w_at d_F_type_34]; rfl
theorem e_F_type_34i : q_F_type S (f + 1) 34 L (.int x :: st) h = (q_F_type S f 35 L (.int x :: .int x :: st) h) := by rw [q_F_type, hz_w_at d_F_type_34]; rfl
theorem d_F_type_35 : decode c_F_type 35 = .ok (.getfield 13, 3) := by decide +kernel
theorem e_F_type_35 : q_F_type S (f + 1) 35 L (.ref i :: st) h = (hz_rd h i 4 1 fun v => q_F_type S f 38 L (v :: st) h) := by rw [q_F_type, hz_w_at d_F_type_35]; rfl
theorem d_F_type_38 : decode c_F_type 38 = .ok (.iconst 1, 1) := by decide +kernel
theorem e_F_type_38 : q_F_type S (f + 1) 38 L st h = (q_F_type S f 39 L (.int (hz_n 1) :: st) h) := by rw [q_F_type, hz_w_at d_F_type_38]; rfl
theorem d_F_type_39 : decode c_F_type 39 = .ok (.iadd, 1) := by decide +kernel
theorem e_F_type_39 : q_F_type S (f + 1) 39 L (.int y :: .int x :: st) h = (q_F_type S f 40 L (.int (x + y) :: st) h) := by rw [q_F_type, hz_w_at d_F_type_39]; rfl
theorem d_F_type_40 : decode c_F_type 40 = .ok (.putfield 13, 3) := by decide +kernel
theorem e_F_type_40 : q_F_type S (f + 1) 40 L (.int x :: .ref i :: st) h = (hz_wr h i 4 1 (.int x) fun h => q_F_type S f 43 L st h) := by rw [q_F_type, hz_w_at d_F_type_40]; rfl
theorem d_F_type_43 : decode c_F_type 43 = .ok (.iconst 1, 1) := by decide +kernel
theorem e_F_type_43 : q_F_type S (f + 1) 43 L st h = (q_F_type S f 44 L (.int (hz_n 1) :: st) h) := by rw [q_F_type, hz_w_at d_F_type_43]; rfl
theorem d_F_type_44 : decode c_F_type 44 = .ok (.ireturn, 1) := by decide +kernel
theorem e_F_type_44 : q_F_type S (f + 1) 44 L st h = (S 44 L st h) := by rw [q_F_type, hz_w_at d_F_type_44]; rfl
end
abbrev q_F_wipe (S : Nat → List (Option Value) → List Value → hz_H → Prop) := hz_w zCl zKT f_F n_F c_F_wipe [] S
section
variable {S : Nat → List (Option Value) → List Value → hz_H → Prop} {f : Nat} {L : List (Option Value)} {st : List Value} {h : hz_H} {x y : Int32} {i j : Nat} {X Y : Int64}
theorem d_F_wipe_0 : decode c_F_wipe 0 = .ok (.aload_n 0, 1) := by decide +kernel
theorem e_F_wipe_0 {a1 : Option Value} : q_F_wipe S (f + 1) 0 [some (.ref i), a1] st h = (q_F_wipe S f 1 [some (.ref i), a1] (.ref i :: st) h) := by rw [q_F_wipe, hz_w_at d_F_wipe_0]; rfl
theorem e_F_wipe_0n {a1 : Option Value} : q_F_wipe S (f + 1) 0 [some .null, a1] st h = (q_F_wipe S f 1 [some .null, a1] (.null :: st) h) := by rw [q_F_wipe, hz_w_at d_F_wipe_0]; rfl
theorem d_F_wipe_1 : decode c_F_wipe 1 = .ok (.getfield 13, 3) := by decide +kernel
theorem e_F_wipe_1 : q_F_wipe S (f + 1) 1 L (.ref i :: st) h = (hz_rd h i 4 1 fun v => q_F_wipe S f 4 L (v :: st) h) := by rw [q_F_wipe, hz_w_at d_F_wipe_1]; rfl
theorem d_F_wipe_4 : decode c_F_wipe 4 = .ok (.istore_n 1, 1) := by decide +kernel
theorem e_F_wipe_4 {a0 a1 : Option Value} : q_F_wipe S (f + 1) 4 [a0, a1] (.int x :: st) h = (q_F_wipe S f 5 [a0, some (.int x)] st h) := by rw [q_F_wipe, hz_w_at d_F_wipe_4]; rfl
theorem d_F_wipe_5 : decode c_F_wipe 5 = .ok (.aload_n 0, 1) := by decide +kernel
theorem e_F_wipe_5 {a1 : Option Value} : q_F_wipe S (f + 1) 5 [some (.ref i), a1] st h = (q_F_wipe S f 6 [some (.ref i), a1] (.ref i :: st) h) := by rw [q_F_wipe, hz_w_at d_F_wipe_5]; rfl
theorem e_F_wipe_5n {a1 : Option Value} : q_F_wipe S (f + 1) 5 [some .null, a1] st h = (q_F_wipe S f 6 [some .null, a1] (.null :: st) h) := by rw [q_F_wipe, hz_w_at d_F_wipe_5]; rfl
theorem d_F_wipe_6 : decode c_F_wipe 6 = .ok (.iconst 0, 1) := by decide +kernel
theorem e_F_wipe_6 : q_F_wipe S (f + 1) 6 L st h = (q_F_wipe S f 7 L (.int (hz_n 0) :: st) h) := by rw [q_F_wipe, hz_w_at d_F_wipe_6]; rfl
theorem d_F_wipe_7 : decode c_F_wipe 7 = .ok (.putfield 13, 3) := by decide +kernel
theorem e_F_wipe_7 : q_F_wipe S (f + 1) 7 L (.int x :: .ref i :: st) h = (hz_wr h i 4 1 (.int x) fun h => q_F_wipe S f 10 L st h) := by rw [q_F_wipe, hz_w_at d_F_wipe_7]; rfl
theorem d_F_wipe_10 : decode c_F_wipe 10 = .ok (.iload_n 1, 1) := by decide +kernel
theorem e_F_wipe_10 {a0 : Option Value} : q_F_wipe S (f + 1) 10 [a0, some (.int x)] st h = (q_F_wipe S f 11 [a0, some (.int x)] (.int x :: st) h) := by rw [q_F_wipe, hz_w_at d_F_wipe_10]; rfl
theorem d_F_wipe_11 : decode c_F_wipe 11 = .ok (.ireturn, 1) := by decide +kernel
theorem e_F_wipe_11 : q_F_wipe S (f + 1) 11 L st h = (S 11 L st h) := by rw [q_F_wipe, hz_w_at d_F_wipe_11]; rfl
end
abbrev q_F_define (S : Nat → List (Option Value) → List Value → hz_H → Prop) := hz_w zCl zKT f_F n_F c_F_define [] S
section
variable {S : Nat → List (Option Value) → List Value → hz_H → Prop} {f : Nat} {L : List (Option Value)} {st : List Value} {h : hz_H} {x y : Int32} {i j : Nat} {X Y : Int64}
theorem d_F_define_0 : decode c_F_define 0 = .ok (.iload_n 1, 1) := by decide +kernel
theorem e_F_define_0 {a0 a2 a3 a4 : Option Value} : q_F_define S (f + 1) 0 [a0, some (.int x), a2, a3, a4] st h = (q_F_define S f 1 [a0, some (.int x), a2, a3, a4] (.int x :: st) h) := by rw [q_F_define, hz_w_at d_F_define_0]; rfl
theorem d_F_define_1 : decode c_F_define 1 = .ok (.invokestatic 31, 3) := by decide +kernel
theorem e_F_define_1 : q_F_define S (f + 1) 1 L st h = (S 1 L st h) := by rw [q_F_define, hz_w_at d_F_define_1]; rfl
theorem d_F_define_4 : decode c_F_define 4 = .ok (.istore_n 2, 1) := by decide +kernel
theorem e_F_define_4 {a0 a1 a2 a3 a4 : Option Value} : q_F_define S (f + 1) 4 [a0, a1, a2, a3, a4] (.int x :: st) h = (q_F_define S f 5 [a0, a1, some (.int x), a3, a4] st h) := by rw [q_F_define, hz_w_at d_F_define_4]; rfl
theorem d_F_define_5 : decode c_F_define 5 = .ok (.new 35, 3) := by decide +kernel
theorem e_F_define_5 : q_F_define S (f + 1) 5 L st h = (S 5 L st h) := by rw [q_F_define, hz_w_at d_F_define_5]; rfl
theorem d_F_define_8 : decode c_F_define 8 = .ok (.dup, 1) := by decide +kernel
theorem e_F_define_8 : q_F_define S (f + 1) 8 L (.ref i :: st) h = (q_F_define S f 9 L (.ref i :: .ref i :: st) h) := by rw [q_F_define, hz_w_at d_F_define_8]; rfl
theorem e_F_define_8i : q_F_define S (f + 1) 8 L (.int x :: st) h = (q_F_define S f 9 L (.int x :: .int x :: st) h) := by rw [q_F_define, hz_w_at d_F_define_8]; rfl
theorem d_F_define_9 : decode c_F_define 9 = .ok (.aload_n 0, 1) := by decide +kernel
theorem e_F_define_9 {a1 a2 a3 a4 : Option Value} : q_F_define S (f + 1) 9 [some (.ref i), a1, a2, a3, a4] st h = (q_F_define S f 10 [some (.ref i), a1, a2, a3, a4] (.ref i :: st) h) := by rw [q_F_define, hz_w_at d_F_define_9]; rfl
theorem e_F_define_9n {a1 a2 a3 a4 : Option Value} : q_F_define S (f + 1) 9 [some .null, a1, a2, a3, a4] st h = (q_F_define S f 10 [some .null, a1, a2, a3, a4] (.null :: st) h) := by rw [q_F_define, hz_w_at d_F_define_9]; rfl
theorem d_F_define_10 : decode c_F_define 10 = .ok (.getfield 9, 3) := by decide +kernel
theorem e_F_define_10 : q_F_define S (f + 1) 10 L (.ref i :: st) h = (hz_rd h i 4 0 fun v => q_F_define S f 13 L (v :: st) h) := by rw [q_F_define, hz_w_at d_F_define_10]; rfl
theorem d_F_define_13 : decode c_F_define 13 = .ok (.aload_n 0, 1) := by decide +kernel
theorem e_F_define_13 {a1 a2 a3 a4 : Option Value} : q_F_define S (f + 1) 13 [some (.ref i), a1, a2, a3, a4] st h = (q_F_define S f 14 [some (.ref i), a1, a2, a3, a4] (.ref i :: st) h) := by rw [q_F_define, hz_w_at d_F_define_13]; rfl
theorem e_F_define_13n {a1 a2 a3 a4 : Option Value} : q_F_define S (f + 1) 13 [some .null, a1, a2, a3, a4] st h = (q_F_define S f 14 [some .null, a1, a2, a3, a4] (.null :: st) h) := by rw [q_F_define, hz_w_at d_F_define_13]; rfl
theorem d_F_define_14 : decode c_F_define 14 = .ok (.getfield 13, 3) := by decide +kernel
theorem e_F_define_14 : q_F_define S (f + 1) 14 L (.ref i :: st) h = (hz_rd h i 4 1 fun v => q_F_define S f 17 L (v :: st) h) := by rw [q_F_define, hz_w_at d_F_define_14]; rfl
theorem d_F_define_17 : decode c_F_define 17 = .ok (.invokespecial 37, 3) := by decide +kernel
theorem e_F_define_17 : q_F_define S (f + 1) 17 L st h = (S 17 L st h) := by rw [q_F_define, hz_w_at d_F_define_17]; rfl
theorem d_F_define_20 : decode c_F_define 20 = .ok (.astore_n 3, 1) := by decide +kernel
theorem e_F_define_20 {a0 a1 a2 a3 a4 : Option Value} : q_F_define S (f + 1) 20 [a0, a1, a2, a3, a4] (.ref i :: st) h = (q_F_define S f 21 [a0, a1, a2, some (.ref i), a4] st h) := by rw [q_F_define, hz_w_at d_F_define_20]; rfl
theorem e_F_define_20n {a0 a1 a2 a3 a4 : Option Value} : q_F_define S (f + 1) 20 [a0, a1, a2, a3, a4] (.null :: st) h = (q_F_define S f 21 [a0, a1, a2, some .null, a4] st h) := by rw [q_F_define, hz_w_at d_F_define_20]; rfl
theorem d_F_define_21 : decode c_F_define 21 = .ok (.aload_n 0, 1) := by decide +kernel
theorem e_F_define_21 {a1 a2 a3 a4 : Option Value} : q_F_define S (f + 1) 21 [some (.ref i), a1, a2, a3, a4] st h = (q_F_define S f 22 [some (.ref i), a1, a2, a3, a4] (.ref i :: st) h) := by rw [q_F_define, hz_w_at d_F_define_21]; rfl
theorem e_F_define_21n {a1 a2 a3 a4 : Option Value} : q_F_define S (f + 1) 21 [some .null, a1, a2, a3, a4] st h = (q_F_define S f 22 [some .null, a1, a2, a3, a4] (.null :: st) h) := by rw [q_F_define, hz_w_at d_F_define_21]; rfl
theorem d_F_define_22 : decode c_F_define 22 = .ok (.iconst 0, 1) := by decide +kernel
theorem e_F_define_22 : q_F_define S (f + 1) 22 L st h = (q_F_define S f 23 L (.int (hz_n 0) :: st) h) := by rw [q_F_define, hz_w_at d_F_define_22]; rfl
theorem d_F_define_23 : decode c_F_define 23 = .ok (.putfield 13, 3) := by decide +kernel
theorem e_F_define_23 : q_F_define S (f + 1) 23 L (.int x :: .ref i :: st) h = (hz_wr h i 4 1 (.int x) fun h => q_F_define S f 26 L st h) := by rw [q_F_define, hz_w_at d_F_define_23]; rfl
theorem d_F_define_26 : decode c_F_define 26 = .ok (.new 40, 3) := by decide +kernel
theorem e_F_define_26 : q_F_define S (f + 1) 26 L st h = (S 26 L st h) := by rw [q_F_define, hz_w_at d_F_define_26]; rfl
theorem d_F_define_29 : decode c_F_define 29 = .ok (.dup, 1) := by decide +kernel
theorem e_F_define_29 : q_F_define S (f + 1) 29 L (.ref i :: st) h = (q_F_define S f 30 L (.ref i :: .ref i :: st) h) := by rw [q_F_define, hz_w_at d_F_define_29]; rfl
theorem e_F_define_29i : q_F_define S (f + 1) 29 L (.int x :: st) h = (q_F_define S f 30 L (.int x :: .int x :: st) h) := by rw [q_F_define, hz_w_at d_F_define_29]; rfl
theorem d_F_define_30 : decode c_F_define 30 = .ok (.aload_n 3, 1) := by decide +kernel
theorem e_F_define_30 {a0 a1 a2 a4 : Option Value} : q_F_define S (f + 1) 30 [a0, a1, a2, some (.ref i), a4] st h = (q_F_define S f 31 [a0, a1, a2, some (.ref i), a4] (.ref i :: st) h) := by rw [q_F_define, hz_w_at d_F_define_30]; rfl
theorem e_F_define_30n {a0 a1 a2 a4 : Option Value} : q_F_define S (f + 1) 30 [a0, a1, a2, some .null, a4] st h = (q_F_define S f 31 [a0, a1, a2, some .null, a4] (.null :: st) h) := by rw [q_F_define, hz_w_at d_F_define_30]; rfl
theorem d_F_define_31 : decode c_F_define 31 = .ok (.invokespecial 42, 3) := by decide +kernel
theorem e_F_define_31 : q_F_define S (f + 1) 31 L st h = (S 31 L st h) := by rw [q_F_define, hz_w_at d_F_define_31]; rfl
theorem d_F_define_34 : decode c_F_define 34 = .ok (.invokevirtual 45, 3) := by decide +kernel
theorem e_F_define_34 : q_F_define S (f + 1) 34 L st h = (S 34 L st h) := by rw [q_F_define, hz_w_at d_F_define_34]; rfl
theorem d_F_define_37 : decode c_F_define 37 = .ok (.istore 4, 2) := by decide +kernel
theorem e_F_define_37 {a0 a1 a2 a3 a4 : Option Value} : q_F_define S (f + 1) 37 [a0, a1, a2, a3, a4] (.int x :: st) h = (q_F_define S f 39 [a0, a1, a2, a3, some (.int x)] st h) := by rw [q_F_define, hz_w_at d_F_define_37]; rfl
theorem d_F_define_39 : decode c_F_define 39 = .ok (.iload 4, 2) := by decide +kernel
theorem e_F_define_39 {a0 a1 a2 a3 : Option Value} : q_F_define S (f + 1) 39 [a0, a1, a2, a3, some (.int x)] st h = (q_F_define S f 41 [a0, a1, a2, a3, some (.int x)] (.int x :: st) h) := by rw [q_F_define, hz_w_at d_F_define_39]; rfl
theorem d_F_define_41 : decode c_F_define 41 = .ok (.ifCond .lt 13, 3) := by decide +kernel
theorem e_F_define_41 : q_F_define S (f + 1) 41 L (.int x :: st) h = ((x.toInt < 0 → q_F_define S f 54 L st h) ∧ (¬ (x.toInt < 0) → q_F_define S f 44 L st h)) := by rw [q_F_define, hz_w_at d_F_define_41]; rfl
theorem d_F_define_44 : decode c_F_define 44 = .ok (.aload_n 0, 1) := by decide +kernel
theorem e_F_define_44 {a1 a2 a3 a4 : Option Value} : q_F_define S (f + 1) 44 [some (.ref i), a1, a2, a3, a4] st h = (q_F_define S f 45 [some (.ref i), a1, a2, a3, a4] (.ref i :: st) h) := by rw [q_F_define, hz_w_at d_F_define_44]; rfl
theorem e_F_define_44n {a1 a2 a3 a4 : Option Value} : q_F_define S (f + 1) 44 [some .null, a1, a2, a3, a4] st h = (q_F_define S f 45 [some .null, a1, a2, a3, a4] (.null :: st) h) := by rw [q_F_define, hz_w_at d_F_define_44]; rfl
theorem d_F_define_45 : decode c_F_define 45 = .ok (.getfield 20, 3) := by decide +kernel
theorem e_F_define_45 : q_F_define S (f + 1) 45 L (.ref i :: st) h = (hz_rd h i 4 2 fun v => q_F_define S f 48 L (v :: st) h) := by rw [q_F_define, hz_w_at d_F_define_45]; rfl
theorem d_F_define_48 : decode c_F_define 48 = .ok (.getfield 49, 3) := by decide +kernel
theorem e_F_define_48 : q_F_define S (f + 1) 48 L (.ref i :: st) h = (hz_rd h i 1 0 fun v => q_F_define S f 51 L (v :: st) h) := by rw [q_F_define, hz_w_at d_F_define_48]; rfl
theorem d_F_define_51 : decode c_F_define 51 = .ok (.iload_n 2, 1) := by decide +kernel
theorem e_F_define_51 {a0 a1 a3 a4 : Option Value} : q_F_define S (f + 1) 51 [a0, a1, some (.int x), a3, a4] st h = (q_F_define S f 52 [a0, a1, some (.int x), a3, a4] (.int x :: st) h) := by rw [q_F_define, hz_w_at d_F_define_51]; rfl
theorem d_F_define_52 : decode c_F_define 52 = .ok (.aload_n 3, 1) := by decide +kernel
theorem e_F_define_52 {a0 a1 a2 a4 : Option Value} : q_F_define S (f + 1) 52 [a0, a1, a2, some (.ref i), a4] st h = (q_F_define S f 53 [a0, a1, a2, some (.ref i), a4] (.ref i :: st) h) := by rw [q_F_define, hz_w_at d_F_define_52]; rfl
theorem e_F_define_52n {a0 a1 a2 a4 : Option Value} : q_F_define S (f + 1) 52 [a0, a1, a2, some .null, a4] st h = (q_F_define S f 53 [a0, a1, a2, some .null, a4] (.null :: st) h) := by rw [q_F_define, hz_w_at d_F_define_52]; rfl
theorem d_F_define_53 : decode c_F_define 53 = .ok (.aastore, 1) := by decide +kernel
theorem e_F_define_53 : q_F_define S (f + 1) 53 L st h = (S 53 L st h) := by rw [q_F_define, hz_w_at d_F_define_53]; rfl
theorem d_F_define_54 : decode c_F_define 54 = .ok (.iload 4, 2) := by decide +kernel
theorem e_F_define_54 {a0 a1 a2 a3 : Option Value} : q_F_define S (f + 1) 54 [a0, a1, a2, a3, some (.int x)] st h = (q_F_define S f 56 [a0, a1, a2, a3, some (.int x)] (.int x :: st) h) := by rw [q_F_define, hz_w_at d_F_define_54]; rfl
theorem d_F_define_56 : decode c_F_define 56 = .ok (.ireturn, 1) := by decide +kernel
theorem e_F_define_56 : q_F_define S (f + 1) 56 L st h = (S 56 L st h) := by rw [q_F_define, hz_w_at d_F_define_56]; rfl
end
abbrev q_F_forget (S : Nat → List (Option Value) → List Value → hz_H → Prop) := hz_w zCl zKT f_F n_F c_F_forget [] S
section
variable {S : Nat → List (Option Value) → List Value → hz_H → Prop} {f : Nat} {L : List (Option Value)} {st : List Value} {h : hz_H} {x y : Int32} {i j : Nat} {X Y : Int64}
theorem d_F_forget_0 : decode c_F_forget 0 = .ok (.iload_n 1, 1) := by decide +kernel
theorem e_F_forget_0 {a0 a2 : Option Value} : q_F_forget S (f + 1) 0 [a0, some (.int x), a2] st h = (q_F_forget S f 1 [a0, some (.int x), a2] (.int x :: st) h) := by rw [q_F_forget, hz_w_at d_F_forget_0]; rfl
theorem d_F_forget_1 : decode c_F_forget 1 = .ok (.invokestatic 31, 3) := by decide +kernel
theorem e_F_forget_1 : q_F_forget S (f + 1) 1 L st h = (S 1 L st h) := by rw [q_F_forget, hz_w_at d_F_forget_1]; rfl
theorem d_F_forget_4 : decode c_F_forget 4 = .ok (.istore_n 2, 1) := by decide +kernel
theorem e_F_forget_4 {a0 a1 a2 : Option Value} : q_F_forget S (f + 1) 4 [a0, a1, a2] (.int x :: st) h = (q_F_forget S f 5 [a0, a1, some (.int x)] st h) := by rw [q_F_forget, hz_w_at d_F_forget_4]; rfl
theorem d_F_forget_5 : decode c_F_forget 5 = .ok (.aload_n 0, 1) := by decide +kernel
theorem e_F_forget_5 {a1 a2 : Option Value} : q_F_forget S (f + 1) 5 [some (.ref i), a1, a2] st h = (q_F_forget S f 6 [some (.ref i), a1, a2] (.ref i :: st) h) := by rw [q_F_forget, hz_w_at d_F_forget_5]; rfl
theorem e_F_forget_5n {a1 a2 : Option Value} : q_F_forget S (f + 1) 5 [some .null, a1, a2] st h = (q_F_forget S f 6 [some .null, a1, a2] (.null :: st) h) := by rw [q_F_forget, hz_w_at d_F_forget_5]; rfl
theorem d_F_forget_6 : decode c_F_forget 6 = .ok (.iload_n 2, 1) := by decide +kernel
theorem e_F_forget_6 {a0 a1 : Option Value} : q_F_forget S (f + 1) 6 [a0, a1, some (.int x)] st h = (q_F_forget S f 7 [a0, a1, some (.int x)] (.int x :: st) h) := by rw [q_F_forget, hz_w_at d_F_forget_6]; rfl
theorem d_F_forget_7 : decode c_F_forget 7 = .ok (.invokevirtual 53, 3) := by decide +kernel
theorem e_F_forget_7 : q_F_forget S (f + 1) 7 L st h = (S 7 L st h) := by rw [q_F_forget, hz_w_at d_F_forget_7]; rfl
theorem d_F_forget_10 : decode c_F_forget 10 = .ok (.aload_n 0, 1) := by decide +kernel
theorem e_F_forget_10 {a1 a2 : Option Value} : q_F_forget S (f + 1) 10 [some (.ref i), a1, a2] st h = (q_F_forget S f 11 [some (.ref i), a1, a2] (.ref i :: st) h) := by rw [q_F_forget, hz_w_at d_F_forget_10]; rfl
theorem e_F_forget_10n {a1 a2 : Option Value} : q_F_forget S (f + 1) 10 [some .null, a1, a2] st h = (q_F_forget S f 11 [some .null, a1, a2] (.null :: st) h) := by rw [q_F_forget, hz_w_at d_F_forget_10]; rfl
theorem d_F_forget_11 : decode c_F_forget 11 = .ok (.getfield 20, 3) := by decide +kernel
theorem e_F_forget_11 : q_F_forget S (f + 1) 11 L (.ref i :: st) h = (hz_rd h i 4 2 fun v => q_F_forget S f 14 L (v :: st) h) := by rw [q_F_forget, hz_w_at d_F_forget_11]; rfl
theorem d_F_forget_14 : decode c_F_forget 14 = .ok (.getfield 49, 3) := by decide +kernel
theorem e_F_forget_14 : q_F_forget S (f + 1) 14 L (.ref i :: st) h = (hz_rd h i 1 0 fun v => q_F_forget S f 17 L (v :: st) h) := by rw [q_F_forget, hz_w_at d_F_forget_14]; rfl
theorem d_F_forget_17 : decode c_F_forget 17 = .ok (.iload_n 2, 1) := by decide +kernel
theorem e_F_forget_17 {a0 a1 : Option Value} : q_F_forget S (f + 1) 17 [a0, a1, some (.int x)] st h = (q_F_forget S f 18 [a0, a1, some (.int x)] (.int x :: st) h) := by rw [q_F_forget, hz_w_at d_F_forget_17]; rfl
theorem d_F_forget_18 : decode c_F_forget 18 = .ok (.aconst_null, 1) := by decide +kernel
theorem e_F_forget_18 : q_F_forget S (f + 1) 18 L st h = (q_F_forget S f 19 L (.null :: st) h) := by rw [q_F_forget, hz_w_at d_F_forget_18]; rfl
theorem d_F_forget_19 : decode c_F_forget 19 = .ok (.aastore, 1) := by decide +kernel
theorem e_F_forget_19 : q_F_forget S (f + 1) 19 L st h = (S 19 L st h) := by rw [q_F_forget, hz_w_at d_F_forget_19]; rfl
theorem d_F_forget_20 : decode c_F_forget 20 = .ok (.return_, 1) := by decide +kernel
theorem e_F_forget_20 : q_F_forget S (f + 1) 20 L st h = (S 20 L st h) := by rw [q_F_forget, hz_w_at d_F_forget_20]; rfl
end
abbrev q_F_parameters (S : Nat → List (Option Value) → List Value → hz_H → Prop) := hz_w zCl zKT f_F n_F c_F_parameters [] S
section
variable {S : Nat → List (Option Value) → List Value → hz_H → Prop} {f : Nat} {L : List (Option Value)} {st : List Value} {h : hz_H} {x y : Int32} {i j : Nat} {X Y : Int64}
theorem d_F_parameters_0 : decode c_F_parameters 0 = .ok (.iload_n 1, 1) := by decide +kernel
theorem e_F_parameters_0 {a0 : Option Value} : q_F_parameters S (f + 1) 0 [a0, some (.int x)] st h = (q_F_parameters S f 1 [a0, some (.int x)] (.int x :: st) h) := by rw [q_F_parameters, hz_w_at d_F_parameters_0]; rfl
theorem d_F_parameters_1 : decode c_F_parameters 1 = .ok (.invokestatic 57, 3) := by decide +kernel
theorem e_F_parameters_1 : q_F_parameters S (f + 1) 1 L st h = (S 1 L st h) := by rw [q_F_parameters, hz_w_at d_F_parameters_1]; rfl
theorem d_F_parameters_4 : decode c_F_parameters 4 = .ok (.ifCond .eq 17, 3) := by decide +kernel
theorem e_F_parameters_4 : q_F_parameters S (f + 1) 4 L (.int x :: st) h = ((x.toInt = 0 → q_F_parameters S f 21 L st h) ∧ (¬ (x.toInt = 0) → q_F_parameters S f 7 L st h)) := by rw [q_F_parameters, hz_w_at d_F_parameters_4]; rfl
theorem d_F_parameters_7 : decode c_F_parameters 7 = .ok (.aload_n 0, 1) := by decide +kernel
theorem e_F_parameters_7 {a1 : Option Value} : q_F_parameters S (f + 1) 7 [some (.ref i), a1] st h = (q_F_parameters S f 8 [some (.ref i), a1] (.ref i :: st) h) := by rw [q_F_parameters, hz_w_at d_F_parameters_7]; rfl
theorem e_F_parameters_7n {a1 : Option Value} : q_F_parameters S (f + 1) 7 [some .null, a1] st h = (q_F_parameters S f 8 [some .null, a1] (.null :: st) h) := by rw [q_F_parameters, hz_w_at d_F_parameters_7]; rfl
theorem d_F_parameters_8 : decode c_F_parameters 8 = .ok (.getfield 20, 3) := by decide +kernel
theorem e_F_parameters_8 : q_F_parameters S (f + 1) 8 L (.ref i :: st) h = (hz_rd h i 4 2 fun v => q_F_parameters S f 11 L (v :: st) h) := by rw [q_F_parameters, hz_w_at d_F_parameters_8]; rfl
theorem d_F_parameters_11 : decode c_F_parameters 11 = .ok (.iload_n 1, 1) := by decide +kernel
theorem e_F_parameters_11 {a0 : Option Value} : q_F_parameters S (f + 1) 11 [a0, some (.int x)] st h = (q_F_parameters S f 12 [a0, some (.int x)] (.int x :: st) h) := by rw [q_F_parameters, hz_w_at d_F_parameters_11]; rfl
theorem d_F_parameters_12 : decode c_F_parameters 12 = .ok (.bipush 65, 2) := by decide +kernel
theorem e_F_parameters_12 : q_F_parameters S (f + 1) 12 L st h = (q_F_parameters S f 14 L (.int (hz_n 65) :: st) h) := by rw [q_F_parameters, hz_w_at d_F_parameters_12]; rfl
theorem d_F_parameters_14 : decode c_F_parameters 14 = .ok (.isub, 1) := by decide +kernel
theorem e_F_parameters_14 : q_F_parameters S (f + 1) 14 L (.int y :: .int x :: st) h = (q_F_parameters S f 15 L (.int (x - y) :: st) h) := by rw [q_F_parameters, hz_w_at d_F_parameters_14]; rfl
theorem d_F_parameters_15 : decode c_F_parameters 15 = .ok (.invokevirtual 61, 3) := by decide +kernel
theorem e_F_parameters_15 : q_F_parameters S (f + 1) 15 L st h = (S 15 L st h) := by rw [q_F_parameters, hz_w_at d_F_parameters_15]; rfl
theorem d_F_parameters_18 : decode c_F_parameters 18 = .ok (.goto 4, 3) := by decide +kernel
theorem e_F_parameters_18 : q_F_parameters S (f + 1) 18 L st h = (q_F_parameters S f 22 L st h) := by rw [q_F_parameters, hz_w_at d_F_parameters_18]; rfl
theorem d_F_parameters_21 : decode c_F_parameters 21 = .ok (.iconst (-1), 1) := by decide +kernel
theorem e_F_parameters_21 : q_F_parameters S (f + 1) 21 L st h = (q_F_parameters S f 22 L (.int (hz_n (-1)) :: st) h) := by rw [q_F_parameters, hz_w_at d_F_parameters_21]; rfl
theorem d_F_parameters_22 : decode c_F_parameters 22 = .ok (.ireturn, 1) := by decide +kernel
theorem e_F_parameters_22 : q_F_parameters S (f + 1) 22 L st h = (S 22 L st h) := by rw [q_F_parameters, hz_w_at d_F_parameters_22]; rfl
end
abbrev q_F_run (S : Nat → List (Option Value) → List Value → hz_H → Prop) := hz_w zCl zKT f_F n_F c_F_run [] S
section
variable {S : Nat → List (Option Value) → List Value → hz_H → Prop} {f : Nat} {L : List (Option Value)} {st : List Value} {h : hz_H} {x y : Int32} {i j : Nat} {X Y : Int64}
theorem d_F_run_0 : decode c_F_run 0 = .ok (.iload_n 1, 1) := by decide +kernel
theorem e_F_run_0 {a0 a2 a3 : Option Value} : q_F_run S (f + 1) 0 [a0, some (.int x), a2, a3] st h = (q_F_run S f 1 [a0, some (.int x), a2, a3] (.int x :: st) h) := by rw [q_F_run, hz_w_at d_F_run_0]; rfl
theorem d_F_run_1 : decode c_F_run 1 = .ok (.invokestatic 31, 3) := by decide +kernel
theorem e_F_run_1 : q_F_run S (f + 1) 1 L st h = (S 1 L st h) := by rw [q_F_run, hz_w_at d_F_run_1]; rfl
theorem d_F_run_4 : decode c_F_run 4 = .ok (.istore_n 3, 1) := by decide +kernel
theorem e_F_run_4 {a0 a1 a2 a3 : Option Value} : q_F_run S (f + 1) 4 [a0, a1, a2, a3] (.int x :: st) h = (q_F_run S f 5 [a0, a1, a2, some (.int x)] st h) := by rw [q_F_run, hz_w_at d_F_run_4]; rfl
theorem d_F_run_5 : decode c_F_run 5 = .ok (.iload_n 2, 1) := by decide +kernel
theorem e_F_run_5 {a0 a1 a3 : Option Value} : q_F_run S (f + 1) 5 [a0, a1, some (.int x), a3] st h = (q_F_run S f 6 [a0, a1, some (.int x), a3] (.int x :: st) h) := by rw [q_F_run, hz_w_at d_F_run_5]; rfl
theorem d_F_run_6 : decode c_F_run 6 = .ok (.iconst 1, 1) := by decide +kernel
theorem e_F_run_6 : q_F_run S (f + 1) 6 L st h = (q_F_run S f 7 L (.int (hz_n 1) :: st) h) := by rw [q_F_run, hz_w_at d_F_run_6]; rfl
theorem d_F_run_7 : decode c_F_run 7 = .ok (.if_icmp .lt 9, 3) := by decide +kernel
theorem e_F_run_7 : q_F_run S (f + 1) 7 L (.int y :: .int x :: st) h = ((x.toInt < y.toInt → q_F_run S f 16 L st h) ∧ (¬ (x.toInt < y.toInt) → q_F_run S f 10 L st h)) := by rw [q_F_run, hz_w_at d_F_run_7]; rfl
theorem d_F_run_10 : decode c_F_run 10 = .ok (.iload_n 2, 1) := by decide +kernel
theorem e_F_run_10 {a0 a1 a3 : Option Value} : q_F_run S (f + 1) 10 [a0, a1, some (.int x), a3] st h = (q_F_run S f 11 [a0, a1, some (.int x), a3] (.int x :: st) h) := by rw [q_F_run, hz_w_at d_F_run_10]; rfl
theorem d_F_run_11 : decode c_F_run 11 = .ok (.bipush 50, 2) := by decide +kernel
theorem e_F_run_11 : q_F_run S (f + 1) 11 L st h = (q_F_run S f 13 L (.int (hz_n 50) :: st) h) := by rw [q_F_run, hz_w_at d_F_run_11]; rfl
theorem d_F_run_13 : decode c_F_run 13 = .ok (.if_icmp .le 13, 3) := by decide +kernel
theorem e_F_run_13 : q_F_run S (f + 1) 13 L (.int y :: .int x :: st) h = ((x.toInt ≤ y.toInt → q_F_run S f 26 L st h) ∧ (¬ (x.toInt ≤ y.toInt) → q_F_run S f 16 L st h)) := by rw [q_F_run, hz_w_at d_F_run_13]; rfl
theorem d_F_run_16 : decode c_F_run 16 = .ok (.new 65, 3) := by decide +kernel
theorem e_F_run_16 : q_F_run S (f + 1) 16 L st h = (S 16 L st h) := by rw [q_F_run, hz_w_at d_F_run_16]; rfl
theorem d_F_run_19 : decode c_F_run 19 = .ok (.dup, 1) := by decide +kernel
theorem e_F_run_19 : q_F_run S (f + 1) 19 L (.ref i :: st) h = (q_F_run S f 20 L (.ref i :: .ref i :: st) h) := by rw [q_F_run, hz_w_at d_F_run_19]; rfl
theorem e_F_run_19i : q_F_run S (f + 1) 19 L (.int x :: st) h = (q_F_run S f 20 L (.int x :: .int x :: st) h) := by rw [q_F_run, hz_w_at d_F_run_19]; rfl
theorem d_F_run_20 : decode c_F_run 20 = .ok (.ldc 67, 2) := by decide +kernel
theorem e_F_run_20 : q_F_run S (f + 1) 20 L st h = (S 20 L st h) := by rw [q_F_run, hz_w_at d_F_run_20]; rfl
theorem d_F_run_22 : decode c_F_run 22 = .ok (.invokespecial 69, 3) := by decide +kernel
theorem e_F_run_22 : q_F_run S (f + 1) 22 L st h = (S 22 L st h) := by rw [q_F_run, hz_w_at d_F_run_22]; rfl
theorem d_F_run_25 : decode c_F_run 25 = .ok (.athrow, 1) := by decide +kernel
theorem e_F_run_25 : q_F_run S (f + 1) 25 L st h = (S 25 L st h) := by rw [q_F_run, hz_w_at d_F_run_25]; rfl
theorem d_F_run_26 : decode c_F_run 26 = .ok (.aload_n 0, 1) := by decide +kernel
theorem e_F_run_26 {a1 a2 a3 : Option Value} : q_F_run S (f + 1) 26 [some (.ref i), a1, a2, a3] st h = (q_F_run S f 27 [some (.ref i), a1, a2, a3] (.ref i :: st) h) := by rw [q_F_run, hz_w_at d_F_run_26]; rfl
theorem e_F_run_26n {a1 a2 a3 : Option Value} : q_F_run S (f + 1) 26 [some .null, a1, a2, a3] st h = (q_F_run S f 27 [some .null, a1, a2, a3] (.null :: st) h) := by rw [q_F_run, hz_w_at d_F_run_26]; rfl
theorem d_F_run_27 : decode c_F_run 27 = .ok (.iload_n 3, 1) := by decide +kernel
theorem e_F_run_27 {a0 a1 a2 : Option Value} : q_F_run S (f + 1) 27 [a0, a1, a2, some (.int x)] st h = (q_F_run S f 28 [a0, a1, a2, some (.int x)] (.int x :: st) h) := by rw [q_F_run, hz_w_at d_F_run_27]; rfl
theorem d_F_run_28 : decode c_F_run 28 = .ok (.invokevirtual 53, 3) := by decide +kernel
theorem e_F_run_28 : q_F_run S (f + 1) 28 L st h = (S 28 L st h) := by rw [q_F_run, hz_w_at d_F_run_28]; rfl
theorem d_F_run_31 : decode c_F_run 31 = .ok (.aload_n 0, 1) := by decide +kernel
theorem e_F_run_31 {a1 a2 a3 : Option Value} : q_F_run S (f + 1) 31 [some (.ref i), a1, a2, a3] st h = (q_F_run S f 32 [some (.ref i), a1, a2, a3] (.ref i :: st) h) := by rw [q_F_run, hz_w_at d_F_run_31]; rfl
theorem e_F_run_31n {a1 a2 a3 : Option Value} : q_F_run S (f + 1) 31 [some .null, a1, a2, a3] st h = (q_F_run S f 32 [some .null, a1, a2, a3] (.null :: st) h) := by rw [q_F_run, hz_w_at d_F_run_31]; rfl
theorem d_F_run_32 : decode c_F_run 32 = .ok (.getfield 20, 3) := by decide +kernel
theorem e_F_run_32 : q_F_run S (f + 1) 32 L (.ref i :: st) h = (hz_rd h i 4 2 fun v => q_F_run S f 35 L (v :: st) h) := by rw [q_F_run, hz_w_at d_F_run_32]; rfl
theorem d_F_run_35 : decode c_F_run 35 = .ok (.iload_n 3, 1) := by decide +kernel
theorem e_F_run_35 {a0 a1 a2 : Option Value} : q_F_run S (f + 1) 35 [a0, a1, a2, some (.int x)] st h = (q_F_run S f 36 [a0, a1, a2, some (.int x)] (.int x :: st) h) := by rw [q_F_run, hz_w_at d_F_run_35]; rfl
theorem d_F_run_36 : decode c_F_run 36 = .ok (.iload_n 2, 1) := by decide +kernel
theorem e_F_run_36 {a0 a1 a3 : Option Value} : q_F_run S (f + 1) 36 [a0, a1, some (.int x), a3] st h = (q_F_run S f 37 [a0, a1, some (.int x), a3] (.int x :: st) h) := by rw [q_F_run, hz_w_at d_F_run_36]; rfl
theorem d_F_run_37 : decode c_F_run 37 = .ok (.invokevirtual 72, 3) := by decide +kernel
theorem e_F_run_37 : q_F_run S (f + 1) 37 L st h = (S 37 L st h) := by rw [q_F_run, hz_w_at d_F_run_37]; rfl
theorem d_F_run_40 : decode c_F_run 40 = .ok (.aload_n 0, 1) := by decide +kernel
theorem e_F_run_40 {a1 a2 a3 : Option Value} : q_F_run S (f + 1) 40 [some (.ref i), a1, a2, a3] st h = (q_F_run S f 41 [some (.ref i), a1, a2, a3] (.ref i :: st) h) := by rw [q_F_run, hz_w_at d_F_run_40]; rfl
theorem e_F_run_40n {a1 a2 a3 : Option Value} : q_F_run S (f + 1) 40 [some .null, a1, a2, a3] st h = (q_F_run S f 41 [some .null, a1, a2, a3] (.null :: st) h) := by rw [q_F_run, hz_w_at d_F_run_40]; rfl
theorem d_F_run_41 : decode c_F_run 41 = .ok (.getfield 27, 3) := by decide +kernel
theorem e_F_run_41 : q_F_run S (f + 1) 41 L (.ref i :: st) h = (hz_rd h i 4 3 fun v => q_F_run S f 44 L (v :: st) h) := by rw [q_F_run, hz_w_at d_F_run_41]; rfl
theorem d_F_run_44 : decode c_F_run 44 = .ok (.aload_n 0, 1) := by decide +kernel
theorem e_F_run_44 {a1 a2 a3 : Option Value} : q_F_run S (f + 1) 44 [some (.ref i), a1, a2, a3] st h = (q_F_run S f 45 [some (.ref i), a1, a2, a3] (.ref i :: st) h) := by rw [q_F_run, hz_w_at d_F_run_44]; rfl
theorem e_F_run_44n {a1 a2 a3 : Option Value} : q_F_run S (f + 1) 44 [some .null, a1, a2, a3] st h = (q_F_run S f 45 [some .null, a1, a2, a3] (.null :: st) h) := by rw [q_F_run, hz_w_at d_F_run_44]; rfl
theorem d_F_run_45 : decode c_F_run 45 = .ok (.getfield 20, 3) := by decide +kernel
theorem e_F_run_45 : q_F_run S (f + 1) 45 L (.ref i :: st) h = (hz_rd h i 4 2 fun v => q_F_run S f 48 L (v :: st) h) := by rw [q_F_run, hz_w_at d_F_run_45]; rfl
theorem d_F_run_48 : decode c_F_run 48 = .ok (.invokevirtual 76, 3) := by decide +kernel
theorem e_F_run_48 : q_F_run S (f + 1) 48 L st h = (S 48 L st h) := by rw [q_F_run, hz_w_at d_F_run_48]; rfl
theorem d_F_run_51 : decode c_F_run 51 = .ok (.aload_n 0, 1) := by decide +kernel
theorem e_F_run_51 {a1 a2 a3 : Option Value} : q_F_run S (f + 1) 51 [some (.ref i), a1, a2, a3] st h = (q_F_run S f 52 [some (.ref i), a1, a2, a3] (.ref i :: st) h) := by rw [q_F_run, hz_w_at d_F_run_51]; rfl
theorem e_F_run_51n {a1 a2 a3 : Option Value} : q_F_run S (f + 1) 51 [some .null, a1, a2, a3] st h = (q_F_run S f 52 [some .null, a1, a2, a3] (.null :: st) h) := by rw [q_F_run, hz_w_at d_F_run_51]; rfl
theorem d_F_run_52 : decode c_F_run 52 = .ok (.getfield 20, 3) := by decide +kernel
theorem e_F_run_52 : q_F_run S (f + 1) 52 L (.ref i :: st) h = (hz_rd h i 4 2 fun v => q_F_run S f 55 L (v :: st) h) := by rw [q_F_run, hz_w_at d_F_run_52]; rfl
theorem d_F_run_55 : decode c_F_run 55 = .ok (.getfield 80, 3) := by decide +kernel
theorem e_F_run_55 : q_F_run S (f + 1) 55 L (.ref i :: st) h = (hz_rd h i 1 13 fun v => q_F_run S f 58 L (v :: st) h) := by rw [q_F_run, hz_w_at d_F_run_55]; rfl
theorem d_F_run_58 : decode c_F_run 58 = .ok (.ifCond .ne 13, 3) := by decide +kernel
theorem e_F_run_58 : q_F_run S (f + 1) 58 L (.int x :: st) h = ((¬ x.toInt = 0 → q_F_run S f 71 L st h) ∧ (¬ (¬ x.toInt = 0) → q_F_run S f 61 L st h)) := by rw [q_F_run, hz_w_at d_F_run_58]; rfl
theorem d_F_run_61 : decode c_F_run 61 = .ok (.aload_n 0, 1) := by decide +kernel
theorem e_F_run_61 {a1 a2 a3 : Option Value} : q_F_run S (f + 1) 61 [some (.ref i), a1, a2, a3] st h = (q_F_run S f 62 [some (.ref i), a1, a2, a3] (.ref i :: st) h) := by rw [q_F_run, hz_w_at d_F_run_61]; rfl
theorem e_F_run_61n {a1 a2 a3 : Option Value} : q_F_run S (f + 1) 61 [some .null, a1, a2, a3] st h = (q_F_run S f 62 [some .null, a1, a2, a3] (.null :: st) h) := by rw [q_F_run, hz_w_at d_F_run_61]; rfl
theorem d_F_run_62 : decode c_F_run 62 = .ok (.getfield 27, 3) := by decide +kernel
theorem e_F_run_62 : q_F_run S (f + 1) 62 L (.ref i :: st) h = (hz_rd h i 4 3 fun v => q_F_run S f 65 L (v :: st) h) := by rw [q_F_run, hz_w_at d_F_run_62]; rfl
theorem d_F_run_65 : decode c_F_run 65 = .ok (.getfield 83, 3) := by decide +kernel
theorem e_F_run_65 : q_F_run S (f + 1) 65 L (.ref i :: st) h = (hz_rd h i 3 1 fun v => q_F_run S f 68 L (v :: st) h) := by rw [q_F_run, hz_w_at d_F_run_65]; rfl
theorem d_F_run_68 : decode c_F_run 68 = .ok (.goto 10, 3) := by decide +kernel
theorem e_F_run_68 : q_F_run S (f + 1) 68 L st h = (q_F_run S f 78 L st h) := by rw [q_F_run, hz_w_at d_F_run_68]; rfl
theorem d_F_run_71 : decode c_F_run 71 = .ok (.aload_n 0, 1) := by decide +kernel
theorem e_F_run_71 {a1 a2 a3 : Option Value} : q_F_run S (f + 1) 71 [some (.ref i), a1, a2, a3] st h = (q_F_run S f 72 [some (.ref i), a1, a2, a3] (.ref i :: st) h) := by rw [q_F_run, hz_w_at d_F_run_71]; rfl
theorem e_F_run_71n {a1 a2 a3 : Option Value} : q_F_run S (f + 1) 71 [some .null, a1, a2, a3] st h = (q_F_run S f 72 [some .null, a1, a2, a3] (.null :: st) h) := by rw [q_F_run, hz_w_at d_F_run_71]; rfl
theorem d_F_run_72 : decode c_F_run 72 = .ok (.getfield 20, 3) := by decide +kernel
theorem e_F_run_72 : q_F_run S (f + 1) 72 L (.ref i :: st) h = (hz_rd h i 4 2 fun v => q_F_run S f 75 L (v :: st) h) := by rw [q_F_run, hz_w_at d_F_run_72]; rfl
theorem d_F_run_75 : decode c_F_run 75 = .ok (.getfield 80, 3) := by decide +kernel
theorem e_F_run_75 : q_F_run S (f + 1) 75 L (.ref i :: st) h = (hz_rd h i 1 13 fun v => q_F_run S f 78 L (v :: st) h) := by rw [q_F_run, hz_w_at d_F_run_75]; rfl
theorem d_F_run_78 : decode c_F_run 78 = .ok (.ireturn, 1) := by decide +kernel
theorem e_F_run_78 : q_F_run S (f + 1) 78 L st h = (S 78 L st h) := by rw [q_F_run, hz_w_at d_F_run_78]; rfl
end
abbrev q_F_entries (S : Nat → List (Option Value) → List Value → hz_H → Prop) := hz_w zCl zKT f_F n_F c_F_entries [] S
section
variable {S : Nat → List (Option Value) → List Value → hz_H → Prop} {f : Nat} {L : List (Option Value)} {st : List Value} {h : hz_H} {x y : Int32} {i j : Nat} {X Y : Int64}
theorem d_F_entries_0 : decode c_F_entries 0 = .ok (.aload_n 0, 1) := by decide +kernel
theorem e_F_entries_0 : q_F_entries S (f + 1) 0 [some (.ref i)] st h = (q_F_entries S f 1 [some (.ref i)] (.ref i :: st) h) := by rw [q_F_entries, hz_w_at d_F_entries_0]; rfl
theorem e_F_entries_0n : q_F_entries S (f + 1) 0 [some .null] st h = (q_F_entries S f 1 [some .null] (.null :: st) h) := by rw [q_F_entries, hz_w_at d_F_entries_0]; rfl
theorem d_F_entries_1 : decode c_F_entries 1 = .ok (.getfield 20, 3) := by decide +kernel
theorem e_F_entries_1 : q_F_entries S (f + 1) 1 L (.ref i :: st) h = (hz_rd h i 4 2 fun v => q_F_entries S f 4 L (v :: st) h) := by rw [q_F_entries, hz_w_at d_F_entries_1]; rfl
theorem d_F_entries_4 : decode c_F_entries 4 = .ok (.getfield 86, 3) := by decide +kernel
theorem e_F_entries_4 : q_F_entries S (f + 1) 4 L (.ref i :: st) h = (hz_rd h i 1 12 fun v => q_F_entries S f 7 L (v :: st) h) := by rw [q_F_entries, hz_w_at d_F_entries_4]; rfl
theorem d_F_entries_7 : decode c_F_entries 7 = .ok (.ireturn, 1) := by decide +kernel
theorem e_F_entries_7 : q_F_entries S (f + 1) 7 L st h = (S 7 L st h) := by rw [q_F_entries, hz_w_at d_F_entries_7]; rfl
end
abbrev q_F_length (S : Nat → List (Option Value) → List Value → hz_H → Prop) := hz_w zCl zKT f_F n_F c_F_length [] S
section
variable {S : Nat → List (Option Value) → List Value → hz_H → Prop} {f : Nat} {L : List (Option Value)} {st : List Value} {h : hz_H} {x y : Int32} {i j : Nat} {X Y : Int64}
theorem d_F_length_0 : decode c_F_length 0 = .ok (.aload_n 0, 1) := by decide +kernel
theorem e_F_length_0 : q_F_length S (f + 1) 0 [some (.ref i)] st h = (q_F_length S f 1 [some (.ref i)] (.ref i :: st) h) := by rw [q_F_length, hz_w_at d_F_length_0]; rfl
theorem e_F_length_0n : q_F_length S (f + 1) 0 [some .null] st h = (q_F_length S f 1 [some .null] (.null :: st) h) := by rw [q_F_length, hz_w_at d_F_length_0]; rfl
theorem d_F_length_1 : decode c_F_length 1 = .ok (.getfield 27, 3) := by decide +kernel
theorem e_F_length_1 : q_F_length S (f + 1) 1 L (.ref i :: st) h = (hz_rd h i 4 3 fun v => q_F_length S f 4 L (v :: st) h) := by rw [q_F_length, hz_w_at d_F_length_1]; rfl
theorem d_F_length_4 : decode c_F_length 4 = .ok (.getfield 83, 3) := by decide +kernel
theorem e_F_length_4 : q_F_length S (f + 1) 4 L (.ref i :: st) h = (hz_rd h i 3 1 fun v => q_F_length S f 7 L (v :: st) h) := by rw [q_F_length, hz_w_at d_F_length_4]; rfl
theorem d_F_length_7 : decode c_F_length 7 = .ok (.ireturn, 1) := by decide +kernel
theorem e_F_length_7 : q_F_length S (f + 1) 7 L st h = (S 7 L st h) := by rw [q_F_length, hz_w_at d_F_length_7]; rfl
end
abbrev q_F_charAt (S : Nat → List (Option Value) → List Value → hz_H → Prop) := hz_w zCl zKT f_F n_F c_F_charAt [] S
section
variable {S : Nat → List (Option Value) → List Value → hz_H → Prop} {f : Nat} {L : List (Option Value)} {st : List Value} {h : hz_H} {x y : Int32} {i j : Nat} {X Y : Int64}
theorem d_F_charAt_0 : decode c_F_charAt 0 = .ok (.iload_n 1, 1) := by decide +kernel
theorem e_F_charAt_0 {a0 : Option Value} : q_F_charAt S (f + 1) 0 [a0, some (.int x)] st h = (q_F_charAt S f 1 [a0, some (.int x)] (.int x :: st) h) := by rw [q_F_charAt, hz_w_at d_F_charAt_0]; rfl
theorem d_F_charAt_1 : decode c_F_charAt 1 = .ok (.ifCond .lt 26, 3) := by decide +kernel
theorem e_F_charAt_1 : q_F_charAt S (f + 1) 1 L (.int x :: st) h = ((x.toInt < 0 → q_F_charAt S f 27 L st h) ∧ (¬ (x.toInt < 0) → q_F_charAt S f 4 L st h)) := by rw [q_F_charAt, hz_w_at d_F_charAt_1]; rfl
theorem d_F_charAt_4 : decode c_F_charAt 4 = .ok (.iload_n 1, 1) := by decide +kernel
theorem e_F_charAt_4 {a0 : Option Value} : q_F_charAt S (f + 1) 4 [a0, some (.int x)] st h = (q_F_charAt S f 5 [a0, some (.int x)] (.int x :: st) h) := by rw [q_F_charAt, hz_w_at d_F_charAt_4]; rfl
theorem d_F_charAt_5 : decode c_F_charAt 5 = .ok (.aload_n 0, 1) := by decide +kernel
theorem e_F_charAt_5 {a1 : Option Value} : q_F_charAt S (f + 1) 5 [some (.ref i), a1] st h = (q_F_charAt S f 6 [some (.ref i), a1] (.ref i :: st) h) := by rw [q_F_charAt, hz_w_at d_F_charAt_5]; rfl
theorem e_F_charAt_5n {a1 : Option Value} : q_F_charAt S (f + 1) 5 [some .null, a1] st h = (q_F_charAt S f 6 [some .null, a1] (.null :: st) h) := by rw [q_F_charAt, hz_w_at d_F_charAt_5]; rfl
theorem d_F_charAt_6 : decode c_F_charAt 6 = .ok (.getfield 27, 3) := by decide +kernel
theorem e_F_charAt_6 : q_F_charAt S (f + 1) 6 L (.ref i :: st) h = (hz_rd h i 4 3 fun v => q_F_charAt S f 9 L (v :: st) h) := by rw [q_F_charAt, hz_w_at d_F_charAt_6]; rfl
theorem d_F_charAt_9 : decode c_F_charAt 9 = .ok (.getfield 83, 3) := by decide +kernel
theorem e_F_charAt_9 : q_F_charAt S (f + 1) 9 L (.ref i :: st) h = (hz_rd h i 3 1 fun v => q_F_charAt S f 12 L (v :: st) h) := by rw [q_F_charAt, hz_w_at d_F_charAt_9]; rfl
theorem d_F_charAt_12 : decode c_F_charAt 12 = .ok (.if_icmp .ge 15, 3) := by decide +kernel
theorem e_F_charAt_12 : q_F_charAt S (f + 1) 12 L (.int y :: .int x :: st) h = ((y.toInt ≤ x.toInt → q_F_charAt S f 27 L st h) ∧ (¬ (y.toInt ≤ x.toInt) → q_F_charAt S f 15 L st h)) := by rw [q_F_charAt, hz_w_at d_F_charAt_12]; rfl
theorem d_F_charAt_15 : decode c_F_charAt 15 = .ok (.aload_n 0, 1) := by decide +kernel
theorem e_F_charAt_15 {a1 : Option Value} : q_F_charAt S (f + 1) 15 [some (.ref i), a1] st h = (q_F_charAt S f 16 [some (.ref i), a1] (.ref i :: st) h) := by rw [q_F_charAt, hz_w_at d_F_charAt_15]; rfl
theorem e_F_charAt_15n {a1 : Option Value} : q_F_charAt S (f + 1) 15 [some .null, a1] st h = (q_F_charAt S f 16 [some .null, a1] (.null :: st) h) := by rw [q_F_charAt, hz_w_at d_F_charAt_15]; rfl
theorem d_F_charAt_16 : decode c_F_charAt 16 = .ok (.getfield 27, 3) := by decide +kernel
theorem e_F_charAt_16 : q_F_charAt S (f + 1) 16 L (.ref i :: st) h = (hz_rd h i 4 3 fun v => q_F_charAt S f 19 L (v :: st) h) := by rw [q_F_charAt, hz_w_at d_F_charAt_16]; rfl
theorem d_F_charAt_19 : decode c_F_charAt 19 = .ok (.getfield 89, 3) := by decide +kernel
theorem e_F_charAt_19 : q_F_charAt S (f + 1) 19 L (.ref i :: st) h = (hz_rd h i 3 0 fun v => q_F_charAt S f 22 L (v :: st) h) := by rw [q_F_charAt, hz_w_at d_F_charAt_19]; rfl
theorem d_F_charAt_22 : decode c_F_charAt 22 = .ok (.iload_n 1, 1) := by decide +kernel
theorem e_F_charAt_22 {a0 : Option Value} : q_F_charAt S (f + 1) 22 [a0, some (.int x)] st h = (q_F_charAt S f 23 [a0, some (.int x)] (.int x :: st) h) := by rw [q_F_charAt, hz_w_at d_F_charAt_22]; rfl
theorem d_F_charAt_23 : decode c_F_charAt 23 = .ok (.caload, 1) := by decide +kernel
theorem e_F_charAt_23 : q_F_charAt S (f + 1) 23 L (.int x :: .ref i :: st) h = (hz_ea zKT hz_kC h i x fun v => q_F_charAt S f 24 L (v :: st) h) := by rw [q_F_charAt, hz_w_at d_F_charAt_23]; rfl
theorem d_F_charAt_24 : decode c_F_charAt 24 = .ok (.goto 5, 3) := by decide +kernel
theorem e_F_charAt_24 : q_F_charAt S (f + 1) 24 L st h = (q_F_charAt S f 29 L st h) := by rw [q_F_charAt, hz_w_at d_F_charAt_24]; rfl
theorem d_F_charAt_27 : decode c_F_charAt 27 = .ok (.bipush 32, 2) := by decide +kernel
theorem e_F_charAt_27 : q_F_charAt S (f + 1) 27 L st h = (q_F_charAt S f 29 L (.int (hz_n 32) :: st) h) := by rw [q_F_charAt, hz_w_at d_F_charAt_27]; rfl
theorem d_F_charAt_29 : decode c_F_charAt 29 = .ok (.ireturn, 1) := by decide +kernel
theorem e_F_charAt_29 : q_F_charAt S (f + 1) 29 L st h = (S 29 L st h) := by rw [q_F_charAt, hz_w_at d_F_charAt_29]; rfl
end
abbrev q_F_letterNumber (S : Nat → List (Option Value) → List Value → hz_H → Prop) := hz_w zCl zKT f_F n_F c_F_letterNumber [] S
section
variable {S : Nat → List (Option Value) → List Value → hz_H → Prop} {f : Nat} {L : List (Option Value)} {st : List Value} {h : hz_H} {x y : Int32} {i j : Nat} {X Y : Int64}
theorem d_F_letterNumber_0 : decode c_F_letterNumber 0 = .ok (.iload_n 0, 1) := by decide +kernel
theorem e_F_letterNumber_0 : q_F_letterNumber S (f + 1) 0 [some (.int x)] st h = (q_F_letterNumber S f 1 [some (.int x)] (.int x :: st) h) := by rw [q_F_letterNumber, hz_w_at d_F_letterNumber_0]; rfl
theorem d_F_letterNumber_1 : decode c_F_letterNumber 1 = .ok (.invokestatic 57, 3) := by decide +kernel
theorem e_F_letterNumber_1 : q_F_letterNumber S (f + 1) 1 L st h = (S 1 L st h) := by rw [q_F_letterNumber, hz_w_at d_F_letterNumber_1]; rfl
theorem d_F_letterNumber_4 : decode c_F_letterNumber 4 = .ok (.ifCond .ne 13, 3) := by decide +kernel
theorem e_F_letterNumber_4 : q_F_letterNumber S (f + 1) 4 L (.int x :: st) h = ((¬ x.toInt = 0 → q_F_letterNumber S f 17 L st h) ∧ (¬ (¬ x.toInt = 0) → q_F_letterNumber S f 7 L st h)) := by rw [q_F_letterNumber, hz_w_at d_F_letterNumber_4]; rfl
theorem d_F_letterNumber_7 : decode c_F_letterNumber 7 = .ok (.new 65, 3) := by decide +kernel
theorem e_F_letterNumber_7 : q_F_letterNumber S (f + 1) 7 L st h = (S 7 L st h) := by rw [q_F_letterNumber, hz_w_at d_F_letterNumber_7]; rfl
theorem d_F_letterNumber_10 : decode c_F_letterNumber 10 = .ok (.dup, 1) := by decide +kernel
theorem e_F_letterNumber_10 : q_F_letterNumber S (f + 1) 10 L (.ref i :: st) h = (q_F_letterNumber S f 11 L (.ref i :: .ref i :: st) h) := by rw [q_F_letterNumber, hz_w_at d_F_letterNumber_10]; rfl
theorem e_F_letterNumber_10i : q_F_letterNumber S (f + 1) 10 L (.int x :: st) h = (q_F_letterNumber S f 11 L (.int x :: .int x :: st) h) := by rw [q_F_letterNumber, hz_w_at d_F_letterNumber_10]; rfl
theorem d_F_letterNumber_11 : decode c_F_letterNumber 11 = .ok (.ldc 92, 2) := by decide +kernel
theorem e_F_letterNumber_11 : q_F_letterNumber S (f + 1) 11 L st h = (S 11 L st h) := by rw [q_F_letterNumber, hz_w_at d_F_letterNumber_11]; rfl
theorem d_F_letterNumber_13 : decode c_F_letterNumber 13 = .ok (.invokespecial 69, 3) := by decide +kernel
theorem e_F_letterNumber_13 : q_F_letterNumber S (f + 1) 13 L st h = (S 13 L st h) := by rw [q_F_letterNumber, hz_w_at d_F_letterNumber_13]; rfl
theorem d_F_letterNumber_16 : decode c_F_letterNumber 16 = .ok (.athrow, 1) := by decide +kernel
theorem e_F_letterNumber_16 : q_F_letterNumber S (f + 1) 16 L st h = (S 16 L st h) := by rw [q_F_letterNumber, hz_w_at d_F_letterNumber_16]; rfl
theorem d_F_letterNumber_17 : decode c_F_letterNumber 17 = .ok (.iload_n 0, 1) := by decide +kernel
theorem e_F_letterNumber_17 : q_F_letterNumber S (f + 1) 17 [some (.int x)] st h = (q_F_letterNumber S f 18 [some (.int x)] (.int x :: st) h) := by rw [q_F_letterNumber, hz_w_at d_F_letterNumber_17]; rfl
theorem d_F_letterNumber_18 : decode c_F_letterNumber 18 = .ok (.bipush 65, 2) := by decide +kernel
theorem e_F_letterNumber_18 : q_F_letterNumber S (f + 1) 18 L st h = (q_F_letterNumber S f 20 L (.int (hz_n 65) :: st) h) := by rw [q_F_letterNumber, hz_w_at d_F_letterNumber_18]; rfl
theorem d_F_letterNumber_20 : decode c_F_letterNumber 20 = .ok (.isub, 1) := by decide +kernel
theorem e_F_letterNumber_20 : q_F_letterNumber S (f + 1) 20 L (.int y :: .int x :: st) h = (q_F_letterNumber S f 21 L (.int (x - y) :: st) h) := by rw [q_F_letterNumber, hz_w_at d_F_letterNumber_20]; rfl
theorem d_F_letterNumber_21 : decode c_F_letterNumber 21 = .ok (.ireturn, 1) := by decide +kernel
theorem e_F_letterNumber_21 : q_F_letterNumber S (f + 1) 21 L st h = (S 21 L st h) := by rw [q_F_letterNumber, hz_w_at d_F_letterNumber_21]; rfl
end
abbrev q_F_checkDefined (S : Nat → List (Option Value) → List Value → hz_H → Prop) := hz_w zCl zKT f_F n_F c_F_checkDefined [] S
section
variable {S : Nat → List (Option Value) → List Value → hz_H → Prop} {f : Nat} {L : List (Option Value)} {st : List Value} {h : hz_H} {x y : Int32} {i j : Nat} {X Y : Int64}
theorem d_F_checkDefined_0 : decode c_F_checkDefined 0 = .ok (.aload_n 0, 1) := by decide +kernel
theorem e_F_checkDefined_0 {a1 : Option Value} : q_F_checkDefined S (f + 1) 0 [some (.ref i), a1] st h = (q_F_checkDefined S f 1 [some (.ref i), a1] (.ref i :: st) h) := by rw [q_F_checkDefined, hz_w_at d_F_checkDefined_0]; rfl
theorem e_F_checkDefined_0n {a1 : Option Value} : q_F_checkDefined S (f + 1) 0 [some .null, a1] st h = (q_F_checkDefined S f 1 [some .null, a1] (.null :: st) h) := by rw [q_F_checkDefined, hz_w_at d_F_checkDefined_0]; rfl
theorem d_F_checkDefined_1 : decode c_F_checkDefined 1 = .ok (.getfield 20, 3) := by decide +kernel
theorem e_F_checkDefined_1 : q_F_checkDefined S (f + 1) 1 L (.ref i :: st) h = (hz_rd h i 4 2 fun v => q_F_checkDefined S f 4 L (v :: st) h) := by rw [q_F_checkDefined, hz_w_at d_F_checkDefined_1]; rfl
theorem d_F_checkDefined_4 : decode c_F_checkDefined 4 = .ok (.getfield 49, 3) := by decide +kernel
theorem e_F_checkDefined_4 : q_F_checkDefined S (f + 1) 4 L (.ref i :: st) h = (hz_rd h i 1 0 fun v => q_F_checkDefined S f 7 L (v :: st) h) := by rw [q_F_checkDefined, hz_w_at d_F_checkDefined_4]; rfl
theorem d_F_checkDefined_7 : decode c_F_checkDefined 7 = .ok (.iload_n 1, 1) := by decide +kernel
theorem e_F_checkDefined_7 {a0 : Option Value} : q_F_checkDefined S (f + 1) 7 [a0, some (.int x)] st h = (q_F_checkDefined S f 8 [a0, some (.int x)] (.int x :: st) h) := by rw [q_F_checkDefined, hz_w_at d_F_checkDefined_7]; rfl
theorem d_F_checkDefined_8 : decode c_F_checkDefined 8 = .ok (.aaload, 1) := by decide +kernel
theorem e_F_checkDefined_8 : q_F_checkDefined S (f + 1) 8 L (.int x :: .ref i :: st) h = (hz_ea zKT hz_kA h i x fun v => q_F_checkDefined S f 9 L (v :: st) h) := by rw [q_F_checkDefined, hz_w_at d_F_checkDefined_8]; rfl
theorem d_F_checkDefined_9 : decode c_F_checkDefined 9 = .ok (.ifnonnull 13, 3) := by decide +kernel
theorem e_F_checkDefined_9 : q_F_checkDefined S (f + 1) 9 L (.ref i :: st) h = (q_F_checkDefined S f 22 L st h) := by rw [q_F_checkDefined, hz_w_at d_F_checkDefined_9]; rfl
theorem e_F_checkDefined_9n : q_F_checkDefined S (f + 1) 9 L (.null :: st) h = (q_F_checkDefined S f 12 L st h) := by rw [q_F_checkDefined, hz_w_at d_F_checkDefined_9]; rfl
theorem d_F_checkDefined_12 : decode c_F_checkDefined 12 = .ok (.new 94, 3) := by decide +kernel
theorem e_F_checkDefined_12 : q_F_checkDefined S (f + 1) 12 L st h = (S 12 L st h) := by rw [q_F_checkDefined, hz_w_at d_F_checkDefined_12]; rfl
theorem d_F_checkDefined_15 : decode c_F_checkDefined 15 = .ok (.dup, 1) := by decide +kernel
theorem e_F_checkDefined_15 : q_F_checkDefined S (f + 1) 15 L (.ref i :: st) h = (q_F_checkDefined S f 16 L (.ref i :: .ref i :: st) h) := by rw [q_F_checkDefined, hz_w_at d_F_checkDefined_15]; rfl
theorem e_F_checkDefined_15i : q_F_checkDefined S (f + 1) 15 L (.int x :: st) h = (q_F_checkDefined S f 16 L (.int x :: .int x :: st) h) := by rw [q_F_checkDefined, hz_w_at d_F_checkDefined_15]; rfl
theorem d_F_checkDefined_16 : decode c_F_checkDefined 16 = .ok (.ldc 96, 2) := by decide +kernel
theorem e_F_checkDefined_16 : q_F_checkDefined S (f + 1) 16 L st h = (S 16 L st h) := by rw [q_F_checkDefined, hz_w_at d_F_checkDefined_16]; rfl
theorem d_F_checkDefined_18 : decode c_F_checkDefined 18 = .ok (.invokespecial 98, 3) := by decide +kernel
theorem e_F_checkDefined_18 : q_F_checkDefined S (f + 1) 18 L st h = (S 18 L st h) := by rw [q_F_checkDefined, hz_w_at d_F_checkDefined_18]; rfl
theorem d_F_checkDefined_21 : decode c_F_checkDefined 21 = .ok (.athrow, 1) := by decide +kernel
theorem e_F_checkDefined_21 : q_F_checkDefined S (f + 1) 21 L st h = (S 21 L st h) := by rw [q_F_checkDefined, hz_w_at d_F_checkDefined_21]; rfl
theorem d_F_checkDefined_22 : decode c_F_checkDefined 22 = .ok (.return_, 1) := by decide +kernel
theorem e_F_checkDefined_22 : q_F_checkDefined S (f + 1) 22 L st h = (S 22 L st h) := by rw [q_F_checkDefined, hz_w_at d_F_checkDefined_22]; rfl
end
abbrev q_F_isLetter (S : Nat → List (Option Value) → List Value → hz_H → Prop) := hz_w zCl zKT f_F n_F c_F_isLetter [] S
section
variable {S : Nat → List (Option Value) → List Value → hz_H → Prop} {f : Nat} {L : List (Option Value)} {st : List Value} {h : hz_H} {x y : Int32} {i j : Nat} {X Y : Int64}
theorem d_F_isLetter_0 : decode c_F_isLetter 0 = .ok (.iload_n 0, 1) := by decide +kernel
theorem e_F_isLetter_0 : q_F_isLetter S (f + 1) 0 [some (.int x)] st h = (q_F_isLetter S f 1 [some (.int x)] (.int x :: st) h) := by rw [q_F_isLetter, hz_w_at d_F_isLetter_0]; rfl
theorem d_F_isLetter_1 : decode c_F_isLetter 1 = .ok (.bipush 65, 2) := by decide +kernel
theorem e_F_isLetter_1 : q_F_isLetter S (f + 1) 1 L st h = (q_F_isLetter S f 3 L (.int (hz_n 65) :: st) h) := by rw [q_F_isLetter, hz_w_at d_F_isLetter_1]; rfl
theorem d_F_isLetter_3 : decode c_F_isLetter 3 = .ok (.if_icmp .lt 13, 3) := by decide +kernel
theorem e_F_isLetter_3 : q_F_isLetter S (f + 1) 3 L (.int y :: .int x :: st) h = ((x.toInt < y.toInt → q_F_isLetter S f 16 L st h) ∧ (¬ (x.toInt < y.toInt) → q_F_isLetter S f 6 L st h)) := by rw [q_F_isLetter, hz_w_at d_F_isLetter_3]; rfl
theorem d_F_isLetter_6 : decode c_F_isLetter 6 = .ok (.iload_n 0, 1) := by decide +kernel
theorem e_F_isLetter_6 : q_F_isLetter S (f + 1) 6 [some (.int x)] st h = (q_F_isLetter S f 7 [some (.int x)] (.int x :: st) h) := by rw [q_F_isLetter, hz_w_at d_F_isLetter_6]; rfl
theorem d_F_isLetter_7 : decode c_F_isLetter 7 = .ok (.bipush 90, 2) := by decide +kernel
theorem e_F_isLetter_7 : q_F_isLetter S (f + 1) 7 L st h = (q_F_isLetter S f 9 L (.int (hz_n 90) :: st) h) := by rw [q_F_isLetter, hz_w_at d_F_isLetter_7]; rfl
theorem d_F_isLetter_9 : decode c_F_isLetter 9 = .ok (.if_icmp .gt 7, 3) := by decide +kernel
theorem e_F_isLetter_9 : q_F_isLetter S (f + 1) 9 L (.int y :: .int x :: st) h = ((y.toInt < x.toInt → q_F_isLetter S f 16 L st h) ∧ (¬ (y.toInt < x.toInt) → q_F_isLetter S f 12 L st h)) := by rw [q_F_isLetter, hz_w_at d_F_isLetter_9]; rfl
theorem d_F_isLetter_12 : decode c_F_isLetter 12 = .ok (.iconst 1, 1) := by decide +kernel
theorem e_F_isLetter_12 : q_F_isLetter S (f + 1) 12 L st h = (q_F_isLetter S f 13 L (.int (hz_n 1) :: st) h) := by rw [q_F_isLetter, hz_w_at d_F_isLetter_12]; rfl
theorem d_F_isLetter_13 : decode c_F_isLetter 13 = .ok (.goto 4, 3) := by decide +kernel
theorem e_F_isLetter_13 : q_F_isLetter S (f + 1) 13 L st h = (q_F_isLetter S f 17 L st h) := by rw [q_F_isLetter, hz_w_at d_F_isLetter_13]; rfl
theorem d_F_isLetter_16 : decode c_F_isLetter 16 = .ok (.iconst 0, 1) := by decide +kernel
theorem e_F_isLetter_16 : q_F_isLetter S (f + 1) 16 L st h = (q_F_isLetter S f 17 L (.int (hz_n 0) :: st) h) := by rw [q_F_isLetter, hz_w_at d_F_isLetter_16]; rfl
theorem d_F_isLetter_17 : decode c_F_isLetter 17 = .ok (.ireturn, 1) := by decide +kernel
theorem e_F_isLetter_17 : q_F_isLetter S (f + 1) 17 L st h = (S 17 L st h) := by rw [q_F_isLetter, hz_w_at d_F_isLetter_17]; rfl
end
abbrev q_F_isVariable (S : Nat → List (Option Value) → List Value → hz_H → Prop) := hz_w zCl zKT f_F n_F c_F_isVariable [] S
section
variable {S : Nat → List (Option Value) → List Value → hz_H → Prop} {f : Nat} {L : List (Option Value)} {st : List Value} {h : hz_H} {x y : Int32} {i j : Nat} {X Y : Int64}
theorem d_F_isVariable_0 : decode c_F_isVariable 0 = .ok (.iload_n 0, 1) := by decide +kernel
theorem e_F_isVariable_0 : q_F_isVariable S (f + 1) 0 [some (.int x)] st h = (q_F_isVariable S f 1 [some (.int x)] (.int x :: st) h) := by rw [q_F_isVariable, hz_w_at d_F_isVariable_0]; rfl
theorem d_F_isVariable_1 : decode c_F_isVariable 1 = .ok (.bipush 97, 2) := by decide +kernel
theorem e_F_isVariable_1 : q_F_isVariable S (f + 1) 1 L st h = (q_F_isVariable S f 3 L (.int (hz_n 97) :: st) h) := by rw [q_F_isVariable, hz_w_at d_F_isVariable_1]; rfl
theorem d_F_isVariable_3 : decode c_F_isVariable 3 = .ok (.if_icmp .lt 13, 3) := by decide +kernel
theorem e_F_isVariable_3 : q_F_isVariable S (f + 1) 3 L (.int y :: .int x :: st) h = ((x.toInt < y.toInt → q_F_isVariable S f 16 L st h) ∧ (¬ (x.toInt < y.toInt) → q_F_isVariable S f 6 L st h)) := by rw [q_F_isVariable, hz_w_at d_F_isVariable_3]; rfl
theorem d_F_isVariable_6 : decode c_F_isVariable 6 = .ok (.iload_n 0, 1) := by decide +kernel
theorem e_F_isVariable_6 : q_F_isVariable S (f + 1) 6 [some (.int x)] st h = (q_F_isVariable S f 7 [some (.int x)] (.int x :: st) h) := by rw [q_F_isVariable, hz_w_at d_F_isVariable_6]; rfl
theorem d_F_isVariable_7 : decode c_F_isVariable 7 = .ok (.bipush 122, 2) := by decide +kernel
theorem e_F_isVariable_7 : q_F_isVariable S (f + 1) 7 L st h = (q_F_isVariable S f 9 L (.int (hz_n 122) :: st) h) := by rw [q_F_isVariable, hz_w_at d_F_isVariable_7]; rfl
theorem d_F_isVariable_9 : decode c_F_isVariable 9 = .ok (.if_icmp .gt 7, 3) := by decide +kernel
theorem e_F_isVariable_9 : q_F_isVariable S (f + 1) 9 L (.int y :: .int x :: st) h = ((y.toInt < x.toInt → q_F_isVariable S f 16 L st h) ∧ (¬ (y.toInt < x.toInt) → q_F_isVariable S f 12 L st h)) := by rw [q_F_isVariable, hz_w_at d_F_isVariable_9]; rfl
theorem d_F_isVariable_12 : decode c_F_isVariable 12 = .ok (.iconst 1, 1) := by decide +kernel
theorem e_F_isVariable_12 : q_F_isVariable S (f + 1) 12 L st h = (q_F_isVariable S f 13 L (.int (hz_n 1) :: st) h) := by rw [q_F_isVariable, hz_w_at d_F_isVariable_12]; rfl
theorem d_F_isVariable_13 : decode c_F_isVariable 13 = .ok (.goto 4, 3) := by decide +kernel
theorem e_F_isVariable_13 : q_F_isVariable S (f + 1) 13 L st h = (q_F_isVariable S f 17 L st h) := by rw [q_F_isVariable, hz_w_at d_F_isVariable_13]; rfl
theorem d_F_isVariable_16 : decode c_F_isVariable 16 = .ok (.iconst 0, 1) := by decide +kernel
theorem e_F_isVariable_16 : q_F_isVariable S (f + 1) 16 L st h = (q_F_isVariable S f 17 L (.int (hz_n 0) :: st) h) := by rw [q_F_isVariable, hz_w_at d_F_isVariable_16]; rfl
theorem d_F_isVariable_17 : decode c_F_isVariable 17 = .ok (.ireturn, 1) := by decide +kernel
theorem e_F_isVariable_17 : q_F_isVariable S (f + 1) 17 L st h = (S 17 L st h) := by rw [q_F_isVariable, hz_w_at d_F_isVariable_17]; rfl
end
abbrev q_F_isDigit (S : Nat → List (Option Value) → List Value → hz_H → Prop) := hz_w zCl zKT f_F n_F c_F_isDigit [] S
section
variable {S : Nat → List (Option Value) → List Value → hz_H → Prop} {f : Nat} {L : List (Option Value)} {st : List Value} {h : hz_H} {x y : Int32} {i j : Nat} {X Y : Int64}
theorem d_F_isDigit_0 : decode c_F_isDigit 0 = .ok (.iload_n 0, 1) := by decide +kernel
theorem e_F_isDigit_0 : q_F_isDigit S (f + 1) 0 [some (.int x)] st h = (q_F_isDigit S f 1 [some (.int x)] (.int x :: st) h) := by rw [q_F_isDigit, hz_w_at d_F_isDigit_0]; rfl
theorem d_F_isDigit_1 : decode c_F_isDigit 1 = .ok (.bipush 48, 2) := by decide +kernel
theorem e_F_isDigit_1 : q_F_isDigit S (f + 1) 1 L st h = (q_F_isDigit S f 3 L (.int (hz_n 48) :: st) h) := by rw [q_F_isDigit, hz_w_at d_F_isDigit_1]; rfl
theorem d_F_isDigit_3 : decode c_F_isDigit 3 = .ok (.if_icmp .lt 13, 3) := by decide +kernel
theorem e_F_isDigit_3 : q_F_isDigit S (f + 1) 3 L (.int y :: .int x :: st) h = ((x.toInt < y.toInt → q_F_isDigit S f 16 L st h) ∧ (¬ (x.toInt < y.toInt) → q_F_isDigit S f 6 L st h)) := by rw [q_F_isDigit, hz_w_at d_F_isDigit_3]; rfl
theorem d_F_isDigit_6 : decode c_F_isDigit 6 = .ok (.iload_n 0, 1) := by decide +kernel
theorem e_F_isDigit_6 : q_F_isDigit S (f + 1) 6 [some (.int x)] st h = (q_F_isDigit S f 7 [some (.int x)] (.int x :: st) h) := by rw [q_F_isDigit, hz_w_at d_F_isDigit_6]; rfl
theorem d_F_isDigit_7 : decode c_F_isDigit 7 = .ok (.bipush 57, 2) := by decide +kernel
theorem e_F_isDigit_7 : q_F_isDigit S (f + 1) 7 L st h = (q_F_isDigit S f 9 L (.int (hz_n 57) :: st) h) := by rw [q_F_isDigit, hz_w_at d_F_isDigit_7]; rfl
theorem d_F_isDigit_9 : decode c_F_isDigit 9 = .ok (.if_icmp .gt 7, 3) := by decide +kernel
theorem e_F_isDigit_9 : q_F_isDigit S (f + 1) 9 L (.int y :: .int x :: st) h = ((y.toInt < x.toInt → q_F_isDigit S f 16 L st h) ∧ (¬ (y.toInt < x.toInt) → q_F_isDigit S f 12 L st h)) := by rw [q_F_isDigit, hz_w_at d_F_isDigit_9]; rfl
theorem d_F_isDigit_12 : decode c_F_isDigit 12 = .ok (.iconst 1, 1) := by decide +kernel
theorem e_F_isDigit_12 : q_F_isDigit S (f + 1) 12 L st h = (q_F_isDigit S f 13 L (.int (hz_n 1) :: st) h) := by rw [q_F_isDigit, hz_w_at d_F_isDigit_12]; rfl
theorem d_F_isDigit_13 : decode c_F_isDigit 13 = .ok (.goto 4, 3) := by decide +kernel
theorem e_F_isDigit_13 : q_F_isDigit S (f + 1) 13 L st h = (q_F_isDigit S f 17 L st h) := by rw [q_F_isDigit, hz_w_at d_F_isDigit_13]; rfl
theorem d_F_isDigit_16 : decode c_F_isDigit 16 = .ok (.iconst 0, 1) := by decide +kernel
theorem e_F_isDigit_16 : q_F_isDigit S (f + 1) 16 L st h = (q_F_isDigit S f 17 L (.int (hz_n 0) :: st) h) := by rw [q_F_isDigit, hz_w_at d_F_isDigit_16]; rfl
theorem d_F_isDigit_17 : decode c_F_isDigit 17 = .ok (.ireturn, 1) := by decide +kernel
theorem e_F_isDigit_17 : q_F_isDigit S (f + 1) 17 L st h = (S 17 L st h) := by rw [q_F_isDigit, hz_w_at d_F_isDigit_17]; rfl
end
