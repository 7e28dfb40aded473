/-! Rows of LazyGraphsModel: instructions, and what each asks of the state behind it. Printed by wip/genparts.py. -/
abbrev q_M_below (S : Nat → List (Option Value) → List Value → hz_H → Prop) := hz_w zCl zKT f_M n_M c_M_below [] S
section
variable {S : Nat → List (Option Value) → List Value → hz_H → Prop} {f : Nat} {L : List (Option Value)} {st : List Value} {h : hz_H} {x y : Int32} {i j : Nat} {X Y : Int64}
theorem d_M_below_0 : decode c_M_below 0 = .ok (.aload_n 0, 1) := by decide +kernel
theorem e_M_below_0 {a1 : Option Value} : q_M_below S (f + 1) 0 [some (.ref i), a1] st h = (q_M_below S f 1 [some (.ref i), a1] (.ref i :: st) h) := by rw [q_M_below, hz_w_at d_M_below_0]; rfl
theorem e_M_below_0n {a1 : Option Value} : q_M_below S (f + 1) 0 [some .null, a1] st h = (q_M_below S f 1 [some .null, a1] (.null :: st) h) := by rw [q_M_below, hz_w_at d_M_below_0]; rfl
theorem d_M_below_1 : decode c_M_below 1 = .ok (.getfield 26, 3) := by decide +kernel
theorem e_M_below_1 : q_M_below S (f + 1) 1 L (.ref i :: st) h = (hz_rd h i 5 8 fun v => q_M_below S f 4 L (v :: st) h) := by rw [q_M_below, hz_w_at d_M_below_1]; rfl
theorem d_M_below_4 : decode c_M_below 4 = .ok (.iload_n 1, 1) := by decide +kernel
theorem e_M_below_4 {a0 : Option Value} : q_M_below S (f + 1) 4 [a0, some (.int x)] st h = (q_M_below S f 5 [a0, some (.int x)] (.int x :: st) h) := by rw [q_M_below, hz_w_at d_M_below_4]; rfl
theorem d_M_below_5 : decode c_M_below 5 = .ok (.iaload, 1) := by decide +kernel
theorem e_M_below_5 : q_M_below S (f + 1) 5 L (.int x :: .ref i :: st) h = (hz_ea zKT hz_kI h i x fun v => q_M_below S f 6 L (v :: st) h) := by rw [q_M_below, hz_w_at d_M_below_5]; rfl
theorem d_M_below_6 : decode c_M_below 6 = .ok (.tableswitch 51 5 10 #[38, 42, 38, 40, 40, 38], 38) := by decide +kernel
theorem e_M_below_6 : q_M_below S (f + 1) 6 L (.int x :: st) h = (((x.toInt < 5 ∨ 10 < x.toInt) → q_M_below S f 57 L st h) ∧ (x.toInt = 5 → q_M_below S f 44 L st h) ∧ (x.toInt = 6 → q_M_below S f 48 L st h) ∧ (x.toInt = 7 → q_M_below S f 44 L st h) ∧ (x.toInt = 8 → q_M_below S f 46 L st h) ∧ (x.toInt = 9 → q_M_below S f 46 L st h) ∧ (x.toInt = 10 → q_M_below S f 44 L st h) ∧ True) := by rw [q_M_below, hz_w_at d_M_below_6]; rfl
theorem d_M_below_44 : decode c_M_below 44 = .ok (.iconst 2, 1) := by decide +kernel
theorem e_M_below_44 : q_M_below S (f + 1) 44 L st h = (q_M_below S f 45 L (.int (hz_n 2) :: st) h) := by rw [q_M_below, hz_w_at d_M_below_44]; rfl
theorem d_M_below_45 : decode c_M_below 45 = .ok (.ireturn, 1) := by decide +kernel
theorem e_M_below_45 : q_M_below S (f + 1) 45 L st h = (S 45 L st h) := by rw [q_M_below, hz_w_at d_M_below_45]; rfl
theorem d_M_below_46 : decode c_M_below 46 = .ok (.iconst 3, 1) := by decide +kernel
theorem e_M_below_46 : q_M_below S (f + 1) 46 L st h = (q_M_below S f 47 L (.int (hz_n 3) :: st) h) := by rw [q_M_below, hz_w_at d_M_below_46]; rfl
theorem d_M_below_47 : decode c_M_below 47 = .ok (.ireturn, 1) := by decide +kernel
theorem e_M_below_47 : q_M_below S (f + 1) 47 L st h = (S 47 L st h) := by rw [q_M_below, hz_w_at d_M_below_47]; rfl
theorem d_M_below_48 : decode c_M_below 48 = .ok (.iconst 1, 1) := by decide +kernel
theorem e_M_below_48 : q_M_below S (f + 1) 48 L st h = (q_M_below S f 49 L (.int (hz_n 1) :: st) h) := by rw [q_M_below, hz_w_at d_M_below_48]; rfl
theorem d_M_below_49 : decode c_M_below 49 = .ok (.aload_n 0, 1) := by decide +kernel
theorem e_M_below_49 {a1 : Option Value} : q_M_below S (f + 1) 49 [some (.ref i), a1] st h = (q_M_below S f 50 [some (.ref i), a1] (.ref i :: st) h) := by rw [q_M_below, hz_w_at d_M_below_49]; rfl
theorem e_M_below_49n {a1 : Option Value} : q_M_below S (f + 1) 49 [some .null, a1] st h = (q_M_below S f 50 [some .null, a1] (.null :: st) h) := by rw [q_M_below, hz_w_at d_M_below_49]; rfl
theorem d_M_below_50 : decode c_M_below 50 = .ok (.getfield 32, 3) := by decide +kernel
theorem e_M_below_50 : q_M_below S (f + 1) 50 L (.ref i :: st) h = (hz_rd h i 5 10 fun v => q_M_below S f 53 L (v :: st) h) := by rw [q_M_below, hz_w_at d_M_below_50]; rfl
theorem d_M_below_53 : decode c_M_below 53 = .ok (.iload_n 1, 1) := by decide +kernel
theorem e_M_below_53 {a0 : Option Value} : q_M_below S (f + 1) 53 [a0, some (.int x)] st h = (q_M_below S f 54 [a0, some (.int x)] (.int x :: st) h) := by rw [q_M_below, hz_w_at d_M_below_53]; rfl
theorem d_M_below_54 : decode c_M_below 54 = .ok (.iaload, 1) := by decide +kernel
theorem e_M_below_54 : q_M_below S (f + 1) 54 L (.int x :: .ref i :: st) h = (hz_ea zKT hz_kI h i x fun v => q_M_below S f 55 L (v :: st) h) := by rw [q_M_below, hz_w_at d_M_below_54]; rfl
theorem d_M_below_55 : decode c_M_below 55 = .ok (.iadd, 1) := by decide +kernel
theorem e_M_below_55 : q_M_below S (f + 1) 55 L (.int y :: .int x :: st) h = (q_M_below S f 56 L (.int (x + y) :: st) h) := by rw [q_M_below, hz_w_at d_M_below_55]; rfl
theorem d_M_below_56 : decode c_M_below 56 = .ok (.ireturn, 1) := by decide +kernel
theorem e_M_below_56 : q_M_below S (f + 1) 56 L st h = (S 56 L st h) := by rw [q_M_below, hz_w_at d_M_below_56]; rfl
theorem d_M_below_57 : decode c_M_below 57 = .ok (.iconst 0, 1) := by decide +kernel
theorem e_M_below_57 : q_M_below S (f + 1) 57 L st h = (q_M_below S f 58 L (.int (hz_n 0) :: st) h) := by rw [q_M_below, hz_w_at d_M_below_57]; rfl
theorem d_M_below_58 : decode c_M_below 58 = .ok (.ireturn, 1) := by decide +kernel
theorem e_M_below_58 : q_M_below S (f + 1) 58 L st h = (S 58 L st h) := by rw [q_M_below, hz_w_at d_M_below_58]; rfl
end
abbrev q_M_behind (S : Nat → List (Option Value) → List Value → hz_H → Prop) := hz_w zCl zKT f_M n_M c_M_behind [4] S
section
variable {S : Nat → List (Option Value) → List Value → hz_H → Prop} {f : Nat} {L : List (Option Value)} {st : List Value} {h : hz_H} {x y : Int32} {i j : Nat} {X Y : Int64}
theorem d_M_behind_0 : decode c_M_behind 0 = .ok (.iconst 1, 1) := by decide +kernel
theorem e_M_behind_0 : q_M_behind S (f + 1) 0 L st h = (q_M_behind S f 1 L (.int (hz_n 1) :: st) h) := by rw [q_M_behind, hz_w_at d_M_behind_0]; rfl
theorem d_M_behind_1 : decode c_M_behind 1 = .ok (.istore_n 2, 1) := by decide +kernel
theorem e_M_behind_1 {a0 a1 a2 a3 : Option Value} : q_M_behind S (f + 1) 1 [a0, a1, a2, a3] (.int x :: st) h = (q_M_behind S f 2 [a0, a1, some (.int x), a3] st h) := by rw [q_M_behind, hz_w_at d_M_behind_1]; rfl
theorem d_M_behind_2 : decode c_M_behind 2 = .ok (.iload_n 1, 1) := by decide +kernel
theorem e_M_behind_2 {a0 a2 a3 : Option Value} : q_M_behind S (f + 1) 2 [a0, some (.int x), a2, a3] st h = (q_M_behind S f 3 [a0, some (.int x), a2, a3] (.int x :: st) h) := by rw [q_M_behind, hz_w_at d_M_behind_2]; rfl
theorem d_M_behind_3 : decode c_M_behind 3 = .ok (.istore_n 3, 1) := by decide +kernel
theorem e_M_behind_3 {a0 a1 a2 a3 : Option Value} : q_M_behind S (f + 1) 3 [a0, a1, a2, a3] (.int x :: st) h = (S 4 [a0, a1, a2, some (.int x)] st h) := by rw [q_M_behind, hz_w_at d_M_behind_3]; rfl
theorem d_M_behind_4 : decode c_M_behind 4 = .ok (.iload_n 2, 1) := by decide +kernel
theorem e_M_behind_4 {a0 a1 a3 : Option Value} : q_M_behind S (f + 1) 4 [a0, a1, some (.int x), a3] st h = (q_M_behind S f 5 [a0, a1, some (.int x), a3] (.int x :: st) h) := by rw [q_M_behind, hz_w_at d_M_behind_4]; rfl
theorem d_M_behind_5 : decode c_M_behind 5 = .ok (.ifCond .le 19, 3) := by decide +kernel
theorem e_M_behind_5 : q_M_behind S (f + 1) 5 L (.int x :: st) h = ((x.toInt ≤ 0 → q_M_behind S f 24 L st h) ∧ (¬ (x.toInt ≤ 0) → q_M_behind S f 8 L st h)) := by rw [q_M_behind, hz_w_at d_M_behind_5]; rfl
theorem d_M_behind_8 : decode c_M_behind 8 = .ok (.iload_n 2, 1) := by decide +kernel
theorem e_M_behind_8 {a0 a1 a3 : Option Value} : q_M_behind S (f + 1) 8 [a0, a1, some (.int x), a3] st h = (q_M_behind S f 9 [a0, a1, some (.int x), a3] (.int x :: st) h) := by rw [q_M_behind, hz_w_at d_M_behind_8]; rfl
theorem d_M_behind_9 : decode c_M_behind 9 = .ok (.iconst 1, 1) := by decide +kernel
theorem e_M_behind_9 : q_M_behind S (f + 1) 9 L st h = (q_M_behind S f 10 L (.int (hz_n 1) :: st) h) := by rw [q_M_behind, hz_w_at d_M_behind_9]; rfl
theorem d_M_behind_10 : decode c_M_behind 10 = .ok (.isub, 1) := by decide +kernel
theorem e_M_behind_10 : q_M_behind S (f + 1) 10 L (.int y :: .int x :: st) h = (q_M_behind S f 11 L (.int (x - y) :: st) h) := by rw [q_M_behind, hz_w_at d_M_behind_10]; rfl
theorem d_M_behind_11 : decode c_M_behind 11 = .ok (.aload_n 0, 1) := by decide +kernel
theorem e_M_behind_11 {a1 a2 a3 : Option Value} : q_M_behind S (f + 1) 11 [some (.ref i), a1, a2, a3] st h = (q_M_behind S f 12 [some (.ref i), a1, a2, a3] (.ref i :: st) h) := by rw [q_M_behind, hz_w_at d_M_behind_11]; rfl
theorem e_M_behind_11n {a1 a2 a3 : Option Value} : q_M_behind S (f + 1) 11 [some .null, a1, a2, a3] st h = (q_M_behind S f 12 [some .null, a1, a2, a3] (.null :: st) h) := by rw [q_M_behind, hz_w_at d_M_behind_11]; rfl
theorem d_M_behind_12 : decode c_M_behind 12 = .ok (.iload_n 3, 1) := by decide +kernel
theorem e_M_behind_12 {a0 a1 a2 : Option Value} : q_M_behind S (f + 1) 12 [a0, a1, a2, some (.int x)] st h = (q_M_behind S f 13 [a0, a1, a2, some (.int x)] (.int x :: st) h) := by rw [q_M_behind, hz_w_at d_M_behind_12]; rfl
theorem d_M_behind_13 : decode c_M_behind 13 = .ok (.invokevirtual 119, 3) := by decide +kernel
theorem e_M_behind_13 : q_M_behind S (f + 1) 13 L st h = (S 13 L st h) := by rw [q_M_behind, hz_w_at d_M_behind_13]; rfl
theorem d_M_behind_16 : decode c_M_behind 16 = .ok (.iadd, 1) := by decide +kernel
theorem e_M_behind_16 : q_M_behind S (f + 1) 16 L (.int y :: .int x :: st) h = (q_M_behind S f 17 L (.int (x + y) :: st) h) := by rw [q_M_behind, hz_w_at d_M_behind_16]; rfl
theorem d_M_behind_17 : decode c_M_behind 17 = .ok (.istore_n 2, 1) := by decide +kernel
theorem e_M_behind_17 {a0 a1 a2 a3 : Option Value} : q_M_behind S (f + 1) 17 [a0, a1, a2, a3] (.int x :: st) h = (q_M_behind S f 18 [a0, a1, some (.int x), a3] st h) := by rw [q_M_behind, hz_w_at d_M_behind_17]; rfl
theorem d_M_behind_18 : decode c_M_behind 18 = .ok (.iinc 3 1, 3) := by decide +kernel
theorem e_M_behind_18 {a0 a1 a2 : Option Value} : q_M_behind S (f + 1) 18 [a0, a1, a2, some (.int x)] st h = (q_M_behind S f 21 [a0, a1, a2, some (.int (x + hz_n 1))] st h) := by rw [q_M_behind, hz_w_at d_M_behind_18]; rfl
theorem d_M_behind_21 : decode c_M_behind 21 = .ok (.goto (-17), 3) := by decide +kernel
theorem e_M_behind_21 : q_M_behind S (f + 1) 21 L st h = (S 4 L st h) := by rw [q_M_behind, hz_w_at d_M_behind_21]; rfl
theorem d_M_behind_24 : decode c_M_behind 24 = .ok (.iload_n 3, 1) := by decide +kernel
theorem e_M_behind_24 {a0 a1 a2 : Option Value} : q_M_behind S (f + 1) 24 [a0, a1, a2, some (.int x)] st h = (q_M_behind S f 25 [a0, a1, a2, some (.int x)] (.int x :: st) h) := by rw [q_M_behind, hz_w_at d_M_behind_24]; rfl
theorem d_M_behind_25 : decode c_M_behind 25 = .ok (.ireturn, 1) := by decide +kernel
theorem e_M_behind_25 : q_M_behind S (f + 1) 25 L st h = (S 25 L st h) := by rw [q_M_behind, hz_w_at d_M_behind_25]; rfl
end
abbrev q_M_child (S : Nat → List (Option Value) → List Value → hz_H → Prop) := hz_w zCl zKT f_M n_M c_M_child [7] S
section
variable {S : Nat → List (Option Value) → List Value → hz_H → Prop} {f : Nat} {L : List (Option Value)} {st : List Value} {h : hz_H} {x y : Int32} {i j : Nat} {X Y : Int64}
theorem d_M_child_0 : decode c_M_child 0 = .ok (.iload_n 1, 1) := by decide +kernel
theorem e_M_child_0 {a0 a2 a3 a4 : Option Value} : q_M_child S (f + 1) 0 [a0, some (.int x), a2, a3, a4] st h = (q_M_child S f 1 [a0, some (.int x), a2, a3, a4] (.int x :: st) h) := by rw [q_M_child, hz_w_at d_M_child_0]; rfl
theorem d_M_child_1 : decode c_M_child 1 = .ok (.iconst 1, 1) := by decide +kernel
theorem e_M_child_1 : q_M_child S (f + 1) 1 L st h = (q_M_child S f 2 L (.int (hz_n 1) :: st) h) := by rw [q_M_child, hz_w_at d_M_child_1]; rfl
theorem d_M_child_2 : decode c_M_child 2 = .ok (.iadd, 1) := by decide +kernel
theorem e_M_child_2 : q_M_child S (f + 1) 2 L (.int y :: .int x :: st) h = (q_M_child S f 3 L (.int (x + y) :: st) h) := by rw [q_M_child, hz_w_at d_M_child_2]; rfl
theorem d_M_child_3 : decode c_M_child 3 = .ok (.istore_n 3, 1) := by decide +kernel
theorem e_M_child_3 {a0 a1 a2 a3 a4 : Option Value} : q_M_child S (f + 1) 3 [a0, a1, a2, a3, a4] (.int x :: st) h = (q_M_child S f 4 [a0, a1, a2, some (.int x), a4] st h) := by rw [q_M_child, hz_w_at d_M_child_3]; rfl
theorem d_M_child_4 : decode c_M_child 4 = .ok (.iconst 0, 1) := by decide +kernel
theorem e_M_child_4 : q_M_child S (f + 1) 4 L st h = (q_M_child S f 5 L (.int (hz_n 0) :: st) h) := by rw [q_M_child, hz_w_at d_M_child_4]; rfl
theorem d_M_child_5 : decode c_M_child 5 = .ok (.istore 4, 2) := by decide +kernel
theorem e_M_child_5 {a0 a1 a2 a3 a4 : Option Value} : q_M_child S (f + 1) 5 [a0, a1, a2, a3, a4] (.int x :: st) h = (S 7 [a0, a1, a2, a3, some (.int x)] st h) := by rw [q_M_child, hz_w_at d_M_child_5]; rfl
theorem d_M_child_7 : decode c_M_child 7 = .ok (.iload 4, 2) := by decide +kernel
theorem e_M_child_7 {a0 a1 a2 a3 : Option Value} : q_M_child S (f + 1) 7 [a0, a1, a2, a3, some (.int x)] st h = (q_M_child S f 9 [a0, a1, a2, a3, some (.int x)] (.int x :: st) h) := by rw [q_M_child, hz_w_at d_M_child_7]; rfl
theorem d_M_child_9 : decode c_M_child 9 = .ok (.iload_n 2, 1) := by decide +kernel
theorem e_M_child_9 {a0 a1 a3 a4 : Option Value} : q_M_child S (f + 1) 9 [a0, a1, some (.int x), a3, a4] st h = (q_M_child S f 10 [a0, a1, some (.int x), a3, a4] (.int x :: st) h) := by rw [q_M_child, hz_w_at d_M_child_9]; rfl
theorem d_M_child_10 : decode c_M_child 10 = .ok (.if_icmp .ge 15, 3) := by decide +kernel
theorem e_M_child_10 : q_M_child S (f + 1) 10 L (.int y :: .int x :: st) h = ((y.toInt ≤ x.toInt → q_M_child S f 25 L st h) ∧ (¬ (y.toInt ≤ x.toInt) → q_M_child S f 13 L st h)) := by rw [q_M_child, hz_w_at d_M_child_10]; rfl
theorem d_M_child_13 : decode c_M_child 13 = .ok (.aload_n 0, 1) := by decide +kernel
theorem e_M_child_13 {a1 a2 a3 a4 : Option Value} : q_M_child S (f + 1) 13 [some (.ref i), a1, a2, a3, a4] st h = (q_M_child S f 14 [some (.ref i), a1, a2, a3, a4] (.ref i :: st) h) := by rw [q_M_child, hz_w_at d_M_child_13]; rfl
theorem e_M_child_13n {a1 a2 a3 a4 : Option Value} : q_M_child S (f + 1) 13 [some .null, a1, a2, a3, a4] st h = (q_M_child S f 14 [some .null, a1, a2, a3, a4] (.null :: st) h) := by rw [q_M_child, hz_w_at d_M_child_13]; rfl
theorem d_M_child_14 : decode c_M_child 14 = .ok (.iload_n 3, 1) := by decide +kernel
theorem e_M_child_14 {a0 a1 a2 a4 : Option Value} : q_M_child S (f + 1) 14 [a0, a1, a2, some (.int x), a4] st h = (q_M_child S f 15 [a0, a1, a2, some (.int x), a4] (.int x :: st) h) := by rw [q_M_child, hz_w_at d_M_child_14]; rfl
theorem d_M_child_15 : decode c_M_child 15 = .ok (.invokevirtual 123, 3) := by decide +kernel
theorem e_M_child_15 : q_M_child S (f + 1) 15 L st h = (S 15 L st h) := by rw [q_M_child, hz_w_at d_M_child_15]; rfl
theorem d_M_child_18 : decode c_M_child 18 = .ok (.istore_n 3, 1) := by decide +kernel
theorem e_M_child_18 {a0 a1 a2 a3 a4 : Option Value} : q_M_child S (f + 1) 18 [a0, a1, a2, a3, a4] (.int x :: st) h = (q_M_child S f 19 [a0, a1, a2, some (.int x), a4] st h) := by rw [q_M_child, hz_w_at d_M_child_18]; rfl
theorem d_M_child_19 : decode c_M_child 19 = .ok (.iinc 4 1, 3) := by decide +kernel
theorem e_M_child_19 {a0 a1 a2 a3 : Option Value} : q_M_child S (f + 1) 19 [a0, a1, a2, a3, some (.int x)] st h = (q_M_child S f 22 [a0, a1, a2, a3, some (.int (x + hz_n 1))] st h) := by rw [q_M_child, hz_w_at d_M_child_19]; rfl
theorem d_M_child_22 : decode c_M_child 22 = .ok (.goto (-15), 3) := by decide +kernel
theorem e_M_child_22 : q_M_child S (f + 1) 22 L st h = (S 7 L st h) := by rw [q_M_child, hz_w_at d_M_child_22]; rfl
theorem d_M_child_25 : decode c_M_child 25 = .ok (.iload_n 3, 1) := by decide +kernel
theorem e_M_child_25 {a0 a1 a2 a4 : Option Value} : q_M_child S (f + 1) 25 [a0, a1, a2, some (.int x), a4] st h = (q_M_child S f 26 [a0, a1, a2, some (.int x), a4] (.int x :: st) h) := by rw [q_M_child, hz_w_at d_M_child_25]; rfl
theorem d_M_child_26 : decode c_M_child 26 = .ok (.ireturn, 1) := by decide +kernel
theorem e_M_child_26 : q_M_child S (f + 1) 26 L st h = (S 26 L st h) := by rw [q_M_child, hz_w_at d_M_child_26]; rfl
end
abbrev q_M_isBound (S : Nat → List (Option Value) → List Value → hz_H → Prop) := hz_w zCl zKT f_M n_M c_M_isBound [4, 53] S
section
variable {S : Nat → List (Option Value) → List Value → hz_H → Prop} {f : Nat} {L : List (Option Value)} {st : List Value} {h : hz_H} {x y : Int32} {i j : Nat} {X Y : Int64}
theorem d_M_isBound_0 : decode c_M_isBound 0 = .ok (.iconst 0, 1) := by decide +kernel
theorem e_M_isBound_0 : q_M_isBound S (f + 1) 0 L st h = (q_M_isBound S f 1 L (.int (hz_n 0) :: st) h) := by rw [q_M_isBound, hz_w_at d_M_isBound_0]; rfl
theorem d_M_isBound_1 : decode c_M_isBound 1 = .ok (.istore_n 2, 1) := by decide +kernel
theorem e_M_isBound_1 {a0 a1 a2 a3 a4 : Option Value} : q_M_isBound S (f + 1) 1 [a0, a1, a2, a3, a4] (.int x :: st) h = (q_M_isBound S f 2 [a0, a1, some (.int x), a3, a4] st h) := by rw [q_M_isBound, hz_w_at d_M_isBound_1]; rfl
theorem d_M_isBound_2 : decode c_M_isBound 2 = .ok (.iconst 0, 1) := by decide +kernel
theorem e_M_isBound_2 : q_M_isBound S (f + 1) 2 L st h = (q_M_isBound S f 3 L (.int (hz_n 0) :: st) h) := by rw [q_M_isBound, hz_w_at d_M_isBound_2]; rfl
theorem d_M_isBound_3 : decode c_M_isBound 3 = .ok (.istore_n 3, 1) := by decide +kernel
theorem e_M_isBound_3 {a0 a1 a2 a3 a4 : Option Value} : q_M_isBound S (f + 1) 3 [a0, a1, a2, a3, a4] (.int x :: st) h = (S 4 [a0, a1, a2, some (.int x), a4] st h) := by rw [q_M_isBound, hz_w_at d_M_isBound_3]; rfl
theorem d_M_isBound_4 : decode c_M_isBound 4 = .ok (.iload_n 3, 1) := by decide +kernel
theorem e_M_isBound_4 {a0 a1 a2 a4 : Option Value} : q_M_isBound S (f + 1) 4 [a0, a1, a2, some (.int x), a4] st h = (q_M_isBound S f 5 [a0, a1, a2, some (.int x), a4] (.int x :: st) h) := by rw [q_M_isBound, hz_w_at d_M_isBound_4]; rfl
theorem d_M_isBound_5 : decode c_M_isBound 5 = .ok (.aload_n 0, 1) := by decide +kernel
theorem e_M_isBound_5 {a1 a2 a3 a4 : Option Value} : q_M_isBound S (f + 1) 5 [some (.ref i), a1, a2, a3, a4] st h = (q_M_isBound S f 6 [some (.ref i), a1, a2, a3, a4] (.ref i :: st) h) := by rw [q_M_isBound, hz_w_at d_M_isBound_5]; rfl
theorem e_M_isBound_5n {a1 a2 a3 a4 : Option Value} : q_M_isBound S (f + 1) 5 [some .null, a1, a2, a3, a4] st h = (q_M_isBound S f 6 [some .null, a1, a2, a3, a4] (.null :: st) h) := by rw [q_M_isBound, hz_w_at d_M_isBound_5]; rfl
theorem d_M_isBound_6 : decode c_M_isBound 6 = .ok (.getfield 20, 3) := by decide +kernel
theorem e_M_isBound_6 : q_M_isBound S (f + 1) 6 L (.ref i :: st) h = (hz_rd h i 5 6 fun v => q_M_isBound S f 9 L (v :: st) h) := by rw [q_M_isBound, hz_w_at d_M_isBound_6]; rfl
theorem d_M_isBound_9 : decode c_M_isBound 9 = .ok (.bipush 26, 2) := by decide +kernel
theorem e_M_isBound_9 : q_M_isBound S (f + 1) 9 L st h = (q_M_isBound S f 11 L (.int (hz_n 26) :: st) h) := by rw [q_M_isBound, hz_w_at d_M_isBound_9]; rfl
theorem d_M_isBound_11 : decode c_M_isBound 11 = .ok (.iaload, 1) := by decide +kernel
theorem e_M_isBound_11 : q_M_isBound S (f + 1) 11 L (.int x :: .ref i :: st) h = (hz_ea zKT hz_kI h i x fun v => q_M_isBound S f 12 L (v :: st) h) := by rw [q_M_isBound, hz_w_at d_M_isBound_11]; rfl
theorem d_M_isBound_12 : decode c_M_isBound 12 = .ok (.if_icmp .ge 37, 3) := by decide +kernel
theorem e_M_isBound_12 : q_M_isBound S (f + 1) 12 L (.int y :: .int x :: st) h = ((y.toInt ≤ x.toInt → q_M_isBound S f 49 L st h) ∧ (¬ (y.toInt ≤ x.toInt) → q_M_isBound S f 15 L st h)) := by rw [q_M_isBound, hz_w_at d_M_isBound_12]; rfl
theorem d_M_isBound_15 : decode c_M_isBound 15 = .ok (.iload_n 2, 1) := by decide +kernel
theorem e_M_isBound_15 {a0 a1 a3 a4 : Option Value} : q_M_isBound S (f + 1) 15 [a0, a1, some (.int x), a3, a4] st h = (q_M_isBound S f 16 [a0, a1, some (.int x), a3, a4] (.int x :: st) h) := by rw [q_M_isBound, hz_w_at d_M_isBound_15]; rfl
theorem d_M_isBound_16 : decode c_M_isBound 16 = .ok (.ifCond .ne 21, 3) := by decide +kernel
theorem e_M_isBound_16 : q_M_isBound S (f + 1) 16 L (.int x :: st) h = ((¬ x.toInt = 0 → q_M_isBound S f 37 L st h) ∧ (¬ (¬ x.toInt = 0) → q_M_isBound S f 19 L st h)) := by rw [q_M_isBound, hz_w_at d_M_isBound_16]; rfl
theorem d_M_isBound_19 : decode c_M_isBound 19 = .ok (.aload_n 0, 1) := by decide +kernel
theorem e_M_isBound_19 {a1 a2 a3 a4 : Option Value} : q_M_isBound S (f + 1) 19 [some (.ref i), a1, a2, a3, a4] st h = (q_M_isBound S f 20 [some (.ref i), a1, a2, a3, a4] (.ref i :: st) h) := by rw [q_M_isBound, hz_w_at d_M_isBound_19]; rfl
theorem e_M_isBound_19n {a1 a2 a3 a4 : Option Value} : q_M_isBound S (f + 1) 19 [some .null, a1, a2, a3, a4] st h = (q_M_isBound S f 20 [some .null, a1, a2, a3, a4] (.null :: st) h) := by rw [q_M_isBound, hz_w_at d_M_isBound_19]; rfl
theorem d_M_isBound_20 : decode c_M_isBound 20 = .ok (.getfield 23, 3) := by decide +kernel
theorem e_M_isBound_20 : q_M_isBound S (f + 1) 20 L (.ref i :: st) h = (hz_rd h i 5 7 fun v => q_M_isBound S f 23 L (v :: st) h) := by rw [q_M_isBound, hz_w_at d_M_isBound_20]; rfl
theorem d_M_isBound_23 : decode c_M_isBound 23 = .ok (.bipush 104, 2) := by decide +kernel
theorem e_M_isBound_23 : q_M_isBound S (f + 1) 23 L st h = (q_M_isBound S f 25 L (.int (hz_n 104) :: st) h) := by rw [q_M_isBound, hz_w_at d_M_isBound_23]; rfl
theorem d_M_isBound_25 : decode c_M_isBound 25 = .ok (.iload_n 3, 1) := by decide +kernel
theorem e_M_isBound_25 {a0 a1 a2 a4 : Option Value} : q_M_isBound S (f + 1) 25 [a0, a1, a2, some (.int x), a4] st h = (q_M_isBound S f 26 [a0, a1, a2, some (.int x), a4] (.int x :: st) h) := by rw [q_M_isBound, hz_w_at d_M_isBound_25]; rfl
theorem d_M_isBound_26 : decode c_M_isBound 26 = .ok (.iadd, 1) := by decide +kernel
theorem e_M_isBound_26 : q_M_isBound S (f + 1) 26 L (.int y :: .int x :: st) h = (q_M_isBound S f 27 L (.int (x + y) :: st) h) := by rw [q_M_isBound, hz_w_at d_M_isBound_26]; rfl
theorem d_M_isBound_27 : decode c_M_isBound 27 = .ok (.iaload, 1) := by decide +kernel
theorem e_M_isBound_27 : q_M_isBound S (f + 1) 27 L (.int x :: .ref i :: st) h = (hz_ea zKT hz_kI h i x fun v => q_M_isBound S f 28 L (v :: st) h) := by rw [q_M_isBound, hz_w_at d_M_isBound_27]; rfl
theorem d_M_isBound_28 : decode c_M_isBound 28 = .ok (.aload_n 0, 1) := by decide +kernel
theorem e_M_isBound_28 {a1 a2 a3 a4 : Option Value} : q_M_isBound S (f + 1) 28 [some (.ref i), a1, a2, a3, a4] st h = (q_M_isBound S f 29 [some (.ref i), a1, a2, a3, a4] (.ref i :: st) h) := by rw [q_M_isBound, hz_w_at d_M_isBound_28]; rfl
theorem e_M_isBound_28n {a1 a2 a3 a4 : Option Value} : q_M_isBound S (f + 1) 28 [some .null, a1, a2, a3, a4] st h = (q_M_isBound S f 29 [some .null, a1, a2, a3, a4] (.null :: st) h) := by rw [q_M_isBound, hz_w_at d_M_isBound_28]; rfl
theorem d_M_isBound_29 : decode c_M_isBound 29 = .ok (.getfield 29, 3) := by decide +kernel
theorem e_M_isBound_29 : q_M_isBound S (f + 1) 29 L (.ref i :: st) h = (hz_rd h i 5 9 fun v => q_M_isBound S f 32 L (v :: st) h) := by rw [q_M_isBound, hz_w_at d_M_isBound_29]; rfl
theorem d_M_isBound_32 : decode c_M_isBound 32 = .ok (.iload_n 1, 1) := by decide +kernel
theorem e_M_isBound_32 {a0 a2 a3 a4 : Option Value} : q_M_isBound S (f + 1) 32 [a0, some (.int x), a2, a3, a4] st h = (q_M_isBound S f 33 [a0, some (.int x), a2, a3, a4] (.int x :: st) h) := by rw [q_M_isBound, hz_w_at d_M_isBound_32]; rfl
theorem d_M_isBound_33 : decode c_M_isBound 33 = .ok (.iaload, 1) := by decide +kernel
theorem e_M_isBound_33 : q_M_isBound S (f + 1) 33 L (.int x :: .ref i :: st) h = (hz_ea zKT hz_kI h i x fun v => q_M_isBound S f 34 L (v :: st) h) := by rw [q_M_isBound, hz_w_at d_M_isBound_33]; rfl
theorem d_M_isBound_34 : decode c_M_isBound 34 = .ok (.if_icmp .ne 7, 3) := by decide +kernel
theorem e_M_isBound_34 : q_M_isBound S (f + 1) 34 L (.int y :: .int x :: st) h = ((¬ x.toInt = y.toInt → q_M_isBound S f 41 L st h) ∧ (¬ (¬ x.toInt = y.toInt) → q_M_isBound S f 37 L st h)) := by rw [q_M_isBound, hz_w_at d_M_isBound_34]; rfl
theorem d_M_isBound_37 : decode c_M_isBound 37 = .ok (.iconst 1, 1) := by decide +kernel
theorem e_M_isBound_37 : q_M_isBound S (f + 1) 37 L st h = (q_M_isBound S f 38 L (.int (hz_n 1) :: st) h) := by rw [q_M_isBound, hz_w_at d_M_isBound_37]; rfl
theorem d_M_isBound_38 : decode c_M_isBound 38 = .ok (.goto 4, 3) := by decide +kernel
theorem e_M_isBound_38 : q_M_isBound S (f + 1) 38 L st h = (q_M_isBound S f 42 L st h) := by rw [q_M_isBound, hz_w_at d_M_isBound_38]; rfl
theorem d_M_isBound_41 : decode c_M_isBound 41 = .ok (.iconst 0, 1) := by decide +kernel
theorem e_M_isBound_41 : q_M_isBound S (f + 1) 41 L st h = (q_M_isBound S f 42 L (.int (hz_n 0) :: st) h) := by rw [q_M_isBound, hz_w_at d_M_isBound_41]; rfl
theorem d_M_isBound_42 : decode c_M_isBound 42 = .ok (.istore_n 2, 1) := by decide +kernel
theorem e_M_isBound_42 {a0 a1 a2 a3 a4 : Option Value} : q_M_isBound S (f + 1) 42 [a0, a1, a2, a3, a4] (.int x :: st) h = (q_M_isBound S f 43 [a0, a1, some (.int x), a3, a4] st h) := by rw [q_M_isBound, hz_w_at d_M_isBound_42]; rfl
theorem d_M_isBound_43 : decode c_M_isBound 43 = .ok (.iinc 3 1, 3) := by decide +kernel
theorem e_M_isBound_43 {a0 a1 a2 a4 : Option Value} : q_M_isBound S (f + 1) 43 [a0, a1, a2, some (.int x), a4] st h = (q_M_isBound S f 46 [a0, a1, a2, some (.int (x + hz_n 1)), a4] st h) := by rw [q_M_isBound, hz_w_at d_M_isBound_43]; rfl
theorem d_M_isBound_46 : decode c_M_isBound 46 = .ok (.goto (-42), 3) := by decide +kernel
theorem e_M_isBound_46 : q_M_isBound S (f + 1) 46 L st h = (S 4 L st h) := by rw [q_M_isBound, hz_w_at d_M_isBound_46]; rfl
theorem d_M_isBound_49 : decode c_M_isBound 49 = .ok (.sipush 1040, 3) := by decide +kernel
theorem e_M_isBound_49 : q_M_isBound S (f + 1) 49 L st h = (q_M_isBound S f 52 L (.int (hz_n 1040) :: st) h) := by rw [q_M_isBound, hz_w_at d_M_isBound_49]; rfl
theorem d_M_isBound_52 : decode c_M_isBound 52 = .ok (.istore_n 3, 1) := by decide +kernel
theorem e_M_isBound_52 {a0 a1 a2 a3 a4 : Option Value} : q_M_isBound S (f + 1) 52 [a0, a1, a2, a3, a4] (.int x :: st) h = (S 53 [a0, a1, a2, some (.int x), a4] st h) := by rw [q_M_isBound, hz_w_at d_M_isBound_52]; rfl
theorem d_M_isBound_53 : decode c_M_isBound 53 = .ok (.iload_n 3, 1) := by decide +kernel
theorem e_M_isBound_53 {a0 a1 a2 a4 : Option Value} : q_M_isBound S (f + 1) 53 [a0, a1, a2, some (.int x), a4] st h = (q_M_isBound S f 54 [a0, a1, a2, some (.int x), a4] (.int x :: st) h) := by rw [q_M_isBound, hz_w_at d_M_isBound_53]; rfl
theorem d_M_isBound_54 : decode c_M_isBound 54 = .ok (.iload_n 1, 1) := by decide +kernel
theorem e_M_isBound_54 {a0 a2 a3 a4 : Option Value} : q_M_isBound S (f + 1) 54 [a0, some (.int x), a2, a3, a4] st h = (q_M_isBound S f 55 [a0, some (.int x), a2, a3, a4] (.int x :: st) h) := by rw [q_M_isBound, hz_w_at d_M_isBound_54]; rfl
theorem d_M_isBound_55 : decode c_M_isBound 55 = .ok (.if_icmp .ge 132, 3) := by decide +kernel
theorem e_M_isBound_55 : q_M_isBound S (f + 1) 55 L (.int y :: .int x :: st) h = ((y.toInt ≤ x.toInt → q_M_isBound S f 187 L st h) ∧ (¬ (y.toInt ≤ x.toInt) → q_M_isBound S f 58 L st h)) := by rw [q_M_isBound, hz_w_at d_M_isBound_55]; rfl
theorem d_M_isBound_58 : decode c_M_isBound 58 = .ok (.iload_n 1, 1) := by decide +kernel
theorem e_M_isBound_58 {a0 a2 a3 a4 : Option Value} : q_M_isBound S (f + 1) 58 [a0, some (.int x), a2, a3, a4] st h = (q_M_isBound S f 59 [a0, some (.int x), a2, a3, a4] (.int x :: st) h) := by rw [q_M_isBound, hz_w_at d_M_isBound_58]; rfl
theorem d_M_isBound_59 : decode c_M_isBound 59 = .ok (.aload_n 0, 1) := by decide +kernel
theorem e_M_isBound_59 {a1 a2 a3 a4 : Option Value} : q_M_isBound S (f + 1) 59 [some (.ref i), a1, a2, a3, a4] st h = (q_M_isBound S f 60 [some (.ref i), a1, a2, a3, a4] (.ref i :: st) h) := by rw [q_M_isBound, hz_w_at d_M_isBound_59]; rfl
theorem e_M_isBound_59n {a1 a2 a3 a4 : Option Value} : q_M_isBound S (f + 1) 59 [some .null, a1, a2, a3, a4] st h = (q_M_isBound S f 60 [some .null, a1, a2, a3, a4] (.null :: st) h) := by rw [q_M_isBound, hz_w_at d_M_isBound_59]; rfl
theorem d_M_isBound_60 : decode c_M_isBound 60 = .ok (.iload_n 3, 1) := by decide +kernel
theorem e_M_isBound_60 {a0 a1 a2 a4 : Option Value} : q_M_isBound S (f + 1) 60 [a0, a1, a2, some (.int x), a4] st h = (q_M_isBound S f 61 [a0, a1, a2, some (.int x), a4] (.int x :: st) h) := by rw [q_M_isBound, hz_w_at d_M_isBound_60]; rfl
theorem d_M_isBound_61 : decode c_M_isBound 61 = .ok (.invokevirtual 123, 3) := by decide +kernel
theorem e_M_isBound_61 : q_M_isBound S (f + 1) 61 L st h = (S 61 L st h) := by rw [q_M_isBound, hz_w_at d_M_isBound_61]; rfl
theorem d_M_isBound_64 : decode c_M_isBound 64 = .ok (.if_icmp .ge 7, 3) := by decide +kernel
theorem e_M_isBound_64 : q_M_isBound S (f + 1) 64 L (.int y :: .int x :: st) h = ((y.toInt ≤ x.toInt → q_M_isBound S f 71 L st h) ∧ (¬ (y.toInt ≤ x.toInt) → q_M_isBound S f 67 L st h)) := by rw [q_M_isBound, hz_w_at d_M_isBound_64]; rfl
theorem d_M_isBound_67 : decode c_M_isBound 67 = .ok (.iconst 1, 1) := by decide +kernel
theorem e_M_isBound_67 : q_M_isBound S (f + 1) 67 L st h = (q_M_isBound S f 68 L (.int (hz_n 1) :: st) h) := by rw [q_M_isBound, hz_w_at d_M_isBound_67]; rfl
theorem d_M_isBound_68 : decode c_M_isBound 68 = .ok (.goto 4, 3) := by decide +kernel
theorem e_M_isBound_68 : q_M_isBound S (f + 1) 68 L st h = (q_M_isBound S f 72 L st h) := by rw [q_M_isBound, hz_w_at d_M_isBound_68]; rfl
theorem d_M_isBound_71 : decode c_M_isBound 71 = .ok (.iconst 0, 1) := by decide +kernel
theorem e_M_isBound_71 : q_M_isBound S (f + 1) 71 L st h = (q_M_isBound S f 72 L (.int (hz_n 0) :: st) h) := by rw [q_M_isBound, hz_w_at d_M_isBound_71]; rfl
theorem d_M_isBound_72 : decode c_M_isBound 72 = .ok (.istore 4, 2) := by decide +kernel
theorem e_M_isBound_72 {a0 a1 a2 a3 a4 : Option Value} : q_M_isBound S (f + 1) 72 [a0, a1, a2, a3, a4] (.int x :: st) h = (q_M_isBound S f 74 [a0, a1, a2, a3, some (.int x)] st h) := by rw [q_M_isBound, hz_w_at d_M_isBound_72]; rfl
theorem d_M_isBound_74 : decode c_M_isBound 74 = .ok (.iload_n 2, 1) := by decide +kernel
theorem e_M_isBound_74 {a0 a1 a3 a4 : Option Value} : q_M_isBound S (f + 1) 74 [a0, a1, some (.int x), a3, a4] st h = (q_M_isBound S f 75 [a0, a1, some (.int x), a3, a4] (.int x :: st) h) := by rw [q_M_isBound, hz_w_at d_M_isBound_74]; rfl
theorem d_M_isBound_75 : decode c_M_isBound 75 = .ok (.ifCond .ne 34, 3) := by decide +kernel
theorem e_M_isBound_75 : q_M_isBound S (f + 1) 75 L (.int x :: st) h = ((¬ x.toInt = 0 → q_M_isBound S f 109 L st h) ∧ (¬ (¬ x.toInt = 0) → q_M_isBound S f 78 L st h)) := by rw [q_M_isBound, hz_w_at d_M_isBound_75]; rfl
theorem d_M_isBound_78 : decode c_M_isBound 78 = .ok (.iload 4, 2) := by decide +kernel
theorem e_M_isBound_78 {a0 a1 a2 a3 : Option Value} : q_M_isBound S (f + 1) 78 [a0, a1, a2, a3, some (.int x)] st h = (q_M_isBound S f 80 [a0, a1, a2, a3, some (.int x)] (.int x :: st) h) := by rw [q_M_isBound, hz_w_at d_M_isBound_78]; rfl
theorem d_M_isBound_80 : decode c_M_isBound 80 = .ok (.ifCond .eq 33, 3) := by decide +kernel
theorem e_M_isBound_80 : q_M_isBound S (f + 1) 80 L (.int x :: st) h = ((x.toInt = 0 → q_M_isBound S f 113 L st h) ∧ (¬ (x.toInt = 0) → q_M_isBound S f 83 L st h)) := by rw [q_M_isBound, hz_w_at d_M_isBound_80]; rfl
theorem d_M_isBound_83 : decode c_M_isBound 83 = .ok (.aload_n 0, 1) := by decide +kernel
theorem e_M_isBound_83 {a1 a2 a3 a4 : Option Value} : q_M_isBound S (f + 1) 83 [some (.ref i), a1, a2, a3, a4] st h = (q_M_isBound S f 84 [some (.ref i), a1, a2, a3, a4] (.ref i :: st) h) := by rw [q_M_isBound, hz_w_at d_M_isBound_83]; rfl
theorem e_M_isBound_83n {a1 a2 a3 a4 : Option Value} : q_M_isBound S (f + 1) 83 [some .null, a1, a2, a3, a4] st h = (q_M_isBound S f 84 [some .null, a1, a2, a3, a4] (.null :: st) h) := by rw [q_M_isBound, hz_w_at d_M_isBound_83]; rfl
theorem d_M_isBound_84 : decode c_M_isBound 84 = .ok (.getfield 26, 3) := by decide +kernel
theorem e_M_isBound_84 : q_M_isBound S (f + 1) 84 L (.ref i :: st) h = (hz_rd h i 5 8 fun v => q_M_isBound S f 87 L (v :: st) h) := by rw [q_M_isBound, hz_w_at d_M_isBound_84]; rfl
theorem d_M_isBound_87 : decode c_M_isBound 87 = .ok (.iload_n 3, 1) := by decide +kernel
theorem e_M_isBound_87 {a0 a1 a2 a4 : Option Value} : q_M_isBound S (f + 1) 87 [a0, a1, a2, some (.int x), a4] st h = (q_M_isBound S f 88 [a0, a1, a2, some (.int x), a4] (.int x :: st) h) := by rw [q_M_isBound, hz_w_at d_M_isBound_87]; rfl
theorem d_M_isBound_88 : decode c_M_isBound 88 = .ok (.iaload, 1) := by decide +kernel
theorem e_M_isBound_88 : q_M_isBound S (f + 1) 88 L (.int x :: .ref i :: st) h = (hz_ea zKT hz_kI h i x fun v => q_M_isBound S f 89 L (v :: st) h) := by rw [q_M_isBound, hz_w_at d_M_isBound_88]; rfl
theorem d_M_isBound_89 : decode c_M_isBound 89 = .ok (.bipush 10, 2) := by decide +kernel
theorem e_M_isBound_89 : q_M_isBound S (f + 1) 89 L st h = (q_M_isBound S f 91 L (.int (hz_n 10) :: st) h) := by rw [q_M_isBound, hz_w_at d_M_isBound_89]; rfl
theorem d_M_isBound_91 : decode c_M_isBound 91 = .ok (.if_icmp .ne 22, 3) := by decide +kernel
theorem e_M_isBound_91 : q_M_isBound S (f + 1) 91 L (.int y :: .int x :: st) h = ((¬ x.toInt = y.toInt → q_M_isBound S f 113 L st h) ∧ (¬ (¬ x.toInt = y.toInt) → q_M_isBound S f 94 L st h)) := by rw [q_M_isBound, hz_w_at d_M_isBound_91]; rfl
theorem d_M_isBound_94 : decode c_M_isBound 94 = .ok (.aload_n 0, 1) := by decide +kernel
theorem e_M_isBound_94 {a1 a2 a3 a4 : Option Value} : q_M_isBound S (f + 1) 94 [some (.ref i), a1, a2, a3, a4] st h = (q_M_isBound S f 95 [some (.ref i), a1, a2, a3, a4] (.ref i :: st) h) := by rw [q_M_isBound, hz_w_at d_M_isBound_94]; rfl
theorem e_M_isBound_94n {a1 a2 a3 a4 : Option Value} : q_M_isBound S (f + 1) 94 [some .null, a1, a2, a3, a4] st h = (q_M_isBound S f 95 [some .null, a1, a2, a3, a4] (.null :: st) h) := by rw [q_M_isBound, hz_w_at d_M_isBound_94]; rfl
theorem d_M_isBound_95 : decode c_M_isBound 95 = .ok (.getfield 29, 3) := by decide +kernel
theorem e_M_isBound_95 : q_M_isBound S (f + 1) 95 L (.ref i :: st) h = (hz_rd h i 5 9 fun v => q_M_isBound S f 98 L (v :: st) h) := by rw [q_M_isBound, hz_w_at d_M_isBound_95]; rfl
theorem d_M_isBound_98 : decode c_M_isBound 98 = .ok (.iload_n 3, 1) := by decide +kernel
theorem e_M_isBound_98 {a0 a1 a2 a4 : Option Value} : q_M_isBound S (f + 1) 98 [a0, a1, a2, some (.int x), a4] st h = (q_M_isBound S f 99 [a0, a1, a2, some (.int x), a4] (.int x :: st) h) := by rw [q_M_isBound, hz_w_at d_M_isBound_98]; rfl
theorem d_M_isBound_99 : decode c_M_isBound 99 = .ok (.iaload, 1) := by decide +kernel
theorem e_M_isBound_99 : q_M_isBound S (f + 1) 99 L (.int x :: .ref i :: st) h = (hz_ea zKT hz_kI h i x fun v => q_M_isBound S f 100 L (v :: st) h) := by rw [q_M_isBound, hz_w_at d_M_isBound_99]; rfl
theorem d_M_isBound_100 : decode c_M_isBound 100 = .ok (.aload_n 0, 1) := by decide +kernel
theorem e_M_isBound_100 {a1 a2 a3 a4 : Option Value} : q_M_isBound S (f + 1) 100 [some (.ref i), a1, a2, a3, a4] st h = (q_M_isBound S f 101 [some (.ref i), a1, a2, a3, a4] (.ref i :: st) h) := by rw [q_M_isBound, hz_w_at d_M_isBound_100]; rfl
theorem e_M_isBound_100n {a1 a2 a3 a4 : Option Value} : q_M_isBound S (f + 1) 100 [some .null, a1, a2, a3, a4] st h = (q_M_isBound S f 101 [some .null, a1, a2, a3, a4] (.null :: st) h) := by rw [q_M_isBound, hz_w_at d_M_isBound_100]; rfl
theorem d_M_isBound_101 : decode c_M_isBound 101 = .ok (.getfield 29, 3) := by decide +kernel
theorem e_M_isBound_101 : q_M_isBound S (f + 1) 101 L (.ref i :: st) h = (hz_rd h i 5 9 fun v => q_M_isBound S f 104 L (v :: st) h) := by rw [q_M_isBound, hz_w_at d_M_isBound_101]; rfl
theorem d_M_isBound_104 : decode c_M_isBound 104 = .ok (.iload_n 1, 1) := by decide +kernel
theorem e_M_isBound_104 {a0 a2 a3 a4 : Option Value} : q_M_isBound S (f + 1) 104 [a0, some (.int x), a2, a3, a4] st h = (q_M_isBound S f 105 [a0, some (.int x), a2, a3, a4] (.int x :: st) h) := by rw [q_M_isBound, hz_w_at d_M_isBound_104]; rfl
theorem d_M_isBound_105 : decode c_M_isBound 105 = .ok (.iaload, 1) := by decide +kernel
theorem e_M_isBound_105 : q_M_isBound S (f + 1) 105 L (.int x :: .ref i :: st) h = (hz_ea zKT hz_kI h i x fun v => q_M_isBound S f 106 L (v :: st) h) := by rw [q_M_isBound, hz_w_at d_M_isBound_105]; rfl
theorem d_M_isBound_106 : decode c_M_isBound 106 = .ok (.if_icmp .ne 7, 3) := by decide +kernel
theorem e_M_isBound_106 : q_M_isBound S (f + 1) 106 L (.int y :: .int x :: st) h = ((¬ x.toInt = y.toInt → q_M_isBound S f 113 L st h) ∧ (¬ (¬ x.toInt = y.toInt) → q_M_isBound S f 109 L st h)) := by rw [q_M_isBound, hz_w_at d_M_isBound_106]; rfl
theorem d_M_isBound_109 : decode c_M_isBound 109 = .ok (.iconst 1, 1) := by decide +kernel
theorem e_M_isBound_109 : q_M_isBound S (f + 1) 109 L st h = (q_M_isBound S f 110 L (.int (hz_n 1) :: st) h) := by rw [q_M_isBound, hz_w_at d_M_isBound_109]; rfl
theorem d_M_isBound_110 : decode c_M_isBound 110 = .ok (.goto 4, 3) := by decide +kernel
theorem e_M_isBound_110 : q_M_isBound S (f + 1) 110 L st h = (q_M_isBound S f 114 L st h) := by rw [q_M_isBound, hz_w_at d_M_isBound_110]; rfl
theorem d_M_isBound_113 : decode c_M_isBound 113 = .ok (.iconst 0, 1) := by decide +kernel
theorem e_M_isBound_113 : q_M_isBound S (f + 1) 113 L st h = (q_M_isBound S f 114 L (.int (hz_n 0) :: st) h) := by rw [q_M_isBound, hz_w_at d_M_isBound_113]; rfl
theorem d_M_isBound_114 : decode c_M_isBound 114 = .ok (.istore_n 2, 1) := by decide +kernel
theorem e_M_isBound_114 {a0 a1 a2 a3 a4 : Option Value} : q_M_isBound S (f + 1) 114 [a0, a1, a2, a3, a4] (.int x :: st) h = (q_M_isBound S f 115 [a0, a1, some (.int x), a3, a4] st h) := by rw [q_M_isBound, hz_w_at d_M_isBound_114]; rfl
theorem d_M_isBound_115 : decode c_M_isBound 115 = .ok (.iload_n 2, 1) := by decide +kernel
theorem e_M_isBound_115 {a0 a1 a3 a4 : Option Value} : q_M_isBound S (f + 1) 115 [a0, a1, some (.int x), a3, a4] st h = (q_M_isBound S f 116 [a0, a1, some (.int x), a3, a4] (.int x :: st) h) := by rw [q_M_isBound, hz_w_at d_M_isBound_115]; rfl
theorem d_M_isBound_116 : decode c_M_isBound 116 = .ok (.ifCond .ne 59, 3) := by decide +kernel
theorem e_M_isBound_116 : q_M_isBound S (f + 1) 116 L (.int x :: st) h = ((¬ x.toInt = 0 → q_M_isBound S f 175 L st h) ∧ (¬ (¬ x.toInt = 0) → q_M_isBound S f 119 L st h)) := by rw [q_M_isBound, hz_w_at d_M_isBound_116]; rfl
theorem d_M_isBound_119 : decode c_M_isBound 119 = .ok (.iload 4, 2) := by decide +kernel
theorem e_M_isBound_119 {a0 a1 a2 a3 : Option Value} : q_M_isBound S (f + 1) 119 [a0, a1, a2, a3, some (.int x)] st h = (q_M_isBound S f 121 [a0, a1, a2, a3, some (.int x)] (.int x :: st) h) := by rw [q_M_isBound, hz_w_at d_M_isBound_119]; rfl
theorem d_M_isBound_121 : decode c_M_isBound 121 = .ok (.ifCond .eq 58, 3) := by decide +kernel
theorem e_M_isBound_121 : q_M_isBound S (f + 1) 121 L (.int x :: st) h = ((x.toInt = 0 → q_M_isBound S f 179 L st h) ∧ (¬ (x.toInt = 0) → q_M_isBound S f 124 L st h)) := by rw [q_M_isBound, hz_w_at d_M_isBound_121]; rfl
theorem d_M_isBound_124 : decode c_M_isBound 124 = .ok (.aload_n 0, 1) := by decide +kernel
theorem e_M_isBound_124 {a1 a2 a3 a4 : Option Value} : q_M_isBound S (f + 1) 124 [some (.ref i), a1, a2, a3, a4] st h = (q_M_isBound S f 125 [some (.ref i), a1, a2, a3, a4] (.ref i :: st) h) := by rw [q_M_isBound, hz_w_at d_M_isBound_124]; rfl
theorem e_M_isBound_124n {a1 a2 a3 a4 : Option Value} : q_M_isBound S (f + 1) 124 [some .null, a1, a2, a3, a4] st h = (q_M_isBound S f 125 [some .null, a1, a2, a3, a4] (.null :: st) h) := by rw [q_M_isBound, hz_w_at d_M_isBound_124]; rfl
theorem d_M_isBound_125 : decode c_M_isBound 125 = .ok (.getfield 26, 3) := by decide +kernel
theorem e_M_isBound_125 : q_M_isBound S (f + 1) 125 L (.ref i :: st) h = (hz_rd h i 5 8 fun v => q_M_isBound S f 128 L (v :: st) h) := by rw [q_M_isBound, hz_w_at d_M_isBound_125]; rfl
theorem d_M_isBound_128 : decode c_M_isBound 128 = .ok (.iload_n 3, 1) := by decide +kernel
theorem e_M_isBound_128 {a0 a1 a2 a4 : Option Value} : q_M_isBound S (f + 1) 128 [a0, a1, a2, some (.int x), a4] st h = (q_M_isBound S f 129 [a0, a1, a2, some (.int x), a4] (.int x :: st) h) := by rw [q_M_isBound, hz_w_at d_M_isBound_128]; rfl
theorem d_M_isBound_129 : decode c_M_isBound 129 = .ok (.iaload, 1) := by decide +kernel
theorem e_M_isBound_129 : q_M_isBound S (f + 1) 129 L (.int x :: .ref i :: st) h = (hz_ea zKT hz_kI h i x fun v => q_M_isBound S f 130 L (v :: st) h) := by rw [q_M_isBound, hz_w_at d_M_isBound_129]; rfl
theorem d_M_isBound_130 : decode c_M_isBound 130 = .ok (.bipush 9, 2) := by decide +kernel
theorem e_M_isBound_130 : q_M_isBound S (f + 1) 130 L st h = (q_M_isBound S f 132 L (.int (hz_n 9) :: st) h) := by rw [q_M_isBound, hz_w_at d_M_isBound_130]; rfl
theorem d_M_isBound_132 : decode c_M_isBound 132 = .ok (.if_icmp .ne 47, 3) := by decide +kernel
theorem e_M_isBound_132 : q_M_isBound S (f + 1) 132 L (.int y :: .int x :: st) h = ((¬ x.toInt = y.toInt → q_M_isBound S f 179 L st h) ∧ (¬ (¬ x.toInt = y.toInt) → q_M_isBound S f 135 L st h)) := by rw [q_M_isBound, hz_w_at d_M_isBound_132]; rfl
theorem d_M_isBound_135 : decode c_M_isBound 135 = .ok (.iload_n 1, 1) := by decide +kernel
theorem e_M_isBound_135 {a0 a2 a3 a4 : Option Value} : q_M_isBound S (f + 1) 135 [a0, some (.int x), a2, a3, a4] st h = (q_M_isBound S f 136 [a0, some (.int x), a2, a3, a4] (.int x :: st) h) := by rw [q_M_isBound, hz_w_at d_M_isBound_135]; rfl
theorem d_M_isBound_136 : decode c_M_isBound 136 = .ok (.aload_n 0, 1) := by decide +kernel
theorem e_M_isBound_136 {a1 a2 a3 a4 : Option Value} : q_M_isBound S (f + 1) 136 [some (.ref i), a1, a2, a3, a4] st h = (q_M_isBound S f 137 [some (.ref i), a1, a2, a3, a4] (.ref i :: st) h) := by rw [q_M_isBound, hz_w_at d_M_isBound_136]; rfl
theorem e_M_isBound_136n {a1 a2 a3 a4 : Option Value} : q_M_isBound S (f + 1) 136 [some .null, a1, a2, a3, a4] st h = (q_M_isBound S f 137 [some .null, a1, a2, a3, a4] (.null :: st) h) := by rw [q_M_isBound, hz_w_at d_M_isBound_136]; rfl
theorem d_M_isBound_137 : decode c_M_isBound 137 = .ok (.iload_n 3, 1) := by decide +kernel
theorem e_M_isBound_137 {a0 a1 a2 a4 : Option Value} : q_M_isBound S (f + 1) 137 [a0, a1, a2, some (.int x), a4] st h = (q_M_isBound S f 138 [a0, a1, a2, some (.int x), a4] (.int x :: st) h) := by rw [q_M_isBound, hz_w_at d_M_isBound_137]; rfl
theorem d_M_isBound_138 : decode c_M_isBound 138 = .ok (.iconst 2, 1) := by decide +kernel
theorem e_M_isBound_138 : q_M_isBound S (f + 1) 138 L st h = (q_M_isBound S f 139 L (.int (hz_n 2) :: st) h) := by rw [q_M_isBound, hz_w_at d_M_isBound_138]; rfl
theorem d_M_isBound_139 : decode c_M_isBound 139 = .ok (.invokevirtual 126, 3) := by decide +kernel
theorem e_M_isBound_139 : q_M_isBound S (f + 1) 139 L st h = (S 139 L st h) := by rw [q_M_isBound, hz_w_at d_M_isBound_139]; rfl
theorem d_M_isBound_142 : decode c_M_isBound 142 = .ok (.if_icmp .lt 37, 3) := by decide +kernel
theorem e_M_isBound_142 : q_M_isBound S (f + 1) 142 L (.int y :: .int x :: st) h = ((x.toInt < y.toInt → q_M_isBound S f 179 L st h) ∧ (¬ (x.toInt < y.toInt) → q_M_isBound S f 145 L st h)) := by rw [q_M_isBound, hz_w_at d_M_isBound_142]; rfl
theorem d_M_isBound_145 : decode c_M_isBound 145 = .ok (.aload_n 0, 1) := by decide +kernel
theorem e_M_isBound_145 {a1 a2 a3 a4 : Option Value} : q_M_isBound S (f + 1) 145 [some (.ref i), a1, a2, a3, a4] st h = (q_M_isBound S f 146 [some (.ref i), a1, a2, a3, a4] (.ref i :: st) h) := by rw [q_M_isBound, hz_w_at d_M_isBound_145]; rfl
theorem e_M_isBound_145n {a1 a2 a3 a4 : Option Value} : q_M_isBound S (f + 1) 145 [some .null, a1, a2, a3, a4] st h = (q_M_isBound S f 146 [some .null, a1, a2, a3, a4] (.null :: st) h) := by rw [q_M_isBound, hz_w_at d_M_isBound_145]; rfl
theorem d_M_isBound_146 : decode c_M_isBound 146 = .ok (.getfield 29, 3) := by decide +kernel
theorem e_M_isBound_146 : q_M_isBound S (f + 1) 146 L (.ref i :: st) h = (hz_rd h i 5 9 fun v => q_M_isBound S f 149 L (v :: st) h) := by rw [q_M_isBound, hz_w_at d_M_isBound_146]; rfl
theorem d_M_isBound_149 : decode c_M_isBound 149 = .ok (.iload_n 3, 1) := by decide +kernel
theorem e_M_isBound_149 {a0 a1 a2 a4 : Option Value} : q_M_isBound S (f + 1) 149 [a0, a1, a2, some (.int x), a4] st h = (q_M_isBound S f 150 [a0, a1, a2, some (.int x), a4] (.int x :: st) h) := by rw [q_M_isBound, hz_w_at d_M_isBound_149]; rfl
theorem d_M_isBound_150 : decode c_M_isBound 150 = .ok (.iaload, 1) := by decide +kernel
theorem e_M_isBound_150 : q_M_isBound S (f + 1) 150 L (.int x :: .ref i :: st) h = (hz_ea zKT hz_kI h i x fun v => q_M_isBound S f 151 L (v :: st) h) := by rw [q_M_isBound, hz_w_at d_M_isBound_150]; rfl
theorem d_M_isBound_151 : decode c_M_isBound 151 = .ok (.aload_n 0, 1) := by decide +kernel
theorem e_M_isBound_151 {a1 a2 a3 a4 : Option Value} : q_M_isBound S (f + 1) 151 [some (.ref i), a1, a2, a3, a4] st h = (q_M_isBound S f 152 [some (.ref i), a1, a2, a3, a4] (.ref i :: st) h) := by rw [q_M_isBound, hz_w_at d_M_isBound_151]; rfl
theorem e_M_isBound_151n {a1 a2 a3 a4 : Option Value} : q_M_isBound S (f + 1) 151 [some .null, a1, a2, a3, a4] st h = (q_M_isBound S f 152 [some .null, a1, a2, a3, a4] (.null :: st) h) := by rw [q_M_isBound, hz_w_at d_M_isBound_151]; rfl
theorem d_M_isBound_152 : decode c_M_isBound 152 = .ok (.getfield 29, 3) := by decide +kernel
theorem e_M_isBound_152 : q_M_isBound S (f + 1) 152 L (.ref i :: st) h = (hz_rd h i 5 9 fun v => q_M_isBound S f 155 L (v :: st) h) := by rw [q_M_isBound, hz_w_at d_M_isBound_152]; rfl
theorem d_M_isBound_155 : decode c_M_isBound 155 = .ok (.iload_n 1, 1) := by decide +kernel
theorem e_M_isBound_155 {a0 a2 a3 a4 : Option Value} : q_M_isBound S (f + 1) 155 [a0, some (.int x), a2, a3, a4] st h = (q_M_isBound S f 156 [a0, some (.int x), a2, a3, a4] (.int x :: st) h) := by rw [q_M_isBound, hz_w_at d_M_isBound_155]; rfl
theorem d_M_isBound_156 : decode c_M_isBound 156 = .ok (.iaload, 1) := by decide +kernel
theorem e_M_isBound_156 : q_M_isBound S (f + 1) 156 L (.int x :: .ref i :: st) h = (hz_ea zKT hz_kI h i x fun v => q_M_isBound S f 157 L (v :: st) h) := by rw [q_M_isBound, hz_w_at d_M_isBound_156]; rfl
theorem d_M_isBound_157 : decode c_M_isBound 157 = .ok (.if_icmp .eq 18, 3) := by decide +kernel
theorem e_M_isBound_157 : q_M_isBound S (f + 1) 157 L (.int y :: .int x :: st) h = ((x.toInt = y.toInt → q_M_isBound S f 175 L st h) ∧ (¬ (x.toInt = y.toInt) → q_M_isBound S f 160 L st h)) := by rw [q_M_isBound, hz_w_at d_M_isBound_157]; rfl
theorem d_M_isBound_160 : decode c_M_isBound 160 = .ok (.aload_n 0, 1) := by decide +kernel
theorem e_M_isBound_160 {a1 a2 a3 a4 : Option Value} : q_M_isBound S (f + 1) 160 [some (.ref i), a1, a2, a3, a4] st h = (q_M_isBound S f 161 [some (.ref i), a1, a2, a3, a4] (.ref i :: st) h) := by rw [q_M_isBound, hz_w_at d_M_isBound_160]; rfl
theorem e_M_isBound_160n {a1 a2 a3 a4 : Option Value} : q_M_isBound S (f + 1) 160 [some .null, a1, a2, a3, a4] st h = (q_M_isBound S f 161 [some .null, a1, a2, a3, a4] (.null :: st) h) := by rw [q_M_isBound, hz_w_at d_M_isBound_160]; rfl
theorem d_M_isBound_161 : decode c_M_isBound 161 = .ok (.getfield 32, 3) := by decide +kernel
theorem e_M_isBound_161 : q_M_isBound S (f + 1) 161 L (.ref i :: st) h = (hz_rd h i 5 10 fun v => q_M_isBound S f 164 L (v :: st) h) := by rw [q_M_isBound, hz_w_at d_M_isBound_161]; rfl
theorem d_M_isBound_164 : decode c_M_isBound 164 = .ok (.iload_n 3, 1) := by decide +kernel
theorem e_M_isBound_164 {a0 a1 a2 a4 : Option Value} : q_M_isBound S (f + 1) 164 [a0, a1, a2, some (.int x), a4] st h = (q_M_isBound S f 165 [a0, a1, a2, some (.int x), a4] (.int x :: st) h) := by rw [q_M_isBound, hz_w_at d_M_isBound_164]; rfl
theorem d_M_isBound_165 : decode c_M_isBound 165 = .ok (.iaload, 1) := by decide +kernel
theorem e_M_isBound_165 : q_M_isBound S (f + 1) 165 L (.int x :: .ref i :: st) h = (hz_ea zKT hz_kI h i x fun v => q_M_isBound S f 166 L (v :: st) h) := by rw [q_M_isBound, hz_w_at d_M_isBound_165]; rfl
theorem d_M_isBound_166 : decode c_M_isBound 166 = .ok (.aload_n 0, 1) := by decide +kernel
theorem e_M_isBound_166 {a1 a2 a3 a4 : Option Value} : q_M_isBound S (f + 1) 166 [some (.ref i), a1, a2, a3, a4] st h = (q_M_isBound S f 167 [some (.ref i), a1, a2, a3, a4] (.ref i :: st) h) := by rw [q_M_isBound, hz_w_at d_M_isBound_166]; rfl
theorem e_M_isBound_166n {a1 a2 a3 a4 : Option Value} : q_M_isBound S (f + 1) 166 [some .null, a1, a2, a3, a4] st h = (q_M_isBound S f 167 [some .null, a1, a2, a3, a4] (.null :: st) h) := by rw [q_M_isBound, hz_w_at d_M_isBound_166]; rfl
theorem d_M_isBound_167 : decode c_M_isBound 167 = .ok (.getfield 29, 3) := by decide +kernel
theorem e_M_isBound_167 : q_M_isBound S (f + 1) 167 L (.ref i :: st) h = (hz_rd h i 5 9 fun v => q_M_isBound S f 170 L (v :: st) h) := by rw [q_M_isBound, hz_w_at d_M_isBound_167]; rfl
theorem d_M_isBound_170 : decode c_M_isBound 170 = .ok (.iload_n 1, 1) := by decide +kernel
theorem e_M_isBound_170 {a0 a2 a3 a4 : Option Value} : q_M_isBound S (f + 1) 170 [a0, some (.int x), a2, a3, a4] st h = (q_M_isBound S f 171 [a0, some (.int x), a2, a3, a4] (.int x :: st) h) := by rw [q_M_isBound, hz_w_at d_M_isBound_170]; rfl
theorem d_M_isBound_171 : decode c_M_isBound 171 = .ok (.iaload, 1) := by decide +kernel
theorem e_M_isBound_171 : q_M_isBound S (f + 1) 171 L (.int x :: .ref i :: st) h = (hz_ea zKT hz_kI h i x fun v => q_M_isBound S f 172 L (v :: st) h) := by rw [q_M_isBound, hz_w_at d_M_isBound_171]; rfl
theorem d_M_isBound_172 : decode c_M_isBound 172 = .ok (.if_icmp .ne 7, 3) := by decide +kernel
theorem e_M_isBound_172 : q_M_isBound S (f + 1) 172 L (.int y :: .int x :: st) h = ((¬ x.toInt = y.toInt → q_M_isBound S f 179 L st h) ∧ (¬ (¬ x.toInt = y.toInt) → q_M_isBound S f 175 L st h)) := by rw [q_M_isBound, hz_w_at d_M_isBound_172]; rfl
theorem d_M_isBound_175 : decode c_M_isBound 175 = .ok (.iconst 1, 1) := by decide +kernel
theorem e_M_isBound_175 : q_M_isBound S (f + 1) 175 L st h = (q_M_isBound S f 176 L (.int (hz_n 1) :: st) h) := by rw [q_M_isBound, hz_w_at d_M_isBound_175]; rfl
theorem d_M_isBound_176 : decode c_M_isBound 176 = .ok (.goto 4, 3) := by decide +kernel
theorem e_M_isBound_176 : q_M_isBound S (f + 1) 176 L st h = (q_M_isBound S f 180 L st h) := by rw [q_M_isBound, hz_w_at d_M_isBound_176]; rfl
theorem d_M_isBound_179 : decode c_M_isBound 179 = .ok (.iconst 0, 1) := by decide +kernel
theorem e_M_isBound_179 : q_M_isBound S (f + 1) 179 L st h = (q_M_isBound S f 180 L (.int (hz_n 0) :: st) h) := by rw [q_M_isBound, hz_w_at d_M_isBound_179]; rfl
theorem d_M_isBound_180 : decode c_M_isBound 180 = .ok (.istore_n 2, 1) := by decide +kernel
theorem e_M_isBound_180 {a0 a1 a2 a3 a4 : Option Value} : q_M_isBound S (f + 1) 180 [a0, a1, a2, a3, a4] (.int x :: st) h = (q_M_isBound S f 181 [a0, a1, some (.int x), a3, a4] st h) := by rw [q_M_isBound, hz_w_at d_M_isBound_180]; rfl
theorem d_M_isBound_181 : decode c_M_isBound 181 = .ok (.iinc 3 1, 3) := by decide +kernel
theorem e_M_isBound_181 {a0 a1 a2 a4 : Option Value} : q_M_isBound S (f + 1) 181 [a0, a1, a2, some (.int x), a4] st h = (q_M_isBound S f 184 [a0, a1, a2, some (.int (x + hz_n 1)), a4] st h) := by rw [q_M_isBound, hz_w_at d_M_isBound_181]; rfl
theorem d_M_isBound_184 : decode c_M_isBound 184 = .ok (.goto (-131), 3) := by decide +kernel
theorem e_M_isBound_184 : q_M_isBound S (f + 1) 184 L st h = (S 53 L st h) := by rw [q_M_isBound, hz_w_at d_M_isBound_184]; rfl
theorem d_M_isBound_187 : decode c_M_isBound 187 = .ok (.iload_n 2, 1) := by decide +kernel
theorem e_M_isBound_187 {a0 a1 a3 a4 : Option Value} : q_M_isBound S (f + 1) 187 [a0, a1, some (.int x), a3, a4] st h = (q_M_isBound S f 188 [a0, a1, some (.int x), a3, a4] (.int x :: st) h) := by rw [q_M_isBound, hz_w_at d_M_isBound_187]; rfl
theorem d_M_isBound_188 : decode c_M_isBound 188 = .ok (.ireturn, 1) := by decide +kernel
theorem e_M_isBound_188 : q_M_isBound S (f + 1) 188 L st h = (S 188 L st h) := by rw [q_M_isBound, hz_w_at d_M_isBound_188]; rfl
end
abbrev q_M_read (S : Nat → List (Option Value) → List Value → hz_H → Prop) := hz_w zCl zKT f_M n_M c_M_read [39, 83] S
section
variable {S : Nat → List (Option Value) → List Value → hz_H → Prop} {f : Nat} {L : List (Option Value)} {st : List Value} {h : hz_H} {x y : Int32} {i j : Nat} {X Y : Int64}
theorem d_M_read_0 : decode c_M_read 0 = .ok (.aload_n 0, 1) := by decide +kernel
theorem e_M_read_0 {a1 a2 : Option Value} : q_M_read S (f + 1) 0 [some (.ref i), a1, a2] st h = (q_M_read S f 1 [some (.ref i), a1, a2] (.ref i :: st) h) := by rw [q_M_read, hz_w_at d_M_read_0]; rfl
theorem e_M_read_0n {a1 a2 : Option Value} : q_M_read S (f + 1) 0 [some .null, a1, a2] st h = (q_M_read S f 1 [some .null, a1, a2] (.null :: st) h) := by rw [q_M_read, hz_w_at d_M_read_0]; rfl
theorem d_M_read_1 : decode c_M_read 1 = .ok (.getfield 84, 3) := by decide +kernel
theorem e_M_read_1 : q_M_read S (f + 1) 1 L (.ref i :: st) h = (hz_rd h i 5 1 fun v => q_M_read S f 4 L (v :: st) h) := by rw [q_M_read, hz_w_at d_M_read_1]; rfl
theorem d_M_read_4 : decode c_M_read 4 = .ok (.istore_n 1, 1) := by decide +kernel
theorem e_M_read_4 {a0 a1 a2 : Option Value} : q_M_read S (f + 1) 4 [a0, a1, a2] (.int x :: st) h = (q_M_read S f 5 [a0, some (.int x), a2] st h) := by rw [q_M_read, hz_w_at d_M_read_4]; rfl
theorem d_M_read_5 : decode c_M_read 5 = .ok (.aload_n 0, 1) := by decide +kernel
theorem e_M_read_5 {a1 a2 : Option Value} : q_M_read S (f + 1) 5 [some (.ref i), a1, a2] st h = (q_M_read S f 6 [some (.ref i), a1, a2] (.ref i :: st) h) := by rw [q_M_read, hz_w_at d_M_read_5]; rfl
theorem e_M_read_5n {a1 a2 : Option Value} : q_M_read S (f + 1) 5 [some .null, a1, a2] st h = (q_M_read S f 6 [some .null, a1, a2] (.null :: st) h) := by rw [q_M_read, hz_w_at d_M_read_5]; rfl
theorem d_M_read_6 : decode c_M_read 6 = .ok (.iconst 0, 1) := by decide +kernel
theorem e_M_read_6 : q_M_read S (f + 1) 6 L st h = (q_M_read S f 7 L (.int (hz_n 0) :: st) h) := by rw [q_M_read, hz_w_at d_M_read_6]; rfl
theorem d_M_read_7 : decode c_M_read 7 = .ok (.putfield 84, 3) := by decide +kernel
theorem e_M_read_7 : q_M_read S (f + 1) 7 L (.int x :: .ref i :: st) h = (hz_wr h i 5 1 (.int x) fun h => q_M_read S f 10 L st h) := by rw [q_M_read, hz_w_at d_M_read_7]; rfl
theorem d_M_read_10 : decode c_M_read 10 = .ok (.aload_n 0, 1) := by decide +kernel
theorem e_M_read_10 {a1 a2 : Option Value} : q_M_read S (f + 1) 10 [some (.ref i), a1, a2] st h = (q_M_read S f 11 [some (.ref i), a1, a2] (.ref i :: st) h) := by rw [q_M_read, hz_w_at d_M_read_10]; rfl
theorem e_M_read_10n {a1 a2 : Option Value} : q_M_read S (f + 1) 10 [some .null, a1, a2] st h = (q_M_read S f 11 [some .null, a1, a2] (.null :: st) h) := by rw [q_M_read, hz_w_at d_M_read_10]; rfl
theorem d_M_read_11 : decode c_M_read 11 = .ok (.sipush 1040, 3) := by decide +kernel
theorem e_M_read_11 : q_M_read S (f + 1) 11 L st h = (q_M_read S f 14 L (.int (hz_n 1040) :: st) h) := by rw [q_M_read, hz_w_at d_M_read_11]; rfl
theorem d_M_read_14 : decode c_M_read 14 = .ok (.putfield 90, 3) := by decide +kernel
theorem e_M_read_14 : q_M_read S (f + 1) 14 L (.int x :: .ref i :: st) h = (hz_wr h i 5 12 (.int x) fun h => q_M_read S f 17 L st h) := by rw [q_M_read, hz_w_at d_M_read_14]; rfl
theorem d_M_read_17 : decode c_M_read 17 = .ok (.aload_n 0, 1) := by decide +kernel
theorem e_M_read_17 {a1 a2 : Option Value} : q_M_read S (f + 1) 17 [some (.ref i), a1, a2] st h = (q_M_read S f 18 [some (.ref i), a1, a2] (.ref i :: st) h) := by rw [q_M_read, hz_w_at d_M_read_17]; rfl
theorem e_M_read_17n {a1 a2 : Option Value} : q_M_read S (f + 1) 17 [some .null, a1, a2] st h = (q_M_read S f 18 [some .null, a1, a2] (.null :: st) h) := by rw [q_M_read, hz_w_at d_M_read_17]; rfl
theorem d_M_read_18 : decode c_M_read 18 = .ok (.getfield 20, 3) := by decide +kernel
theorem e_M_read_18 : q_M_read S (f + 1) 18 L (.ref i :: st) h = (hz_rd h i 5 6 fun v => q_M_read S f 21 L (v :: st) h) := by rw [q_M_read, hz_w_at d_M_read_18]; rfl
theorem d_M_read_21 : decode c_M_read 21 = .ok (.bipush 26, 2) := by decide +kernel
theorem e_M_read_21 : q_M_read S (f + 1) 21 L st h = (q_M_read S f 23 L (.int (hz_n 26) :: st) h) := by rw [q_M_read, hz_w_at d_M_read_21]; rfl
theorem d_M_read_23 : decode c_M_read 23 = .ok (.iconst 0, 1) := by decide +kernel
theorem e_M_read_23 : q_M_read S (f + 1) 23 L st h = (q_M_read S f 24 L (.int (hz_n 0) :: st) h) := by rw [q_M_read, hz_w_at d_M_read_23]; rfl
theorem d_M_read_24 : decode c_M_read 24 = .ok (.iastore, 1) := by decide +kernel
theorem e_M_read_24 : q_M_read S (f + 1) 24 L (.int y :: .int x :: .ref i :: st) h = (hz_es zKT hz_kI h i x (.int y) fun h => q_M_read S f 25 L st h) := by rw [q_M_read, hz_w_at d_M_read_24]; rfl
theorem d_M_read_25 : decode c_M_read 25 = .ok (.aload_n 0, 1) := by decide +kernel
theorem e_M_read_25 {a1 a2 : Option Value} : q_M_read S (f + 1) 25 [some (.ref i), a1, a2] st h = (q_M_read S f 26 [some (.ref i), a1, a2] (.ref i :: st) h) := by rw [q_M_read, hz_w_at d_M_read_25]; rfl
theorem e_M_read_25n {a1 a2 : Option Value} : q_M_read S (f + 1) 25 [some .null, a1, a2] st h = (q_M_read S f 26 [some .null, a1, a2] (.null :: st) h) := by rw [q_M_read, hz_w_at d_M_read_25]; rfl
theorem d_M_read_26 : decode c_M_read 26 = .ok (.iconst 0, 1) := by decide +kernel
theorem e_M_read_26 : q_M_read S (f + 1) 26 L st h = (q_M_read S f 27 L (.int (hz_n 0) :: st) h) := by rw [q_M_read, hz_w_at d_M_read_26]; rfl
theorem d_M_read_27 : decode c_M_read 27 = .ok (.putfield 87, 3) := by decide +kernel
theorem e_M_read_27 : q_M_read S (f + 1) 27 L (.int x :: .ref i :: st) h = (hz_wr h i 5 13 (.int x) fun h => q_M_read S f 30 L st h) := by rw [q_M_read, hz_w_at d_M_read_27]; rfl
theorem d_M_read_30 : decode c_M_read 30 = .ok (.aload_n 0, 1) := by decide +kernel
theorem e_M_read_30 {a1 a2 : Option Value} : q_M_read S (f + 1) 30 [some (.ref i), a1, a2] st h = (q_M_read S f 31 [some (.ref i), a1, a2] (.ref i :: st) h) := by rw [q_M_read, hz_w_at d_M_read_30]; rfl
theorem e_M_read_30n {a1 a2 : Option Value} : q_M_read S (f + 1) 30 [some .null, a1, a2] st h = (q_M_read S f 31 [some .null, a1, a2] (.null :: st) h) := by rw [q_M_read, hz_w_at d_M_read_30]; rfl
theorem d_M_read_31 : decode c_M_read 31 = .ok (.iconst 1, 1) := by decide +kernel
theorem e_M_read_31 : q_M_read S (f + 1) 31 L st h = (q_M_read S f 32 L (.int (hz_n 1) :: st) h) := by rw [q_M_read, hz_w_at d_M_read_31]; rfl
theorem d_M_read_32 : decode c_M_read 32 = .ok (.iconst 0, 1) := by decide +kernel
theorem e_M_read_32 : q_M_read S (f + 1) 32 L st h = (q_M_read S f 33 L (.int (hz_n 0) :: st) h) := by rw [q_M_read, hz_w_at d_M_read_32]; rfl
theorem d_M_read_33 : decode c_M_read 33 = .ok (.iconst 0, 1) := by decide +kernel
theorem e_M_read_33 : q_M_read S (f + 1) 33 L st h = (q_M_read S f 34 L (.int (hz_n 0) :: st) h) := by rw [q_M_read, hz_w_at d_M_read_33]; rfl
theorem d_M_read_34 : decode c_M_read 34 = .ok (.invokevirtual 93, 3) := by decide +kernel
theorem e_M_read_34 : q_M_read S (f + 1) 34 L st h = (S 34 L st h) := by rw [q_M_read, hz_w_at d_M_read_34]; rfl
theorem d_M_read_37 : decode c_M_read 37 = .ok (.iconst 0, 1) := by decide +kernel
theorem e_M_read_37 : q_M_read S (f + 1) 37 L st h = (q_M_read S f 38 L (.int (hz_n 0) :: st) h) := by rw [q_M_read, hz_w_at d_M_read_37]; rfl
theorem d_M_read_38 : decode c_M_read 38 = .ok (.istore_n 2, 1) := by decide +kernel
theorem e_M_read_38 {a0 a1 a2 : Option Value} : q_M_read S (f + 1) 38 [a0, a1, a2] (.int x :: st) h = (S 39 [a0, a1, some (.int x)] st h) := by rw [q_M_read, hz_w_at d_M_read_38]; rfl
theorem d_M_read_39 : decode c_M_read 39 = .ok (.iload_n 2, 1) := by decide +kernel
theorem e_M_read_39 {a0 a1 : Option Value} : q_M_read S (f + 1) 39 [a0, a1, some (.int x)] st h = (q_M_read S f 40 [a0, a1, some (.int x)] (.int x :: st) h) := by rw [q_M_read, hz_w_at d_M_read_39]; rfl
theorem d_M_read_40 : decode c_M_read 40 = .ok (.iload_n 1, 1) := by decide +kernel
theorem e_M_read_40 {a0 a2 : Option Value} : q_M_read S (f + 1) 40 [a0, some (.int x), a2] st h = (q_M_read S f 41 [a0, some (.int x), a2] (.int x :: st) h) := by rw [q_M_read, hz_w_at d_M_read_40]; rfl
theorem d_M_read_41 : decode c_M_read 41 = .ok (.if_icmp .ge 27, 3) := by decide +kernel
theorem e_M_read_41 : q_M_read S (f + 1) 41 L (.int y :: .int x :: st) h = ((y.toInt ≤ x.toInt → q_M_read S f 68 L st h) ∧ (¬ (y.toInt ≤ x.toInt) → q_M_read S f 44 L st h)) := by rw [q_M_read, hz_w_at d_M_read_41]; rfl
theorem d_M_read_44 : decode c_M_read 44 = .ok (.aload_n 0, 1) := by decide +kernel
theorem e_M_read_44 {a1 a2 : Option Value} : q_M_read S (f + 1) 44 [some (.ref i), a1, a2] st h = (q_M_read S f 45 [some (.ref i), a1, a2] (.ref i :: st) h) := by rw [q_M_read, hz_w_at d_M_read_44]; rfl
theorem e_M_read_44n {a1 a2 : Option Value} : q_M_read S (f + 1) 44 [some .null, a1, a2] st h = (q_M_read S f 45 [some .null, a1, a2] (.null :: st) h) := by rw [q_M_read, hz_w_at d_M_read_44]; rfl
theorem d_M_read_45 : decode c_M_read 45 = .ok (.aload_n 0, 1) := by decide +kernel
theorem e_M_read_45 {a1 a2 : Option Value} : q_M_read S (f + 1) 45 [some (.ref i), a1, a2] st h = (q_M_read S f 46 [some (.ref i), a1, a2] (.ref i :: st) h) := by rw [q_M_read, hz_w_at d_M_read_45]; rfl
theorem e_M_read_45n {a1 a2 : Option Value} : q_M_read S (f + 1) 45 [some .null, a1, a2] st h = (q_M_read S f 46 [some .null, a1, a2] (.null :: st) h) := by rw [q_M_read, hz_w_at d_M_read_45]; rfl
theorem d_M_read_46 : decode c_M_read 46 = .ok (.getfield 7, 3) := by decide +kernel
theorem e_M_read_46 : q_M_read S (f + 1) 46 L (.ref i :: st) h = (hz_rd h i 5 2 fun v => q_M_read S f 49 L (v :: st) h) := by rw [q_M_read, hz_w_at d_M_read_46]; rfl
theorem d_M_read_49 : decode c_M_read 49 = .ok (.iload_n 2, 1) := by decide +kernel
theorem e_M_read_49 {a0 a1 : Option Value} : q_M_read S (f + 1) 49 [a0, a1, some (.int x)] st h = (q_M_read S f 50 [a0, a1, some (.int x)] (.int x :: st) h) := by rw [q_M_read, hz_w_at d_M_read_49]; rfl
theorem d_M_read_50 : decode c_M_read 50 = .ok (.iaload, 1) := by decide +kernel
theorem e_M_read_50 : q_M_read S (f + 1) 50 L (.int x :: .ref i :: st) h = (hz_ea zKT hz_kI h i x fun v => q_M_read S f 51 L (v :: st) h) := by rw [q_M_read, hz_w_at d_M_read_50]; rfl
theorem d_M_read_51 : decode c_M_read 51 = .ok (.iload_n 2, 1) := by decide +kernel
theorem e_M_read_51 {a0 a1 : Option Value} : q_M_read S (f + 1) 51 [a0, a1, some (.int x)] st h = (q_M_read S f 52 [a0, a1, some (.int x)] (.int x :: st) h) := by rw [q_M_read, hz_w_at d_M_read_51]; rfl
theorem d_M_read_52 : decode c_M_read 52 = .ok (.invokevirtual 130, 3) := by decide +kernel
theorem e_M_read_52 : q_M_read S (f + 1) 52 L st h = (S 52 L st h) := by rw [q_M_read, hz_w_at d_M_read_52]; rfl
theorem d_M_read_55 : decode c_M_read 55 = .ok (.ifCond .ne 7, 3) := by decide +kernel
theorem e_M_read_55 : q_M_read S (f + 1) 55 L (.int x :: st) h = ((¬ x.toInt = 0 → q_M_read S f 62 L st h) ∧ (¬ (¬ x.toInt = 0) → q_M_read S f 58 L st h)) := by rw [q_M_read, hz_w_at d_M_read_55]; rfl
theorem d_M_read_58 : decode c_M_read 58 = .ok (.iconst (-1), 1) := by decide +kernel
theorem e_M_read_58 : q_M_read S (f + 1) 58 L st h = (q_M_read S f 59 L (.int (hz_n (-1)) :: st) h) := by rw [q_M_read, hz_w_at d_M_read_58]; rfl
theorem d_M_read_59 : decode c_M_read 59 = .ok (.iload_n 2, 1) := by decide +kernel
theorem e_M_read_59 {a0 a1 : Option Value} : q_M_read S (f + 1) 59 [a0, a1, some (.int x)] st h = (q_M_read S f 60 [a0, a1, some (.int x)] (.int x :: st) h) := by rw [q_M_read, hz_w_at d_M_read_59]; rfl
theorem d_M_read_60 : decode c_M_read 60 = .ok (.isub, 1) := by decide +kernel
theorem e_M_read_60 : q_M_read S (f + 1) 60 L (.int y :: .int x :: st) h = (q_M_read S f 61 L (.int (x - y) :: st) h) := by rw [q_M_read, hz_w_at d_M_read_60]; rfl
theorem d_M_read_61 : decode c_M_read 61 = .ok (.ireturn, 1) := by decide +kernel
theorem e_M_read_61 : q_M_read S (f + 1) 61 L st h = (S 61 L st h) := by rw [q_M_read, hz_w_at d_M_read_61]; rfl
theorem d_M_read_62 : decode c_M_read 62 = .ok (.iinc 2 1, 3) := by decide +kernel
theorem e_M_read_62 {a0 a1 : Option Value} : q_M_read S (f + 1) 62 [a0, a1, some (.int x)] st h = (q_M_read S f 65 [a0, a1, some (.int (x + hz_n 1))] st h) := by rw [q_M_read, hz_w_at d_M_read_62]; rfl
theorem d_M_read_65 : decode c_M_read 65 = .ok (.goto (-26), 3) := by decide +kernel
theorem e_M_read_65 : q_M_read S (f + 1) 65 L st h = (S 39 L st h) := by rw [q_M_read, hz_w_at d_M_read_65]; rfl
theorem d_M_read_68 : decode c_M_read 68 = .ok (.aload_n 0, 1) := by decide +kernel
theorem e_M_read_68 {a1 a2 : Option Value} : q_M_read S (f + 1) 68 [some (.ref i), a1, a2] st h = (q_M_read S f 69 [some (.ref i), a1, a2] (.ref i :: st) h) := by rw [q_M_read, hz_w_at d_M_read_68]; rfl
theorem e_M_read_68n {a1 a2 : Option Value} : q_M_read S (f + 1) 68 [some .null, a1, a2] st h = (q_M_read S f 69 [some .null, a1, a2] (.null :: st) h) := by rw [q_M_read, hz_w_at d_M_read_68]; rfl
theorem d_M_read_69 : decode c_M_read 69 = .ok (.getfield 87, 3) := by decide +kernel
theorem e_M_read_69 : q_M_read S (f + 1) 69 L (.ref i :: st) h = (hz_rd h i 5 13 fun v => q_M_read S f 72 L (v :: st) h) := by rw [q_M_read, hz_w_at d_M_read_69]; rfl
theorem d_M_read_72 : decode c_M_read 72 = .ok (.ifCond .le 7, 3) := by decide +kernel
theorem e_M_read_72 : q_M_read S (f + 1) 72 L (.int x :: st) h = ((x.toInt ≤ 0 → q_M_read S f 79 L st h) ∧ (¬ (x.toInt ≤ 0) → q_M_read S f 75 L st h)) := by rw [q_M_read, hz_w_at d_M_read_72]; rfl
theorem d_M_read_75 : decode c_M_read 75 = .ok (.iconst (-1), 1) := by decide +kernel
theorem e_M_read_75 : q_M_read S (f + 1) 75 L st h = (q_M_read S f 76 L (.int (hz_n (-1)) :: st) h) := by rw [q_M_read, hz_w_at d_M_read_75]; rfl
theorem d_M_read_76 : decode c_M_read 76 = .ok (.iload_n 1, 1) := by decide +kernel
theorem e_M_read_76 {a0 a2 : Option Value} : q_M_read S (f + 1) 76 [a0, some (.int x), a2] st h = (q_M_read S f 77 [a0, some (.int x), a2] (.int x :: st) h) := by rw [q_M_read, hz_w_at d_M_read_76]; rfl
theorem d_M_read_77 : decode c_M_read 77 = .ok (.isub, 1) := by decide +kernel
theorem e_M_read_77 : q_M_read S (f + 1) 77 L (.int y :: .int x :: st) h = (q_M_read S f 78 L (.int (x - y) :: st) h) := by rw [q_M_read, hz_w_at d_M_read_77]; rfl
theorem d_M_read_78 : decode c_M_read 78 = .ok (.ireturn, 1) := by decide +kernel
theorem e_M_read_78 : q_M_read S (f + 1) 78 L st h = (S 78 L st h) := by rw [q_M_read, hz_w_at d_M_read_78]; rfl
theorem d_M_read_79 : decode c_M_read 79 = .ok (.sipush 1040, 3) := by decide +kernel
theorem e_M_read_79 : q_M_read S (f + 1) 79 L st h = (q_M_read S f 82 L (.int (hz_n 1040) :: st) h) := by rw [q_M_read, hz_w_at d_M_read_79]; rfl
theorem d_M_read_82 : decode c_M_read 82 = .ok (.istore_n 2, 1) := by decide +kernel
theorem e_M_read_82 {a0 a1 a2 : Option Value} : q_M_read S (f + 1) 82 [a0, a1, a2] (.int x :: st) h = (S 83 [a0, a1, some (.int x)] st h) := by rw [q_M_read, hz_w_at d_M_read_82]; rfl
theorem d_M_read_83 : decode c_M_read 83 = .ok (.iload_n 2, 1) := by decide +kernel
theorem e_M_read_83 {a0 a1 : Option Value} : q_M_read S (f + 1) 83 [a0, a1, some (.int x)] st h = (q_M_read S f 84 [a0, a1, some (.int x)] (.int x :: st) h) := by rw [q_M_read, hz_w_at d_M_read_83]; rfl
theorem d_M_read_84 : decode c_M_read 84 = .ok (.aload_n 0, 1) := by decide +kernel
theorem e_M_read_84 {a1 a2 : Option Value} : q_M_read S (f + 1) 84 [some (.ref i), a1, a2] st h = (q_M_read S f 85 [some (.ref i), a1, a2] (.ref i :: st) h) := by rw [q_M_read, hz_w_at d_M_read_84]; rfl
theorem e_M_read_84n {a1 a2 : Option Value} : q_M_read S (f + 1) 84 [some .null, a1, a2] st h = (q_M_read S f 85 [some .null, a1, a2] (.null :: st) h) := by rw [q_M_read, hz_w_at d_M_read_84]; rfl
theorem d_M_read_85 : decode c_M_read 85 = .ok (.getfield 90, 3) := by decide +kernel
theorem e_M_read_85 : q_M_read S (f + 1) 85 L (.ref i :: st) h = (hz_rd h i 5 12 fun v => q_M_read S f 88 L (v :: st) h) := by rw [q_M_read, hz_w_at d_M_read_85]; rfl
theorem d_M_read_88 : decode c_M_read 88 = .ok (.if_icmp .ge 41, 3) := by decide +kernel
theorem e_M_read_88 : q_M_read S (f + 1) 88 L (.int y :: .int x :: st) h = ((y.toInt ≤ x.toInt → q_M_read S f 129 L st h) ∧ (¬ (y.toInt ≤ x.toInt) → q_M_read S f 91 L st h)) := by rw [q_M_read, hz_w_at d_M_read_88]; rfl
theorem d_M_read_91 : decode c_M_read 91 = .ok (.aload_n 0, 1) := by decide +kernel
theorem e_M_read_91 {a1 a2 : Option Value} : q_M_read S (f + 1) 91 [some (.ref i), a1, a2] st h = (q_M_read S f 92 [some (.ref i), a1, a2] (.ref i :: st) h) := by rw [q_M_read, hz_w_at d_M_read_91]; rfl
theorem e_M_read_91n {a1 a2 : Option Value} : q_M_read S (f + 1) 91 [some .null, a1, a2] st h = (q_M_read S f 92 [some .null, a1, a2] (.null :: st) h) := by rw [q_M_read, hz_w_at d_M_read_91]; rfl
theorem d_M_read_92 : decode c_M_read 92 = .ok (.getfield 26, 3) := by decide +kernel
theorem e_M_read_92 : q_M_read S (f + 1) 92 L (.ref i :: st) h = (hz_rd h i 5 8 fun v => q_M_read S f 95 L (v :: st) h) := by rw [q_M_read, hz_w_at d_M_read_92]; rfl
theorem d_M_read_95 : decode c_M_read 95 = .ok (.iload_n 2, 1) := by decide +kernel
theorem e_M_read_95 {a0 a1 : Option Value} : q_M_read S (f + 1) 95 [a0, a1, some (.int x)] st h = (q_M_read S f 96 [a0, a1, some (.int x)] (.int x :: st) h) := by rw [q_M_read, hz_w_at d_M_read_95]; rfl
theorem d_M_read_96 : decode c_M_read 96 = .ok (.iaload, 1) := by decide +kernel
theorem e_M_read_96 : q_M_read S (f + 1) 96 L (.int x :: .ref i :: st) h = (hz_ea zKT hz_kI h i x fun v => q_M_read S f 97 L (v :: st) h) := by rw [q_M_read, hz_w_at d_M_read_96]; rfl
theorem d_M_read_97 : decode c_M_read 97 = .ok (.iconst 1, 1) := by decide +kernel
theorem e_M_read_97 : q_M_read S (f + 1) 97 L st h = (q_M_read S f 98 L (.int (hz_n 1) :: st) h) := by rw [q_M_read, hz_w_at d_M_read_97]; rfl
theorem d_M_read_98 : decode c_M_read 98 = .ok (.if_icmp .ne 25, 3) := by decide +kernel
theorem e_M_read_98 : q_M_read S (f + 1) 98 L (.int y :: .int x :: st) h = ((¬ x.toInt = y.toInt → q_M_read S f 123 L st h) ∧ (¬ (¬ x.toInt = y.toInt) → q_M_read S f 101 L st h)) := by rw [q_M_read, hz_w_at d_M_read_98]; rfl
theorem d_M_read_101 : decode c_M_read 101 = .ok (.aload_n 0, 1) := by decide +kernel
theorem e_M_read_101 {a1 a2 : Option Value} : q_M_read S (f + 1) 101 [some (.ref i), a1, a2] st h = (q_M_read S f 102 [some (.ref i), a1, a2] (.ref i :: st) h) := by rw [q_M_read, hz_w_at d_M_read_101]; rfl
theorem e_M_read_101n {a1 a2 : Option Value} : q_M_read S (f + 1) 101 [some .null, a1, a2] st h = (q_M_read S f 102 [some .null, a1, a2] (.null :: st) h) := by rw [q_M_read, hz_w_at d_M_read_101]; rfl
theorem d_M_read_102 : decode c_M_read 102 = .ok (.iload_n 2, 1) := by decide +kernel
theorem e_M_read_102 {a0 a1 : Option Value} : q_M_read S (f + 1) 102 [a0, a1, some (.int x)] st h = (q_M_read S f 103 [a0, a1, some (.int x)] (.int x :: st) h) := by rw [q_M_read, hz_w_at d_M_read_102]; rfl
theorem d_M_read_103 : decode c_M_read 103 = .ok (.invokevirtual 134, 3) := by decide +kernel
theorem e_M_read_103 : q_M_read S (f + 1) 103 L st h = (S 103 L st h) := by rw [q_M_read, hz_w_at d_M_read_103]; rfl
theorem d_M_read_106 : decode c_M_read 106 = .ok (.ifCond .ne 17, 3) := by decide +kernel
theorem e_M_read_106 : q_M_read S (f + 1) 106 L (.int x :: st) h = ((¬ x.toInt = 0 → q_M_read S f 123 L st h) ∧ (¬ (¬ x.toInt = 0) → q_M_read S f 109 L st h)) := by rw [q_M_read, hz_w_at d_M_read_106]; rfl
theorem d_M_read_109 : decode c_M_read 109 = .ok (.bipush (-100), 2) := by decide +kernel
theorem e_M_read_109 : q_M_read S (f + 1) 109 L st h = (q_M_read S f 111 L (.int (hz_n (-100)) :: st) h) := by rw [q_M_read, hz_w_at d_M_read_109]; rfl
theorem d_M_read_111 : decode c_M_read 111 = .ok (.aload_n 0, 1) := by decide +kernel
theorem e_M_read_111 {a1 a2 : Option Value} : q_M_read S (f + 1) 111 [some (.ref i), a1, a2] st h = (q_M_read S f 112 [some (.ref i), a1, a2] (.ref i :: st) h) := by rw [q_M_read, hz_w_at d_M_read_111]; rfl
theorem e_M_read_111n {a1 a2 : Option Value} : q_M_read S (f + 1) 111 [some .null, a1, a2] st h = (q_M_read S f 112 [some .null, a1, a2] (.null :: st) h) := by rw [q_M_read, hz_w_at d_M_read_111]; rfl
theorem d_M_read_112 : decode c_M_read 112 = .ok (.getfield 35, 3) := by decide +kernel
theorem e_M_read_112 : q_M_read S (f + 1) 112 L (.ref i :: st) h = (hz_rd h i 5 11 fun v => q_M_read S f 115 L (v :: st) h) := by rw [q_M_read, hz_w_at d_M_read_112]; rfl
theorem d_M_read_115 : decode c_M_read 115 = .ok (.iload_n 2, 1) := by decide +kernel
theorem e_M_read_115 {a0 a1 : Option Value} : q_M_read S (f + 1) 115 [a0, a1, some (.int x)] st h = (q_M_read S f 116 [a0, a1, some (.int x)] (.int x :: st) h) := by rw [q_M_read, hz_w_at d_M_read_115]; rfl
theorem d_M_read_116 : decode c_M_read 116 = .ok (.sipush 1040, 3) := by decide +kernel
theorem e_M_read_116 : q_M_read S (f + 1) 116 L st h = (q_M_read S f 119 L (.int (hz_n 1040) :: st) h) := by rw [q_M_read, hz_w_at d_M_read_116]; rfl
theorem d_M_read_119 : decode c_M_read 119 = .ok (.isub, 1) := by decide +kernel
theorem e_M_read_119 : q_M_read S (f + 1) 119 L (.int y :: .int x :: st) h = (q_M_read S f 120 L (.int (x - y) :: st) h) := by rw [q_M_read, hz_w_at d_M_read_119]; rfl
theorem d_M_read_120 : decode c_M_read 120 = .ok (.iaload, 1) := by decide +kernel
theorem e_M_read_120 : q_M_read S (f + 1) 120 L (.int x :: .ref i :: st) h = (hz_ea zKT hz_kI h i x fun v => q_M_read S f 121 L (v :: st) h) := by rw [q_M_read, hz_w_at d_M_read_120]; rfl
theorem d_M_read_121 : decode c_M_read 121 = .ok (.isub, 1) := by decide +kernel
theorem e_M_read_121 : q_M_read S (f + 1) 121 L (.int y :: .int x :: st) h = (q_M_read S f 122 L (.int (x - y) :: st) h) := by rw [q_M_read, hz_w_at d_M_read_121]; rfl
theorem d_M_read_122 : decode c_M_read 122 = .ok (.ireturn, 1) := by decide +kernel
theorem e_M_read_122 : q_M_read S (f + 1) 122 L st h = (S 122 L st h) := by rw [q_M_read, hz_w_at d_M_read_122]; rfl
theorem d_M_read_123 : decode c_M_read 123 = .ok (.iinc 2 1, 3) := by decide +kernel
theorem e_M_read_123 {a0 a1 : Option Value} : q_M_read S (f + 1) 123 [a0, a1, some (.int x)] st h = (q_M_read S f 126 [a0, a1, some (.int (x + hz_n 1))] st h) := by rw [q_M_read, hz_w_at d_M_read_123]; rfl
theorem d_M_read_126 : decode c_M_read 126 = .ok (.goto (-43), 3) := by decide +kernel
theorem e_M_read_126 : q_M_read S (f + 1) 126 L st h = (S 83 L st h) := by rw [q_M_read, hz_w_at d_M_read_126]; rfl
theorem d_M_read_129 : decode c_M_read 129 = .ok (.iconst 0, 1) := by decide +kernel
theorem e_M_read_129 : q_M_read S (f + 1) 129 L st h = (q_M_read S f 130 L (.int (hz_n 0) :: st) h) := by rw [q_M_read, hz_w_at d_M_read_129]; rfl
theorem d_M_read_130 : decode c_M_read 130 = .ok (.ireturn, 1) := by decide +kernel
theorem e_M_read_130 : q_M_read S (f + 1) 130 L st h = (S 130 L st h) := by rw [q_M_read, hz_w_at d_M_read_130]; rfl
end
abbrev q_M_define (S : Nat → List (Option Value) → List Value → hz_H → Prop) := hz_w zCl zKT f_M n_M c_M_define [64, 100] S
section
variable {S : Nat → List (Option Value) → List Value → hz_H → Prop} {f : Nat} {L : List (Option Value)} {st : List Value} {h : hz_H} {x y : Int32} {i j : Nat} {X Y : Int64}
theorem d_M_define_0 : decode c_M_define 0 = .ok (.aload_n 0, 1) := by decide +kernel
theorem e_M_define_0 {a1 a2 a3 a4 : Option Value} : q_M_define S (f + 1) 0 [some (.ref i), a1, a2, a3, a4] st h = (q_M_define S f 1 [some (.ref i), a1, a2, a3, a4] (.ref i :: st) h) := by rw [q_M_define, hz_w_at d_M_define_0]; rfl
theorem e_M_define_0n {a1 a2 a3 a4 : Option Value} : q_M_define S (f + 1) 0 [some .null, a1, a2, a3, a4] st h = (q_M_define S f 1 [some .null, a1, a2, a3, a4] (.null :: st) h) := by rw [q_M_define, hz_w_at d_M_define_0]; rfl
theorem d_M_define_1 : decode c_M_define 1 = .ok (.iload_n 1, 1) := by decide +kernel
theorem e_M_define_1 {a0 a2 a3 a4 : Option Value} : q_M_define S (f + 1) 1 [a0, some (.int x), a2, a3, a4] st h = (q_M_define S f 2 [a0, some (.int x), a2, a3, a4] (.int x :: st) h) := by rw [q_M_define, hz_w_at d_M_define_1]; rfl
theorem d_M_define_2 : decode c_M_define 2 = .ok (.invokestatic 101, 3) := by decide +kernel
theorem e_M_define_2 : q_M_define S (f + 1) 2 L st h = (S 2 L st h) := by rw [q_M_define, hz_w_at d_M_define_2]; rfl
theorem d_M_define_5 : decode c_M_define 5 = .ok (.ifCond .eq 7, 3) := by decide +kernel
theorem e_M_define_5 : q_M_define S (f + 1) 5 L (.int x :: st) h = ((x.toInt = 0 → q_M_define S f 12 L st h) ∧ (¬ (x.toInt = 0) → q_M_define S f 8 L st h)) := by rw [q_M_define, hz_w_at d_M_define_5]; rfl
theorem d_M_define_8 : decode c_M_define 8 = .ok (.iconst 0, 1) := by decide +kernel
theorem e_M_define_8 : q_M_define S (f + 1) 8 L st h = (q_M_define S f 9 L (.int (hz_n 0) :: st) h) := by rw [q_M_define, hz_w_at d_M_define_8]; rfl
theorem d_M_define_9 : decode c_M_define 9 = .ok (.goto 4, 3) := by decide +kernel
theorem e_M_define_9 : q_M_define S (f + 1) 9 L st h = (q_M_define S f 13 L st h) := by rw [q_M_define, hz_w_at d_M_define_9]; rfl
theorem d_M_define_12 : decode c_M_define 12 = .ok (.iconst 1, 1) := by decide +kernel
theorem e_M_define_12 : q_M_define S (f + 1) 12 L st h = (q_M_define S f 13 L (.int (hz_n 1) :: st) h) := by rw [q_M_define, hz_w_at d_M_define_12]; rfl
theorem d_M_define_13 : decode c_M_define 13 = .ok (.putfield 80, 3) := by decide +kernel
theorem e_M_define_13 : q_M_define S (f + 1) 13 L (.int x :: .ref i :: st) h = (hz_wr h i 5 0 (.int x) fun h => q_M_define S f 16 L st h) := by rw [q_M_define, hz_w_at d_M_define_13]; rfl
theorem d_M_define_16 : decode c_M_define 16 = .ok (.aload_n 0, 1) := by decide +kernel
theorem e_M_define_16 {a1 a2 a3 a4 : Option Value} : q_M_define S (f + 1) 16 [some (.ref i), a1, a2, a3, a4] st h = (q_M_define S f 17 [some (.ref i), a1, a2, a3, a4] (.ref i :: st) h) := by rw [q_M_define, hz_w_at d_M_define_16]; rfl
theorem e_M_define_16n {a1 a2 a3 a4 : Option Value} : q_M_define S (f + 1) 16 [some .null, a1, a2, a3, a4] st h = (q_M_define S f 17 [some .null, a1, a2, a3, a4] (.null :: st) h) := by rw [q_M_define, hz_w_at d_M_define_16]; rfl
theorem d_M_define_17 : decode c_M_define 17 = .ok (.getfield 80, 3) := by decide +kernel
theorem e_M_define_17 : q_M_define S (f + 1) 17 L (.ref i :: st) h = (hz_rd h i 5 0 fun v => q_M_define S f 20 L (v :: st) h) := by rw [q_M_define, hz_w_at d_M_define_17]; rfl
theorem d_M_define_20 : decode c_M_define 20 = .ok (.ifCond .le 5, 3) := by decide +kernel
theorem e_M_define_20 : q_M_define S (f + 1) 20 L (.int x :: st) h = ((x.toInt ≤ 0 → q_M_define S f 25 L st h) ∧ (¬ (x.toInt ≤ 0) → q_M_define S f 23 L st h)) := by rw [q_M_define, hz_w_at d_M_define_20]; rfl
theorem d_M_define_23 : decode c_M_define 23 = .ok (.iconst 0, 1) := by decide +kernel
theorem e_M_define_23 : q_M_define S (f + 1) 23 L st h = (q_M_define S f 24 L (.int (hz_n 0) :: st) h) := by rw [q_M_define, hz_w_at d_M_define_23]; rfl
theorem d_M_define_24 : decode c_M_define 24 = .ok (.ireturn, 1) := by decide +kernel
theorem e_M_define_24 : q_M_define S (f + 1) 24 L st h = (S 24 L st h) := by rw [q_M_define, hz_w_at d_M_define_24]; rfl
theorem d_M_define_25 : decode c_M_define 25 = .ok (.iload_n 1, 1) := by decide +kernel
theorem e_M_define_25 {a0 a2 a3 a4 : Option Value} : q_M_define S (f + 1) 25 [a0, some (.int x), a2, a3, a4] st h = (q_M_define S f 26 [a0, some (.int x), a2, a3, a4] (.int x :: st) h) := by rw [q_M_define, hz_w_at d_M_define_25]; rfl
theorem d_M_define_26 : decode c_M_define 26 = .ok (.bipush 65, 2) := by decide +kernel
theorem e_M_define_26 : q_M_define S (f + 1) 26 L st h = (q_M_define S f 28 L (.int (hz_n 65) :: st) h) := by rw [q_M_define, hz_w_at d_M_define_26]; rfl
theorem d_M_define_28 : decode c_M_define 28 = .ok (.isub, 1) := by decide +kernel
theorem e_M_define_28 : q_M_define S (f + 1) 28 L (.int y :: .int x :: st) h = (q_M_define S f 29 L (.int (x - y) :: st) h) := by rw [q_M_define, hz_w_at d_M_define_28]; rfl
theorem d_M_define_29 : decode c_M_define 29 = .ok (.istore_n 2, 1) := by decide +kernel
theorem e_M_define_29 {a0 a1 a2 a3 a4 : Option Value} : q_M_define S (f + 1) 29 [a0, a1, a2, a3, a4] (.int x :: st) h = (q_M_define S f 30 [a0, a1, some (.int x), a3, a4] st h) := by rw [q_M_define, hz_w_at d_M_define_29]; rfl
theorem d_M_define_30 : decode c_M_define 30 = .ok (.aload_n 0, 1) := by decide +kernel
theorem e_M_define_30 {a1 a2 a3 a4 : Option Value} : q_M_define S (f + 1) 30 [some (.ref i), a1, a2, a3, a4] st h = (q_M_define S f 31 [some (.ref i), a1, a2, a3, a4] (.ref i :: st) h) := by rw [q_M_define, hz_w_at d_M_define_30]; rfl
theorem e_M_define_30n {a1 a2 a3 a4 : Option Value} : q_M_define S (f + 1) 30 [some .null, a1, a2, a3, a4] st h = (q_M_define S f 31 [some .null, a1, a2, a3, a4] (.null :: st) h) := by rw [q_M_define, hz_w_at d_M_define_30]; rfl
theorem d_M_define_31 : decode c_M_define 31 = .ok (.invokevirtual 137, 3) := by decide +kernel
theorem e_M_define_31 : q_M_define S (f + 1) 31 L st h = (S 31 L st h) := by rw [q_M_define, hz_w_at d_M_define_31]; rfl
theorem d_M_define_34 : decode c_M_define 34 = .ok (.istore_n 3, 1) := by decide +kernel
theorem e_M_define_34 {a0 a1 a2 a3 a4 : Option Value} : q_M_define S (f + 1) 34 [a0, a1, a2, a3, a4] (.int x :: st) h = (q_M_define S f 35 [a0, a1, a2, some (.int x), a4] st h) := by rw [q_M_define, hz_w_at d_M_define_34]; rfl
theorem d_M_define_35 : decode c_M_define 35 = .ok (.iload_n 3, 1) := by decide +kernel
theorem e_M_define_35 {a0 a1 a2 a4 : Option Value} : q_M_define S (f + 1) 35 [a0, a1, a2, some (.int x), a4] st h = (q_M_define S f 36 [a0, a1, a2, some (.int x), a4] (.int x :: st) h) := by rw [q_M_define, hz_w_at d_M_define_35]; rfl
theorem d_M_define_36 : decode c_M_define 36 = .ok (.ifCond .ge 5, 3) := by decide +kernel
theorem e_M_define_36 : q_M_define S (f + 1) 36 L (.int x :: st) h = ((0 ≤ x.toInt → q_M_define S f 41 L st h) ∧ (¬ (0 ≤ x.toInt) → q_M_define S f 39 L st h)) := by rw [q_M_define, hz_w_at d_M_define_36]; rfl
theorem d_M_define_39 : decode c_M_define 39 = .ok (.iload_n 3, 1) := by decide +kernel
theorem e_M_define_39 {a0 a1 a2 a4 : Option Value} : q_M_define S (f + 1) 39 [a0, a1, a2, some (.int x), a4] st h = (q_M_define S f 40 [a0, a1, a2, some (.int x), a4] (.int x :: st) h) := by rw [q_M_define, hz_w_at d_M_define_39]; rfl
theorem d_M_define_40 : decode c_M_define 40 = .ok (.ireturn, 1) := by decide +kernel
theorem e_M_define_40 : q_M_define S (f + 1) 40 L st h = (S 40 L st h) := by rw [q_M_define, hz_w_at d_M_define_40]; rfl
theorem d_M_define_41 : decode c_M_define 41 = .ok (.aload_n 0, 1) := by decide +kernel
theorem e_M_define_41 {a1 a2 a3 a4 : Option Value} : q_M_define S (f + 1) 41 [some (.ref i), a1, a2, a3, a4] st h = (q_M_define S f 42 [some (.ref i), a1, a2, a3, a4] (.ref i :: st) h) := by rw [q_M_define, hz_w_at d_M_define_41]; rfl
theorem e_M_define_41n {a1 a2 a3 a4 : Option Value} : q_M_define S (f + 1) 41 [some .null, a1, a2, a3, a4] st h = (q_M_define S f 42 [some .null, a1, a2, a3, a4] (.null :: st) h) := by rw [q_M_define, hz_w_at d_M_define_41]; rfl
theorem d_M_define_42 : decode c_M_define 42 = .ok (.getfield 16, 3) := by decide +kernel
theorem e_M_define_42 : q_M_define S (f + 1) 42 L (.ref i :: st) h = (hz_rd h i 5 5 fun v => q_M_define S f 45 L (v :: st) h) := by rw [q_M_define, hz_w_at d_M_define_42]; rfl
theorem d_M_define_45 : decode c_M_define 45 = .ok (.iload_n 2, 1) := by decide +kernel
theorem e_M_define_45 {a0 a1 a3 a4 : Option Value} : q_M_define S (f + 1) 45 [a0, a1, some (.int x), a3, a4] st h = (q_M_define S f 46 [a0, a1, some (.int x), a3, a4] (.int x :: st) h) := by rw [q_M_define, hz_w_at d_M_define_45]; rfl
theorem d_M_define_46 : decode c_M_define 46 = .ok (.iconst 1, 1) := by decide +kernel
theorem e_M_define_46 : q_M_define S (f + 1) 46 L st h = (q_M_define S f 47 L (.int (hz_n 1) :: st) h) := by rw [q_M_define, hz_w_at d_M_define_46]; rfl
theorem d_M_define_47 : decode c_M_define 47 = .ok (.bastore, 1) := by decide +kernel
theorem e_M_define_47 : q_M_define S (f + 1) 47 L (.int y :: .int x :: .ref i :: st) h = (narrow .boolean (.int y) = .int y ∧ hz_es zKT hz_kZ h i x (.int y) fun h => q_M_define S f 48 L st h) := by rw [q_M_define, hz_w_at d_M_define_47]; rfl
theorem d_M_define_48 : decode c_M_define 48 = .ok (.aload_n 0, 1) := by decide +kernel
theorem e_M_define_48 {a1 a2 a3 a4 : Option Value} : q_M_define S (f + 1) 48 [some (.ref i), a1, a2, a3, a4] st h = (q_M_define S f 49 [some (.ref i), a1, a2, a3, a4] (.ref i :: st) h) := by rw [q_M_define, hz_w_at d_M_define_48]; rfl
theorem e_M_define_48n {a1 a2 a3 a4 : Option Value} : q_M_define S (f + 1) 48 [some .null, a1, a2, a3, a4] st h = (q_M_define S f 49 [some .null, a1, a2, a3, a4] (.null :: st) h) := by rw [q_M_define, hz_w_at d_M_define_48]; rfl
theorem d_M_define_49 : decode c_M_define 49 = .ok (.getfield 20, 3) := by decide +kernel
theorem e_M_define_49 : q_M_define S (f + 1) 49 L (.ref i :: st) h = (hz_rd h i 5 6 fun v => q_M_define S f 52 L (v :: st) h) := by rw [q_M_define, hz_w_at d_M_define_49]; rfl
theorem d_M_define_52 : decode c_M_define 52 = .ok (.iload_n 2, 1) := by decide +kernel
theorem e_M_define_52 {a0 a1 a3 a4 : Option Value} : q_M_define S (f + 1) 52 [a0, a1, some (.int x), a3, a4] st h = (q_M_define S f 53 [a0, a1, some (.int x), a3, a4] (.int x :: st) h) := by rw [q_M_define, hz_w_at d_M_define_52]; rfl
theorem d_M_define_53 : decode c_M_define 53 = .ok (.aload_n 0, 1) := by decide +kernel
theorem e_M_define_53 {a1 a2 a3 a4 : Option Value} : q_M_define S (f + 1) 53 [some (.ref i), a1, a2, a3, a4] st h = (q_M_define S f 54 [some (.ref i), a1, a2, a3, a4] (.ref i :: st) h) := by rw [q_M_define, hz_w_at d_M_define_53]; rfl
theorem e_M_define_53n {a1 a2 a3 a4 : Option Value} : q_M_define S (f + 1) 53 [some .null, a1, a2, a3, a4] st h = (q_M_define S f 54 [some .null, a1, a2, a3, a4] (.null :: st) h) := by rw [q_M_define, hz_w_at d_M_define_53]; rfl
theorem d_M_define_54 : decode c_M_define 54 = .ok (.getfield 20, 3) := by decide +kernel
theorem e_M_define_54 : q_M_define S (f + 1) 54 L (.ref i :: st) h = (hz_rd h i 5 6 fun v => q_M_define S f 57 L (v :: st) h) := by rw [q_M_define, hz_w_at d_M_define_54]; rfl
theorem d_M_define_57 : decode c_M_define 57 = .ok (.bipush 26, 2) := by decide +kernel
theorem e_M_define_57 : q_M_define S (f + 1) 57 L st h = (q_M_define S f 59 L (.int (hz_n 26) :: st) h) := by rw [q_M_define, hz_w_at d_M_define_57]; rfl
theorem d_M_define_59 : decode c_M_define 59 = .ok (.iaload, 1) := by decide +kernel
theorem e_M_define_59 : q_M_define S (f + 1) 59 L (.int x :: .ref i :: st) h = (hz_ea zKT hz_kI h i x fun v => q_M_define S f 60 L (v :: st) h) := by rw [q_M_define, hz_w_at d_M_define_59]; rfl
theorem d_M_define_60 : decode c_M_define 60 = .ok (.iastore, 1) := by decide +kernel
theorem e_M_define_60 : q_M_define S (f + 1) 60 L (.int y :: .int x :: .ref i :: st) h = (hz_es zKT hz_kI h i x (.int y) fun h => q_M_define S f 61 L st h) := by rw [q_M_define, hz_w_at d_M_define_60]; rfl
theorem d_M_define_61 : decode c_M_define 61 = .ok (.iconst 0, 1) := by decide +kernel
theorem e_M_define_61 : q_M_define S (f + 1) 61 L st h = (q_M_define S f 62 L (.int (hz_n 0) :: st) h) := by rw [q_M_define, hz_w_at d_M_define_61]; rfl
theorem d_M_define_62 : decode c_M_define 62 = .ok (.istore 4, 2) := by decide +kernel
theorem e_M_define_62 {a0 a1 a2 a3 a4 : Option Value} : q_M_define S (f + 1) 62 [a0, a1, a2, a3, a4] (.int x :: st) h = (S 64 [a0, a1, a2, a3, some (.int x)] st h) := by rw [q_M_define, hz_w_at d_M_define_62]; rfl
theorem d_M_define_64 : decode c_M_define 64 = .ok (.iload 4, 2) := by decide +kernel
theorem e_M_define_64 {a0 a1 a2 a3 : Option Value} : q_M_define S (f + 1) 64 [a0, a1, a2, a3, some (.int x)] st h = (q_M_define S f 66 [a0, a1, a2, a3, some (.int x)] (.int x :: st) h) := by rw [q_M_define, hz_w_at d_M_define_64]; rfl
theorem d_M_define_66 : decode c_M_define 66 = .ok (.iconst 4, 1) := by decide +kernel
theorem e_M_define_66 : q_M_define S (f + 1) 66 L st h = (q_M_define S f 67 L (.int (hz_n 4) :: st) h) := by rw [q_M_define, hz_w_at d_M_define_66]; rfl
theorem d_M_define_67 : decode c_M_define 67 = .ok (.if_icmp .ge 30, 3) := by decide +kernel
theorem e_M_define_67 : q_M_define S (f + 1) 67 L (.int y :: .int x :: st) h = ((y.toInt ≤ x.toInt → q_M_define S f 97 L st h) ∧ (¬ (y.toInt ≤ x.toInt) → q_M_define S f 70 L st h)) := by rw [q_M_define, hz_w_at d_M_define_67]; rfl
theorem d_M_define_70 : decode c_M_define 70 = .ok (.aload_n 0, 1) := by decide +kernel
theorem e_M_define_70 {a1 a2 a3 a4 : Option Value} : q_M_define S (f + 1) 70 [some (.ref i), a1, a2, a3, a4] st h = (q_M_define S f 71 [some (.ref i), a1, a2, a3, a4] (.ref i :: st) h) := by rw [q_M_define, hz_w_at d_M_define_70]; rfl
theorem e_M_define_70n {a1 a2 a3 a4 : Option Value} : q_M_define S (f + 1) 70 [some .null, a1, a2, a3, a4] st h = (q_M_define S f 71 [some .null, a1, a2, a3, a4] (.null :: st) h) := by rw [q_M_define, hz_w_at d_M_define_70]; rfl
theorem d_M_define_71 : decode c_M_define 71 = .ok (.getfield 23, 3) := by decide +kernel
theorem e_M_define_71 : q_M_define S (f + 1) 71 L (.ref i :: st) h = (hz_rd h i 5 7 fun v => q_M_define S f 74 L (v :: st) h) := by rw [q_M_define, hz_w_at d_M_define_71]; rfl
theorem d_M_define_74 : decode c_M_define 74 = .ok (.iconst 4, 1) := by decide +kernel
theorem e_M_define_74 : q_M_define S (f + 1) 74 L st h = (q_M_define S f 75 L (.int (hz_n 4) :: st) h) := by rw [q_M_define, hz_w_at d_M_define_74]; rfl
theorem d_M_define_75 : decode c_M_define 75 = .ok (.iload_n 2, 1) := by decide +kernel
theorem e_M_define_75 {a0 a1 a3 a4 : Option Value} : q_M_define S (f + 1) 75 [a0, a1, some (.int x), a3, a4] st h = (q_M_define S f 76 [a0, a1, some (.int x), a3, a4] (.int x :: st) h) := by rw [q_M_define, hz_w_at d_M_define_75]; rfl
theorem d_M_define_76 : decode c_M_define 76 = .ok (.imul, 1) := by decide +kernel
theorem e_M_define_76 : q_M_define S (f + 1) 76 L (.int y :: .int x :: st) h = (q_M_define S f 77 L (.int (x * y) :: st) h) := by rw [q_M_define, hz_w_at d_M_define_76]; rfl
theorem d_M_define_77 : decode c_M_define 77 = .ok (.iload 4, 2) := by decide +kernel
theorem e_M_define_77 {a0 a1 a2 a3 : Option Value} : q_M_define S (f + 1) 77 [a0, a1, a2, a3, some (.int x)] st h = (q_M_define S f 79 [a0, a1, a2, a3, some (.int x)] (.int x :: st) h) := by rw [q_M_define, hz_w_at d_M_define_77]; rfl
theorem d_M_define_79 : decode c_M_define 79 = .ok (.iadd, 1) := by decide +kernel
theorem e_M_define_79 : q_M_define S (f + 1) 79 L (.int y :: .int x :: st) h = (q_M_define S f 80 L (.int (x + y) :: st) h) := by rw [q_M_define, hz_w_at d_M_define_79]; rfl
theorem d_M_define_80 : decode c_M_define 80 = .ok (.aload_n 0, 1) := by decide +kernel
theorem e_M_define_80 {a1 a2 a3 a4 : Option Value} : q_M_define S (f + 1) 80 [some (.ref i), a1, a2, a3, a4] st h = (q_M_define S f 81 [some (.ref i), a1, a2, a3, a4] (.ref i :: st) h) := by rw [q_M_define, hz_w_at d_M_define_80]; rfl
theorem e_M_define_80n {a1 a2 a3 a4 : Option Value} : q_M_define S (f + 1) 80 [some .null, a1, a2, a3, a4] st h = (q_M_define S f 81 [some .null, a1, a2, a3, a4] (.null :: st) h) := by rw [q_M_define, hz_w_at d_M_define_80]; rfl
theorem d_M_define_81 : decode c_M_define 81 = .ok (.getfield 23, 3) := by decide +kernel
theorem e_M_define_81 : q_M_define S (f + 1) 81 L (.ref i :: st) h = (hz_rd h i 5 7 fun v => q_M_define S f 84 L (v :: st) h) := by rw [q_M_define, hz_w_at d_M_define_81]; rfl
theorem d_M_define_84 : decode c_M_define 84 = .ok (.bipush 104, 2) := by decide +kernel
theorem e_M_define_84 : q_M_define S (f + 1) 84 L st h = (q_M_define S f 86 L (.int (hz_n 104) :: st) h) := by rw [q_M_define, hz_w_at d_M_define_84]; rfl
theorem d_M_define_86 : decode c_M_define 86 = .ok (.iload 4, 2) := by decide +kernel
theorem e_M_define_86 {a0 a1 a2 a3 : Option Value} : q_M_define S (f + 1) 86 [a0, a1, a2, a3, some (.int x)] st h = (q_M_define S f 88 [a0, a1, a2, a3, some (.int x)] (.int x :: st) h) := by rw [q_M_define, hz_w_at d_M_define_86]; rfl
theorem d_M_define_88 : decode c_M_define 88 = .ok (.iadd, 1) := by decide +kernel
theorem e_M_define_88 : q_M_define S (f + 1) 88 L (.int y :: .int x :: st) h = (q_M_define S f 89 L (.int (x + y) :: st) h) := by rw [q_M_define, hz_w_at d_M_define_88]; rfl
theorem d_M_define_89 : decode c_M_define 89 = .ok (.iaload, 1) := by decide +kernel
theorem e_M_define_89 : q_M_define S (f + 1) 89 L (.int x :: .ref i :: st) h = (hz_ea zKT hz_kI h i x fun v => q_M_define S f 90 L (v :: st) h) := by rw [q_M_define, hz_w_at d_M_define_89]; rfl
theorem d_M_define_90 : decode c_M_define 90 = .ok (.iastore, 1) := by decide +kernel
theorem e_M_define_90 : q_M_define S (f + 1) 90 L (.int y :: .int x :: .ref i :: st) h = (hz_es zKT hz_kI h i x (.int y) fun h => q_M_define S f 91 L st h) := by rw [q_M_define, hz_w_at d_M_define_90]; rfl
theorem d_M_define_91 : decode c_M_define 91 = .ok (.iinc 4 1, 3) := by decide +kernel
theorem e_M_define_91 {a0 a1 a2 a3 : Option Value} : q_M_define S (f + 1) 91 [a0, a1, a2, a3, some (.int x)] st h = (q_M_define S f 94 [a0, a1, a2, a3, some (.int (x + hz_n 1))] st h) := by rw [q_M_define, hz_w_at d_M_define_91]; rfl
theorem d_M_define_94 : decode c_M_define 94 = .ok (.goto (-30), 3) := by decide +kernel
theorem e_M_define_94 : q_M_define S (f + 1) 94 L st h = (S 64 L st h) := by rw [q_M_define, hz_w_at d_M_define_94]; rfl
theorem d_M_define_97 : decode c_M_define 97 = .ok (.iconst 0, 1) := by decide +kernel
theorem e_M_define_97 : q_M_define S (f + 1) 97 L st h = (q_M_define S f 98 L (.int (hz_n 0) :: st) h) := by rw [q_M_define, hz_w_at d_M_define_97]; rfl
theorem d_M_define_98 : decode c_M_define 98 = .ok (.istore 4, 2) := by decide +kernel
theorem e_M_define_98 {a0 a1 a2 a3 a4 : Option Value} : q_M_define S (f + 1) 98 [a0, a1, a2, a3, a4] (.int x :: st) h = (S 100 [a0, a1, a2, a3, some (.int x)] st h) := by rw [q_M_define, hz_w_at d_M_define_98]; rfl
theorem d_M_define_100 : decode c_M_define 100 = .ok (.iload 4, 2) := by decide +kernel
theorem e_M_define_100 {a0 a1 a2 a3 : Option Value} : q_M_define S (f + 1) 100 [a0, a1, a2, a3, some (.int x)] st h = (q_M_define S f 102 [a0, a1, a2, a3, some (.int x)] (.int x :: st) h) := by rw [q_M_define, hz_w_at d_M_define_100]; rfl
theorem d_M_define_102 : decode c_M_define 102 = .ok (.bipush 40, 2) := by decide +kernel
theorem e_M_define_102 : q_M_define S (f + 1) 102 L st h = (q_M_define S f 104 L (.int (hz_n 40) :: st) h) := by rw [q_M_define, hz_w_at d_M_define_102]; rfl
theorem d_M_define_104 : decode c_M_define 104 = .ok (.if_icmp .ge 78, 3) := by decide +kernel
theorem e_M_define_104 : q_M_define S (f + 1) 104 L (.int y :: .int x :: st) h = ((y.toInt ≤ x.toInt → q_M_define S f 182 L st h) ∧ (¬ (y.toInt ≤ x.toInt) → q_M_define S f 107 L st h)) := by rw [q_M_define, hz_w_at d_M_define_104]; rfl
theorem d_M_define_107 : decode c_M_define 107 = .ok (.aload_n 0, 1) := by decide +kernel
theorem e_M_define_107 {a1 a2 a3 a4 : Option Value} : q_M_define S (f + 1) 107 [some (.ref i), a1, a2, a3, a4] st h = (q_M_define S f 108 [some (.ref i), a1, a2, a3, a4] (.ref i :: st) h) := by rw [q_M_define, hz_w_at d_M_define_107]; rfl
theorem e_M_define_107n {a1 a2 a3 a4 : Option Value} : q_M_define S (f + 1) 107 [some .null, a1, a2, a3, a4] st h = (q_M_define S f 108 [some .null, a1, a2, a3, a4] (.null :: st) h) := by rw [q_M_define, hz_w_at d_M_define_107]; rfl
theorem d_M_define_108 : decode c_M_define 108 = .ok (.getfield 26, 3) := by decide +kernel
theorem e_M_define_108 : q_M_define S (f + 1) 108 L (.ref i :: st) h = (hz_rd h i 5 8 fun v => q_M_define S f 111 L (v :: st) h) := by rw [q_M_define, hz_w_at d_M_define_108]; rfl
theorem d_M_define_111 : decode c_M_define 111 = .ok (.bipush 40, 2) := by decide +kernel
theorem e_M_define_111 : q_M_define S (f + 1) 111 L st h = (q_M_define S f 113 L (.int (hz_n 40) :: st) h) := by rw [q_M_define, hz_w_at d_M_define_111]; rfl
theorem d_M_define_113 : decode c_M_define 113 = .ok (.iload_n 2, 1) := by decide +kernel
theorem e_M_define_113 {a0 a1 a3 a4 : Option Value} : q_M_define S (f + 1) 113 [a0, a1, some (.int x), a3, a4] st h = (q_M_define S f 114 [a0, a1, some (.int x), a3, a4] (.int x :: st) h) := by rw [q_M_define, hz_w_at d_M_define_113]; rfl
theorem d_M_define_114 : decode c_M_define 114 = .ok (.imul, 1) := by decide +kernel
theorem e_M_define_114 : q_M_define S (f + 1) 114 L (.int y :: .int x :: st) h = (q_M_define S f 115 L (.int (x * y) :: st) h) := by rw [q_M_define, hz_w_at d_M_define_114]; rfl
theorem d_M_define_115 : decode c_M_define 115 = .ok (.iload 4, 2) := by decide +kernel
theorem e_M_define_115 {a0 a1 a2 a3 : Option Value} : q_M_define S (f + 1) 115 [a0, a1, a2, a3, some (.int x)] st h = (q_M_define S f 117 [a0, a1, a2, a3, some (.int x)] (.int x :: st) h) := by rw [q_M_define, hz_w_at d_M_define_115]; rfl
theorem d_M_define_117 : decode c_M_define 117 = .ok (.iadd, 1) := by decide +kernel
theorem e_M_define_117 : q_M_define S (f + 1) 117 L (.int y :: .int x :: st) h = (q_M_define S f 118 L (.int (x + y) :: st) h) := by rw [q_M_define, hz_w_at d_M_define_117]; rfl
theorem d_M_define_118 : decode c_M_define 118 = .ok (.aload_n 0, 1) := by decide +kernel
theorem e_M_define_118 {a1 a2 a3 a4 : Option Value} : q_M_define S (f + 1) 118 [some (.ref i), a1, a2, a3, a4] st h = (q_M_define S f 119 [some (.ref i), a1, a2, a3, a4] (.ref i :: st) h) := by rw [q_M_define, hz_w_at d_M_define_118]; rfl
theorem e_M_define_118n {a1 a2 a3 a4 : Option Value} : q_M_define S (f + 1) 118 [some .null, a1, a2, a3, a4] st h = (q_M_define S f 119 [some .null, a1, a2, a3, a4] (.null :: st) h) := by rw [q_M_define, hz_w_at d_M_define_118]; rfl
theorem d_M_define_119 : decode c_M_define 119 = .ok (.getfield 26, 3) := by decide +kernel
theorem e_M_define_119 : q_M_define S (f + 1) 119 L (.ref i :: st) h = (hz_rd h i 5 8 fun v => q_M_define S f 122 L (v :: st) h) := by rw [q_M_define, hz_w_at d_M_define_119]; rfl
theorem d_M_define_122 : decode c_M_define 122 = .ok (.sipush 1040, 3) := by decide +kernel
theorem e_M_define_122 : q_M_define S (f + 1) 122 L st h = (q_M_define S f 125 L (.int (hz_n 1040) :: st) h) := by rw [q_M_define, hz_w_at d_M_define_122]; rfl
theorem d_M_define_125 : decode c_M_define 125 = .ok (.iload 4, 2) := by decide +kernel
theorem e_M_define_125 {a0 a1 a2 a3 : Option Value} : q_M_define S (f + 1) 125 [a0, a1, a2, a3, some (.int x)] st h = (q_M_define S f 127 [a0, a1, a2, a3, some (.int x)] (.int x :: st) h) := by rw [q_M_define, hz_w_at d_M_define_125]; rfl
theorem d_M_define_127 : decode c_M_define 127 = .ok (.iadd, 1) := by decide +kernel
theorem e_M_define_127 : q_M_define S (f + 1) 127 L (.int y :: .int x :: st) h = (q_M_define S f 128 L (.int (x + y) :: st) h) := by rw [q_M_define, hz_w_at d_M_define_127]; rfl
theorem d_M_define_128 : decode c_M_define 128 = .ok (.iaload, 1) := by decide +kernel
theorem e_M_define_128 : q_M_define S (f + 1) 128 L (.int x :: .ref i :: st) h = (hz_ea zKT hz_kI h i x fun v => q_M_define S f 129 L (v :: st) h) := by rw [q_M_define, hz_w_at d_M_define_128]; rfl
theorem d_M_define_129 : decode c_M_define 129 = .ok (.iastore, 1) := by decide +kernel
theorem e_M_define_129 : q_M_define S (f + 1) 129 L (.int y :: .int x :: .ref i :: st) h = (hz_es zKT hz_kI h i x (.int y) fun h => q_M_define S f 130 L st h) := by rw [q_M_define, hz_w_at d_M_define_129]; rfl
theorem d_M_define_130 : decode c_M_define 130 = .ok (.aload_n 0, 1) := by decide +kernel
theorem e_M_define_130 {a1 a2 a3 a4 : Option Value} : q_M_define S (f + 1) 130 [some (.ref i), a1, a2, a3, a4] st h = (q_M_define S f 131 [some (.ref i), a1, a2, a3, a4] (.ref i :: st) h) := by rw [q_M_define, hz_w_at d_M_define_130]; rfl
theorem e_M_define_130n {a1 a2 a3 a4 : Option Value} : q_M_define S (f + 1) 130 [some .null, a1, a2, a3, a4] st h = (q_M_define S f 131 [some .null, a1, a2, a3, a4] (.null :: st) h) := by rw [q_M_define, hz_w_at d_M_define_130]; rfl
theorem d_M_define_131 : decode c_M_define 131 = .ok (.getfield 29, 3) := by decide +kernel
theorem e_M_define_131 : q_M_define S (f + 1) 131 L (.ref i :: st) h = (hz_rd h i 5 9 fun v => q_M_define S f 134 L (v :: st) h) := by rw [q_M_define, hz_w_at d_M_define_131]; rfl
theorem d_M_define_134 : decode c_M_define 134 = .ok (.bipush 40, 2) := by decide +kernel
theorem e_M_define_134 : q_M_define S (f + 1) 134 L st h = (q_M_define S f 136 L (.int (hz_n 40) :: st) h) := by rw [q_M_define, hz_w_at d_M_define_134]; rfl
theorem d_M_define_136 : decode c_M_define 136 = .ok (.iload_n 2, 1) := by decide +kernel
theorem e_M_define_136 {a0 a1 a3 a4 : Option Value} : q_M_define S (f + 1) 136 [a0, a1, some (.int x), a3, a4] st h = (q_M_define S f 137 [a0, a1, some (.int x), a3, a4] (.int x :: st) h) := by rw [q_M_define, hz_w_at d_M_define_136]; rfl
theorem d_M_define_137 : decode c_M_define 137 = .ok (.imul, 1) := by decide +kernel
theorem e_M_define_137 : q_M_define S (f + 1) 137 L (.int y :: .int x :: st) h = (q_M_define S f 138 L (.int (x * y) :: st) h) := by rw [q_M_define, hz_w_at d_M_define_137]; rfl
theorem d_M_define_138 : decode c_M_define 138 = .ok (.iload 4, 2) := by decide +kernel
theorem e_M_define_138 {a0 a1 a2 a3 : Option Value} : q_M_define S (f + 1) 138 [a0, a1, a2, a3, some (.int x)] st h = (q_M_define S f 140 [a0, a1, a2, a3, some (.int x)] (.int x :: st) h) := by rw [q_M_define, hz_w_at d_M_define_138]; rfl
theorem d_M_define_140 : decode c_M_define 140 = .ok (.iadd, 1) := by decide +kernel
theorem e_M_define_140 : q_M_define S (f + 1) 140 L (.int y :: .int x :: st) h = (q_M_define S f 141 L (.int (x + y) :: st) h) := by rw [q_M_define, hz_w_at d_M_define_140]; rfl
theorem d_M_define_141 : decode c_M_define 141 = .ok (.aload_n 0, 1) := by decide +kernel
theorem e_M_define_141 {a1 a2 a3 a4 : Option Value} : q_M_define S (f + 1) 141 [some (.ref i), a1, a2, a3, a4] st h = (q_M_define S f 142 [some (.ref i), a1, a2, a3, a4] (.ref i :: st) h) := by rw [q_M_define, hz_w_at d_M_define_141]; rfl
theorem e_M_define_141n {a1 a2 a3 a4 : Option Value} : q_M_define S (f + 1) 141 [some .null, a1, a2, a3, a4] st h = (q_M_define S f 142 [some .null, a1, a2, a3, a4] (.null :: st) h) := by rw [q_M_define, hz_w_at d_M_define_141]; rfl
theorem d_M_define_142 : decode c_M_define 142 = .ok (.getfield 29, 3) := by decide +kernel
theorem e_M_define_142 : q_M_define S (f + 1) 142 L (.ref i :: st) h = (hz_rd h i 5 9 fun v => q_M_define S f 145 L (v :: st) h) := by rw [q_M_define, hz_w_at d_M_define_142]; rfl
theorem d_M_define_145 : decode c_M_define 145 = .ok (.sipush 1040, 3) := by decide +kernel
theorem e_M_define_145 : q_M_define S (f + 1) 145 L st h = (q_M_define S f 148 L (.int (hz_n 1040) :: st) h) := by rw [q_M_define, hz_w_at d_M_define_145]; rfl
theorem d_M_define_148 : decode c_M_define 148 = .ok (.iload 4, 2) := by decide +kernel
theorem e_M_define_148 {a0 a1 a2 a3 : Option Value} : q_M_define S (f + 1) 148 [a0, a1, a2, a3, some (.int x)] st h = (q_M_define S f 150 [a0, a1, a2, a3, some (.int x)] (.int x :: st) h) := by rw [q_M_define, hz_w_at d_M_define_148]; rfl
theorem d_M_define_150 : decode c_M_define 150 = .ok (.iadd, 1) := by decide +kernel
theorem e_M_define_150 : q_M_define S (f + 1) 150 L (.int y :: .int x :: st) h = (q_M_define S f 151 L (.int (x + y) :: st) h) := by rw [q_M_define, hz_w_at d_M_define_150]; rfl
theorem d_M_define_151 : decode c_M_define 151 = .ok (.iaload, 1) := by decide +kernel
theorem e_M_define_151 : q_M_define S (f + 1) 151 L (.int x :: .ref i :: st) h = (hz_ea zKT hz_kI h i x fun v => q_M_define S f 152 L (v :: st) h) := by rw [q_M_define, hz_w_at d_M_define_151]; rfl
theorem d_M_define_152 : decode c_M_define 152 = .ok (.iastore, 1) := by decide +kernel
theorem e_M_define_152 : q_M_define S (f + 1) 152 L (.int y :: .int x :: .ref i :: st) h = (hz_es zKT hz_kI h i x (.int y) fun h => q_M_define S f 153 L st h) := by rw [q_M_define, hz_w_at d_M_define_152]; rfl
theorem d_M_define_153 : decode c_M_define 153 = .ok (.aload_n 0, 1) := by decide +kernel
theorem e_M_define_153 {a1 a2 a3 a4 : Option Value} : q_M_define S (f + 1) 153 [some (.ref i), a1, a2, a3, a4] st h = (q_M_define S f 154 [some (.ref i), a1, a2, a3, a4] (.ref i :: st) h) := by rw [q_M_define, hz_w_at d_M_define_153]; rfl
theorem e_M_define_153n {a1 a2 a3 a4 : Option Value} : q_M_define S (f + 1) 153 [some .null, a1, a2, a3, a4] st h = (q_M_define S f 154 [some .null, a1, a2, a3, a4] (.null :: st) h) := by rw [q_M_define, hz_w_at d_M_define_153]; rfl
theorem d_M_define_154 : decode c_M_define 154 = .ok (.getfield 32, 3) := by decide +kernel
theorem e_M_define_154 : q_M_define S (f + 1) 154 L (.ref i :: st) h = (hz_rd h i 5 10 fun v => q_M_define S f 157 L (v :: st) h) := by rw [q_M_define, hz_w_at d_M_define_154]; rfl
theorem d_M_define_157 : decode c_M_define 157 = .ok (.bipush 40, 2) := by decide +kernel
theorem e_M_define_157 : q_M_define S (f + 1) 157 L st h = (q_M_define S f 159 L (.int (hz_n 40) :: st) h) := by rw [q_M_define, hz_w_at d_M_define_157]; rfl
theorem d_M_define_159 : decode c_M_define 159 = .ok (.iload_n 2, 1) := by decide +kernel
theorem e_M_define_159 {a0 a1 a3 a4 : Option Value} : q_M_define S (f + 1) 159 [a0, a1, some (.int x), a3, a4] st h = (q_M_define S f 160 [a0, a1, some (.int x), a3, a4] (.int x :: st) h) := by rw [q_M_define, hz_w_at d_M_define_159]; rfl
theorem d_M_define_160 : decode c_M_define 160 = .ok (.imul, 1) := by decide +kernel
theorem e_M_define_160 : q_M_define S (f + 1) 160 L (.int y :: .int x :: st) h = (q_M_define S f 161 L (.int (x * y) :: st) h) := by rw [q_M_define, hz_w_at d_M_define_160]; rfl
theorem d_M_define_161 : decode c_M_define 161 = .ok (.iload 4, 2) := by decide +kernel
theorem e_M_define_161 {a0 a1 a2 a3 : Option Value} : q_M_define S (f + 1) 161 [a0, a1, a2, a3, some (.int x)] st h = (q_M_define S f 163 [a0, a1, a2, a3, some (.int x)] (.int x :: st) h) := by rw [q_M_define, hz_w_at d_M_define_161]; rfl
theorem d_M_define_163 : decode c_M_define 163 = .ok (.iadd, 1) := by decide +kernel
theorem e_M_define_163 : q_M_define S (f + 1) 163 L (.int y :: .int x :: st) h = (q_M_define S f 164 L (.int (x + y) :: st) h) := by rw [q_M_define, hz_w_at d_M_define_163]; rfl
theorem d_M_define_164 : decode c_M_define 164 = .ok (.aload_n 0, 1) := by decide +kernel
theorem e_M_define_164 {a1 a2 a3 a4 : Option Value} : q_M_define S (f + 1) 164 [some (.ref i), a1, a2, a3, a4] st h = (q_M_define S f 165 [some (.ref i), a1, a2, a3, a4] (.ref i :: st) h) := by rw [q_M_define, hz_w_at d_M_define_164]; rfl
theorem e_M_define_164n {a1 a2 a3 a4 : Option Value} : q_M_define S (f + 1) 164 [some .null, a1, a2, a3, a4] st h = (q_M_define S f 165 [some .null, a1, a2, a3, a4] (.null :: st) h) := by rw [q_M_define, hz_w_at d_M_define_164]; rfl
theorem d_M_define_165 : decode c_M_define 165 = .ok (.getfield 32, 3) := by decide +kernel
theorem e_M_define_165 : q_M_define S (f + 1) 165 L (.ref i :: st) h = (hz_rd h i 5 10 fun v => q_M_define S f 168 L (v :: st) h) := by rw [q_M_define, hz_w_at d_M_define_165]; rfl
theorem d_M_define_168 : decode c_M_define 168 = .ok (.sipush 1040, 3) := by decide +kernel
theorem e_M_define_168 : q_M_define S (f + 1) 168 L st h = (q_M_define S f 171 L (.int (hz_n 1040) :: st) h) := by rw [q_M_define, hz_w_at d_M_define_168]; rfl
theorem d_M_define_171 : decode c_M_define 171 = .ok (.iload 4, 2) := by decide +kernel
theorem e_M_define_171 {a0 a1 a2 a3 : Option Value} : q_M_define S (f + 1) 171 [a0, a1, a2, a3, some (.int x)] st h = (q_M_define S f 173 [a0, a1, a2, a3, some (.int x)] (.int x :: st) h) := by rw [q_M_define, hz_w_at d_M_define_171]; rfl
theorem d_M_define_173 : decode c_M_define 173 = .ok (.iadd, 1) := by decide +kernel
theorem e_M_define_173 : q_M_define S (f + 1) 173 L (.int y :: .int x :: st) h = (q_M_define S f 174 L (.int (x + y) :: st) h) := by rw [q_M_define, hz_w_at d_M_define_173]; rfl
theorem d_M_define_174 : decode c_M_define 174 = .ok (.iaload, 1) := by decide +kernel
theorem e_M_define_174 : q_M_define S (f + 1) 174 L (.int x :: .ref i :: st) h = (hz_ea zKT hz_kI h i x fun v => q_M_define S f 175 L (v :: st) h) := by rw [q_M_define, hz_w_at d_M_define_174]; rfl
theorem d_M_define_175 : decode c_M_define 175 = .ok (.iastore, 1) := by decide +kernel
theorem e_M_define_175 : q_M_define S (f + 1) 175 L (.int y :: .int x :: .ref i :: st) h = (hz_es zKT hz_kI h i x (.int y) fun h => q_M_define S f 176 L st h) := by rw [q_M_define, hz_w_at d_M_define_175]; rfl
theorem d_M_define_176 : decode c_M_define 176 = .ok (.iinc 4 1, 3) := by decide +kernel
theorem e_M_define_176 {a0 a1 a2 a3 : Option Value} : q_M_define S (f + 1) 176 [a0, a1, a2, a3, some (.int x)] st h = (q_M_define S f 179 [a0, a1, a2, a3, some (.int (x + hz_n 1))] st h) := by rw [q_M_define, hz_w_at d_M_define_176]; rfl
theorem d_M_define_179 : decode c_M_define 179 = .ok (.goto (-79), 3) := by decide +kernel
theorem e_M_define_179 : q_M_define S (f + 1) 179 L st h = (S 100 L st h) := by rw [q_M_define, hz_w_at d_M_define_179]; rfl
theorem d_M_define_182 : decode c_M_define 182 = .ok (.aload_n 0, 1) := by decide +kernel
theorem e_M_define_182 {a1 a2 a3 a4 : Option Value} : q_M_define S (f + 1) 182 [some (.ref i), a1, a2, a3, a4] st h = (q_M_define S f 183 [some (.ref i), a1, a2, a3, a4] (.ref i :: st) h) := by rw [q_M_define, hz_w_at d_M_define_182]; rfl
theorem e_M_define_182n {a1 a2 a3 a4 : Option Value} : q_M_define S (f + 1) 182 [some .null, a1, a2, a3, a4] st h = (q_M_define S f 183 [some .null, a1, a2, a3, a4] (.null :: st) h) := by rw [q_M_define, hz_w_at d_M_define_182]; rfl
theorem d_M_define_183 : decode c_M_define 183 = .ok (.getfield 20, 3) := by decide +kernel
theorem e_M_define_183 : q_M_define S (f + 1) 183 L (.ref i :: st) h = (hz_rd h i 5 6 fun v => q_M_define S f 186 L (v :: st) h) := by rw [q_M_define, hz_w_at d_M_define_183]; rfl
theorem d_M_define_186 : decode c_M_define 186 = .ok (.iload_n 2, 1) := by decide +kernel
theorem e_M_define_186 {a0 a1 a3 a4 : Option Value} : q_M_define S (f + 1) 186 [a0, a1, some (.int x), a3, a4] st h = (q_M_define S f 187 [a0, a1, some (.int x), a3, a4] (.int x :: st) h) := by rw [q_M_define, hz_w_at d_M_define_186]; rfl
theorem d_M_define_187 : decode c_M_define 187 = .ok (.iaload, 1) := by decide +kernel
theorem e_M_define_187 : q_M_define S (f + 1) 187 L (.int x :: .ref i :: st) h = (hz_ea zKT hz_kI h i x fun v => q_M_define S f 188 L (v :: st) h) := by rw [q_M_define, hz_w_at d_M_define_187]; rfl
theorem d_M_define_188 : decode c_M_define 188 = .ok (.ireturn, 1) := by decide +kernel
theorem e_M_define_188 : q_M_define S (f + 1) 188 L st h = (S 188 L st h) := by rw [q_M_define, hz_w_at d_M_define_188]; rfl
end
abbrev q_M_forget (S : Nat → List (Option Value) → List Value → hz_H → Prop) := hz_w zCl zKT f_M n_M c_M_forget [] S
section
variable {S : Nat → List (Option Value) → List Value → hz_H → Prop} {f : Nat} {L : List (Option Value)} {st : List Value} {h : hz_H} {x y : Int32} {i j : Nat} {X Y : Int64}
theorem d_M_forget_0 : decode c_M_forget 0 = .ok (.aload_n 0, 1) := by decide +kernel
theorem e_M_forget_0 {a1 : Option Value} : q_M_forget S (f + 1) 0 [some (.ref i), a1] st h = (q_M_forget S f 1 [some (.ref i), a1] (.ref i :: st) h) := by rw [q_M_forget, hz_w_at d_M_forget_0]; rfl
theorem e_M_forget_0n {a1 : Option Value} : q_M_forget S (f + 1) 0 [some .null, a1] st h = (q_M_forget S f 1 [some .null, a1] (.null :: st) h) := by rw [q_M_forget, hz_w_at d_M_forget_0]; rfl
theorem d_M_forget_1 : decode c_M_forget 1 = .ok (.iload_n 1, 1) := by decide +kernel
theorem e_M_forget_1 {a0 : Option Value} : q_M_forget S (f + 1) 1 [a0, some (.int x)] st h = (q_M_forget S f 2 [a0, some (.int x)] (.int x :: st) h) := by rw [q_M_forget, hz_w_at d_M_forget_1]; rfl
theorem d_M_forget_2 : decode c_M_forget 2 = .ok (.invokestatic 101, 3) := by decide +kernel
theorem e_M_forget_2 : q_M_forget S (f + 1) 2 L st h = (S 2 L st h) := by rw [q_M_forget, hz_w_at d_M_forget_2]; rfl
theorem d_M_forget_5 : decode c_M_forget 5 = .ok (.ifCond .ne 7, 3) := by decide +kernel
theorem e_M_forget_5 : q_M_forget S (f + 1) 5 L (.int x :: st) h = ((¬ x.toInt = 0 → q_M_forget S f 12 L st h) ∧ (¬ (¬ x.toInt = 0) → q_M_forget S f 8 L st h)) := by rw [q_M_forget, hz_w_at d_M_forget_5]; rfl
theorem d_M_forget_8 : decode c_M_forget 8 = .ok (.iconst 1, 1) := by decide +kernel
theorem e_M_forget_8 : q_M_forget S (f + 1) 8 L st h = (q_M_forget S f 9 L (.int (hz_n 1) :: st) h) := by rw [q_M_forget, hz_w_at d_M_forget_8]; rfl
theorem d_M_forget_9 : decode c_M_forget 9 = .ok (.goto 20, 3) := by decide +kernel
theorem e_M_forget_9 : q_M_forget S (f + 1) 9 L st h = (q_M_forget S f 29 L st h) := by rw [q_M_forget, hz_w_at d_M_forget_9]; rfl
theorem d_M_forget_12 : decode c_M_forget 12 = .ok (.aload_n 0, 1) := by decide +kernel
theorem e_M_forget_12 {a1 : Option Value} : q_M_forget S (f + 1) 12 [some (.ref i), a1] st h = (q_M_forget S f 13 [some (.ref i), a1] (.ref i :: st) h) := by rw [q_M_forget, hz_w_at d_M_forget_12]; rfl
theorem e_M_forget_12n {a1 : Option Value} : q_M_forget S (f + 1) 12 [some .null, a1] st h = (q_M_forget S f 13 [some .null, a1] (.null :: st) h) := by rw [q_M_forget, hz_w_at d_M_forget_12]; rfl
theorem d_M_forget_13 : decode c_M_forget 13 = .ok (.getfield 16, 3) := by decide +kernel
theorem e_M_forget_13 : q_M_forget S (f + 1) 13 L (.ref i :: st) h = (hz_rd h i 5 5 fun v => q_M_forget S f 16 L (v :: st) h) := by rw [q_M_forget, hz_w_at d_M_forget_13]; rfl
theorem d_M_forget_16 : decode c_M_forget 16 = .ok (.iload_n 1, 1) := by decide +kernel
theorem e_M_forget_16 {a0 : Option Value} : q_M_forget S (f + 1) 16 [a0, some (.int x)] st h = (q_M_forget S f 17 [a0, some (.int x)] (.int x :: st) h) := by rw [q_M_forget, hz_w_at d_M_forget_16]; rfl
theorem d_M_forget_17 : decode c_M_forget 17 = .ok (.bipush 65, 2) := by decide +kernel
theorem e_M_forget_17 : q_M_forget S (f + 1) 17 L st h = (q_M_forget S f 19 L (.int (hz_n 65) :: st) h) := by rw [q_M_forget, hz_w_at d_M_forget_17]; rfl
theorem d_M_forget_19 : decode c_M_forget 19 = .ok (.isub, 1) := by decide +kernel
theorem e_M_forget_19 : q_M_forget S (f + 1) 19 L (.int y :: .int x :: st) h = (q_M_forget S f 20 L (.int (x - y) :: st) h) := by rw [q_M_forget, hz_w_at d_M_forget_19]; rfl
theorem d_M_forget_20 : decode c_M_forget 20 = .ok (.baload, 1) := by decide +kernel
theorem e_M_forget_20 : q_M_forget S (f + 1) 20 L (.int x :: .ref i :: st) h = (hz_ea zKT hz_kZ h i x fun v => q_M_forget S f 21 L (v :: st) h) := by rw [q_M_forget, hz_w_at d_M_forget_20]; rfl
theorem d_M_forget_21 : decode c_M_forget 21 = .ok (.ifCond .ne 7, 3) := by decide +kernel
theorem e_M_forget_21 : q_M_forget S (f + 1) 21 L (.int x :: st) h = ((¬ x.toInt = 0 → q_M_forget S f 28 L st h) ∧ (¬ (¬ x.toInt = 0) → q_M_forget S f 24 L st h)) := by rw [q_M_forget, hz_w_at d_M_forget_21]; rfl
theorem d_M_forget_24 : decode c_M_forget 24 = .ok (.iconst 2, 1) := by decide +kernel
theorem e_M_forget_24 : q_M_forget S (f + 1) 24 L st h = (q_M_forget S f 25 L (.int (hz_n 2) :: st) h) := by rw [q_M_forget, hz_w_at d_M_forget_24]; rfl
theorem d_M_forget_25 : decode c_M_forget 25 = .ok (.goto 4, 3) := by decide +kernel
theorem e_M_forget_25 : q_M_forget S (f + 1) 25 L st h = (q_M_forget S f 29 L st h) := by rw [q_M_forget, hz_w_at d_M_forget_25]; rfl
theorem d_M_forget_28 : decode c_M_forget 28 = .ok (.iconst 0, 1) := by decide +kernel
theorem e_M_forget_28 : q_M_forget S (f + 1) 28 L st h = (q_M_forget S f 29 L (.int (hz_n 0) :: st) h) := by rw [q_M_forget, hz_w_at d_M_forget_28]; rfl
theorem d_M_forget_29 : decode c_M_forget 29 = .ok (.putfield 80, 3) := by decide +kernel
theorem e_M_forget_29 : q_M_forget S (f + 1) 29 L (.int x :: .ref i :: st) h = (hz_wr h i 5 0 (.int x) fun h => q_M_forget S f 32 L st h) := by rw [q_M_forget, hz_w_at d_M_forget_29]; rfl
theorem d_M_forget_32 : decode c_M_forget 32 = .ok (.aload_n 0, 1) := by decide +kernel
theorem e_M_forget_32 {a1 : Option Value} : q_M_forget S (f + 1) 32 [some (.ref i), a1] st h = (q_M_forget S f 33 [some (.ref i), a1] (.ref i :: st) h) := by rw [q_M_forget, hz_w_at d_M_forget_32]; rfl
theorem e_M_forget_32n {a1 : Option Value} : q_M_forget S (f + 1) 32 [some .null, a1] st h = (q_M_forget S f 33 [some .null, a1] (.null :: st) h) := by rw [q_M_forget, hz_w_at d_M_forget_32]; rfl
theorem d_M_forget_33 : decode c_M_forget 33 = .ok (.getfield 80, 3) := by decide +kernel
theorem e_M_forget_33 : q_M_forget S (f + 1) 33 L (.ref i :: st) h = (hz_rd h i 5 0 fun v => q_M_forget S f 36 L (v :: st) h) := by rw [q_M_forget, hz_w_at d_M_forget_33]; rfl
theorem d_M_forget_36 : decode c_M_forget 36 = .ok (.ifCond .ne 13, 3) := by decide +kernel
theorem e_M_forget_36 : q_M_forget S (f + 1) 36 L (.int x :: st) h = ((¬ x.toInt = 0 → q_M_forget S f 49 L st h) ∧ (¬ (¬ x.toInt = 0) → q_M_forget S f 39 L st h)) := by rw [q_M_forget, hz_w_at d_M_forget_36]; rfl
theorem d_M_forget_39 : decode c_M_forget 39 = .ok (.aload_n 0, 1) := by decide +kernel
theorem e_M_forget_39 {a1 : Option Value} : q_M_forget S (f + 1) 39 [some (.ref i), a1] st h = (q_M_forget S f 40 [some (.ref i), a1] (.ref i :: st) h) := by rw [q_M_forget, hz_w_at d_M_forget_39]; rfl
theorem e_M_forget_39n {a1 : Option Value} : q_M_forget S (f + 1) 39 [some .null, a1] st h = (q_M_forget S f 40 [some .null, a1] (.null :: st) h) := by rw [q_M_forget, hz_w_at d_M_forget_39]; rfl
theorem d_M_forget_40 : decode c_M_forget 40 = .ok (.getfield 16, 3) := by decide +kernel
theorem e_M_forget_40 : q_M_forget S (f + 1) 40 L (.ref i :: st) h = (hz_rd h i 5 5 fun v => q_M_forget S f 43 L (v :: st) h) := by rw [q_M_forget, hz_w_at d_M_forget_40]; rfl
theorem d_M_forget_43 : decode c_M_forget 43 = .ok (.iload_n 1, 1) := by decide +kernel
theorem e_M_forget_43 {a0 : Option Value} : q_M_forget S (f + 1) 43 [a0, some (.int x)] st h = (q_M_forget S f 44 [a0, some (.int x)] (.int x :: st) h) := by rw [q_M_forget, hz_w_at d_M_forget_43]; rfl
theorem d_M_forget_44 : decode c_M_forget 44 = .ok (.bipush 65, 2) := by decide +kernel
theorem e_M_forget_44 : q_M_forget S (f + 1) 44 L st h = (q_M_forget S f 46 L (.int (hz_n 65) :: st) h) := by rw [q_M_forget, hz_w_at d_M_forget_44]; rfl
theorem d_M_forget_46 : decode c_M_forget 46 = .ok (.isub, 1) := by decide +kernel
theorem e_M_forget_46 : q_M_forget S (f + 1) 46 L (.int y :: .int x :: st) h = (q_M_forget S f 47 L (.int (x - y) :: st) h) := by rw [q_M_forget, hz_w_at d_M_forget_46]; rfl
theorem d_M_forget_47 : decode c_M_forget 47 = .ok (.iconst 0, 1) := by decide +kernel
theorem e_M_forget_47 : q_M_forget S (f + 1) 47 L st h = (q_M_forget S f 48 L (.int (hz_n 0) :: st) h) := by rw [q_M_forget, hz_w_at d_M_forget_47]; rfl
theorem d_M_forget_48 : decode c_M_forget 48 = .ok (.bastore, 1) := by decide +kernel
theorem e_M_forget_48 : q_M_forget S (f + 1) 48 L (.int y :: .int x :: .ref i :: st) h = (narrow .boolean (.int y) = .int y ∧ hz_es zKT hz_kZ h i x (.int y) fun h => q_M_forget S f 49 L st h) := by rw [q_M_forget, hz_w_at d_M_forget_48]; rfl
theorem d_M_forget_49 : decode c_M_forget 49 = .ok (.return_, 1) := by decide +kernel
theorem e_M_forget_49 : q_M_forget S (f + 1) 49 L st h = (S 49 L st h) := by rw [q_M_forget, hz_w_at d_M_forget_49]; rfl
end
abbrev q_M_parameters (S : Nat → List (Option Value) → List Value → hz_H → Prop) := hz_w zCl zKT f_M n_M c_M_parameters [] S
section
variable {S : Nat → List (Option Value) → List Value → hz_H → Prop} {f : Nat} {L : List (Option Value)} {st : List Value} {h : hz_H} {x y : Int32} {i j : Nat} {X Y : Int64}
theorem d_M_parameters_0 : decode c_M_parameters 0 = .ok (.aload_n 0, 1) := by decide +kernel
theorem e_M_parameters_0 {a1 : Option Value} : q_M_parameters S (f + 1) 0 [some (.ref i), a1] st h = (q_M_parameters S f 1 [some (.ref i), a1] (.ref i :: st) h) := by rw [q_M_parameters, hz_w_at d_M_parameters_0]; rfl
theorem e_M_parameters_0n {a1 : Option Value} : q_M_parameters S (f + 1) 0 [some .null, a1] st h = (q_M_parameters S f 1 [some .null, a1] (.null :: st) h) := by rw [q_M_parameters, hz_w_at d_M_parameters_0]; rfl
theorem d_M_parameters_1 : decode c_M_parameters 1 = .ok (.iconst 0, 1) := by decide +kernel
theorem e_M_parameters_1 : q_M_parameters S (f + 1) 1 L st h = (q_M_parameters S f 2 L (.int (hz_n 0) :: st) h) := by rw [q_M_parameters, hz_w_at d_M_parameters_1]; rfl
theorem d_M_parameters_2 : decode c_M_parameters 2 = .ok (.putfield 80, 3) := by decide +kernel
theorem e_M_parameters_2 : q_M_parameters S (f + 1) 2 L (.int x :: .ref i :: st) h = (hz_wr h i 5 0 (.int x) fun h => q_M_parameters S f 5 L st h) := by rw [q_M_parameters, hz_w_at d_M_parameters_2]; rfl
theorem d_M_parameters_5 : decode c_M_parameters 5 = .ok (.iload_n 1, 1) := by decide +kernel
theorem e_M_parameters_5 {a0 : Option Value} : q_M_parameters S (f + 1) 5 [a0, some (.int x)] st h = (q_M_parameters S f 6 [a0, some (.int x)] (.int x :: st) h) := by rw [q_M_parameters, hz_w_at d_M_parameters_5]; rfl
theorem d_M_parameters_6 : decode c_M_parameters 6 = .ok (.invokestatic 101, 3) := by decide +kernel
theorem e_M_parameters_6 : q_M_parameters S (f + 1) 6 L st h = (S 6 L st h) := by rw [q_M_parameters, hz_w_at d_M_parameters_6]; rfl
theorem d_M_parameters_9 : decode c_M_parameters 9 = .ok (.ifCond .eq 27, 3) := by decide +kernel
theorem e_M_parameters_9 : q_M_parameters S (f + 1) 9 L (.int x :: st) h = ((x.toInt = 0 → q_M_parameters S f 36 L st h) ∧ (¬ (x.toInt = 0) → q_M_parameters S f 12 L st h)) := by rw [q_M_parameters, hz_w_at d_M_parameters_9]; rfl
theorem d_M_parameters_12 : decode c_M_parameters 12 = .ok (.aload_n 0, 1) := by decide +kernel
theorem e_M_parameters_12 {a1 : Option Value} : q_M_parameters S (f + 1) 12 [some (.ref i), a1] st h = (q_M_parameters S f 13 [some (.ref i), a1] (.ref i :: st) h) := by rw [q_M_parameters, hz_w_at d_M_parameters_12]; rfl
theorem e_M_parameters_12n {a1 : Option Value} : q_M_parameters S (f + 1) 12 [some .null, a1] st h = (q_M_parameters S f 13 [some .null, a1] (.null :: st) h) := by rw [q_M_parameters, hz_w_at d_M_parameters_12]; rfl
theorem d_M_parameters_13 : decode c_M_parameters 13 = .ok (.getfield 16, 3) := by decide +kernel
theorem e_M_parameters_13 : q_M_parameters S (f + 1) 13 L (.ref i :: st) h = (hz_rd h i 5 5 fun v => q_M_parameters S f 16 L (v :: st) h) := by rw [q_M_parameters, hz_w_at d_M_parameters_13]; rfl
theorem d_M_parameters_16 : decode c_M_parameters 16 = .ok (.iload_n 1, 1) := by decide +kernel
theorem e_M_parameters_16 {a0 : Option Value} : q_M_parameters S (f + 1) 16 [a0, some (.int x)] st h = (q_M_parameters S f 17 [a0, some (.int x)] (.int x :: st) h) := by rw [q_M_parameters, hz_w_at d_M_parameters_16]; rfl
theorem d_M_parameters_17 : decode c_M_parameters 17 = .ok (.bipush 65, 2) := by decide +kernel
theorem e_M_parameters_17 : q_M_parameters S (f + 1) 17 L st h = (q_M_parameters S f 19 L (.int (hz_n 65) :: st) h) := by rw [q_M_parameters, hz_w_at d_M_parameters_17]; rfl
theorem d_M_parameters_19 : decode c_M_parameters 19 = .ok (.isub, 1) := by decide +kernel
theorem e_M_parameters_19 : q_M_parameters S (f + 1) 19 L (.int y :: .int x :: st) h = (q_M_parameters S f 20 L (.int (x - y) :: st) h) := by rw [q_M_parameters, hz_w_at d_M_parameters_19]; rfl
theorem d_M_parameters_20 : decode c_M_parameters 20 = .ok (.baload, 1) := by decide +kernel
theorem e_M_parameters_20 : q_M_parameters S (f + 1) 20 L (.int x :: .ref i :: st) h = (hz_ea zKT hz_kZ h i x fun v => q_M_parameters S f 21 L (v :: st) h) := by rw [q_M_parameters, hz_w_at d_M_parameters_20]; rfl
theorem d_M_parameters_21 : decode c_M_parameters 21 = .ok (.ifCond .eq 15, 3) := by decide +kernel
theorem e_M_parameters_21 : q_M_parameters S (f + 1) 21 L (.int x :: st) h = ((x.toInt = 0 → q_M_parameters S f 36 L st h) ∧ (¬ (x.toInt = 0) → q_M_parameters S f 24 L st h)) := by rw [q_M_parameters, hz_w_at d_M_parameters_21]; rfl
theorem d_M_parameters_24 : decode c_M_parameters 24 = .ok (.aload_n 0, 1) := by decide +kernel
theorem e_M_parameters_24 {a1 : Option Value} : q_M_parameters S (f + 1) 24 [some (.ref i), a1] st h = (q_M_parameters S f 25 [some (.ref i), a1] (.ref i :: st) h) := by rw [q_M_parameters, hz_w_at d_M_parameters_24]; rfl
theorem e_M_parameters_24n {a1 : Option Value} : q_M_parameters S (f + 1) 24 [some .null, a1] st h = (q_M_parameters S f 25 [some .null, a1] (.null :: st) h) := by rw [q_M_parameters, hz_w_at d_M_parameters_24]; rfl
theorem d_M_parameters_25 : decode c_M_parameters 25 = .ok (.getfield 20, 3) := by decide +kernel
theorem e_M_parameters_25 : q_M_parameters S (f + 1) 25 L (.ref i :: st) h = (hz_rd h i 5 6 fun v => q_M_parameters S f 28 L (v :: st) h) := by rw [q_M_parameters, hz_w_at d_M_parameters_25]; rfl
theorem d_M_parameters_28 : decode c_M_parameters 28 = .ok (.iload_n 1, 1) := by decide +kernel
theorem e_M_parameters_28 {a0 : Option Value} : q_M_parameters S (f + 1) 28 [a0, some (.int x)] st h = (q_M_parameters S f 29 [a0, some (.int x)] (.int x :: st) h) := by rw [q_M_parameters, hz_w_at d_M_parameters_28]; rfl
theorem d_M_parameters_29 : decode c_M_parameters 29 = .ok (.bipush 65, 2) := by decide +kernel
theorem e_M_parameters_29 : q_M_parameters S (f + 1) 29 L st h = (q_M_parameters S f 31 L (.int (hz_n 65) :: st) h) := by rw [q_M_parameters, hz_w_at d_M_parameters_29]; rfl
theorem d_M_parameters_31 : decode c_M_parameters 31 = .ok (.isub, 1) := by decide +kernel
theorem e_M_parameters_31 : q_M_parameters S (f + 1) 31 L (.int y :: .int x :: st) h = (q_M_parameters S f 32 L (.int (x - y) :: st) h) := by rw [q_M_parameters, hz_w_at d_M_parameters_31]; rfl
theorem d_M_parameters_32 : decode c_M_parameters 32 = .ok (.iaload, 1) := by decide +kernel
theorem e_M_parameters_32 : q_M_parameters S (f + 1) 32 L (.int x :: .ref i :: st) h = (hz_ea zKT hz_kI h i x fun v => q_M_parameters S f 33 L (v :: st) h) := by rw [q_M_parameters, hz_w_at d_M_parameters_32]; rfl
theorem d_M_parameters_33 : decode c_M_parameters 33 = .ok (.goto 4, 3) := by decide +kernel
theorem e_M_parameters_33 : q_M_parameters S (f + 1) 33 L st h = (q_M_parameters S f 37 L st h) := by rw [q_M_parameters, hz_w_at d_M_parameters_33]; rfl
theorem d_M_parameters_36 : decode c_M_parameters 36 = .ok (.iconst (-1), 1) := by decide +kernel
theorem e_M_parameters_36 : q_M_parameters S (f + 1) 36 L st h = (q_M_parameters S f 37 L (.int (hz_n (-1)) :: st) h) := by rw [q_M_parameters, hz_w_at d_M_parameters_36]; rfl
theorem d_M_parameters_37 : decode c_M_parameters 37 = .ok (.ireturn, 1) := by decide +kernel
theorem e_M_parameters_37 : q_M_parameters S (f + 1) 37 L st h = (S 37 L st h) := by rw [q_M_parameters, hz_w_at d_M_parameters_37]; rfl
end
abbrev q_M_newPromise (S : Nat → List (Option Value) → List Value → hz_H → Prop) := hz_w zCl zKT f_M n_M c_M_newPromise [] S
section
variable {S : Nat → List (Option Value) → List Value → hz_H → Prop} {f : Nat} {L : List (Option Value)} {st : List Value} {h : hz_H} {x y : Int32} {i j : Nat} {X Y : Int64}
theorem d_M_newPromise_0 : decode c_M_newPromise 0 = .ok (.aload_n 0, 1) := by decide +kernel
theorem e_M_newPromise_0 {a1 a2 : Option Value} : q_M_newPromise S (f + 1) 0 [some (.ref i), a1, a2] st h = (q_M_newPromise S f 1 [some (.ref i), a1, a2] (.ref i :: st) h) := by rw [q_M_newPromise, hz_w_at d_M_newPromise_0]; rfl
theorem e_M_newPromise_0n {a1 a2 : Option Value} : q_M_newPromise S (f + 1) 0 [some .null, a1, a2] st h = (q_M_newPromise S f 1 [some .null, a1, a2] (.null :: st) h) := by rw [q_M_newPromise, hz_w_at d_M_newPromise_0]; rfl
theorem d_M_newPromise_1 : decode c_M_newPromise 1 = .ok (.getfield 47, 3) := by decide +kernel
theorem e_M_newPromise_1 : q_M_newPromise S (f + 1) 1 L (.ref i :: st) h = (hz_rd h i 5 18 fun v => q_M_newPromise S f 4 L (v :: st) h) := by rw [q_M_newPromise, hz_w_at d_M_newPromise_1]; rfl
theorem d_M_newPromise_4 : decode c_M_newPromise 4 = .ok (.aload_n 0, 1) := by decide +kernel
theorem e_M_newPromise_4 {a1 a2 : Option Value} : q_M_newPromise S (f + 1) 4 [some (.ref i), a1, a2] st h = (q_M_newPromise S f 5 [some (.ref i), a1, a2] (.ref i :: st) h) := by rw [q_M_newPromise, hz_w_at d_M_newPromise_4]; rfl
theorem e_M_newPromise_4n {a1 a2 : Option Value} : q_M_newPromise S (f + 1) 4 [some .null, a1, a2] st h = (q_M_newPromise S f 5 [some .null, a1, a2] (.null :: st) h) := by rw [q_M_newPromise, hz_w_at d_M_newPromise_4]; rfl
theorem d_M_newPromise_5 : decode c_M_newPromise 5 = .ok (.getfield 141, 3) := by decide +kernel
theorem e_M_newPromise_5 : q_M_newPromise S (f + 1) 5 L (.ref i :: st) h = (hz_rd h i 5 17 fun v => q_M_newPromise S f 8 L (v :: st) h) := by rw [q_M_newPromise, hz_w_at d_M_newPromise_5]; rfl
theorem d_M_newPromise_8 : decode c_M_newPromise 8 = .ok (.iconst 0, 1) := by decide +kernel
theorem e_M_newPromise_8 : q_M_newPromise S (f + 1) 8 L st h = (q_M_newPromise S f 9 L (.int (hz_n 0) :: st) h) := by rw [q_M_newPromise, hz_w_at d_M_newPromise_8]; rfl
theorem d_M_newPromise_9 : decode c_M_newPromise 9 = .ok (.iastore, 1) := by decide +kernel
theorem e_M_newPromise_9 : q_M_newPromise S (f + 1) 9 L (.int y :: .int x :: .ref i :: st) h = (hz_es zKT hz_kI h i x (.int y) fun h => q_M_newPromise S f 10 L st h) := by rw [q_M_newPromise, hz_w_at d_M_newPromise_9]; rfl
theorem d_M_newPromise_10 : decode c_M_newPromise 10 = .ok (.aload_n 0, 1) := by decide +kernel
theorem e_M_newPromise_10 {a1 a2 : Option Value} : q_M_newPromise S (f + 1) 10 [some (.ref i), a1, a2] st h = (q_M_newPromise S f 11 [some (.ref i), a1, a2] (.ref i :: st) h) := by rw [q_M_newPromise, hz_w_at d_M_newPromise_10]; rfl
theorem e_M_newPromise_10n {a1 a2 : Option Value} : q_M_newPromise S (f + 1) 10 [some .null, a1, a2] st h = (q_M_newPromise S f 11 [some .null, a1, a2] (.null :: st) h) := by rw [q_M_newPromise, hz_w_at d_M_newPromise_10]; rfl
theorem d_M_newPromise_11 : decode c_M_newPromise 11 = .ok (.getfield 50, 3) := by decide +kernel
theorem e_M_newPromise_11 : q_M_newPromise S (f + 1) 11 L (.ref i :: st) h = (hz_rd h i 5 19 fun v => q_M_newPromise S f 14 L (v :: st) h) := by rw [q_M_newPromise, hz_w_at d_M_newPromise_11]; rfl
theorem d_M_newPromise_14 : decode c_M_newPromise 14 = .ok (.aload_n 0, 1) := by decide +kernel
theorem e_M_newPromise_14 {a1 a2 : Option Value} : q_M_newPromise S (f + 1) 14 [some (.ref i), a1, a2] st h = (q_M_newPromise S f 15 [some (.ref i), a1, a2] (.ref i :: st) h) := by rw [q_M_newPromise, hz_w_at d_M_newPromise_14]; rfl
theorem e_M_newPromise_14n {a1 a2 : Option Value} : q_M_newPromise S (f + 1) 14 [some .null, a1, a2] st h = (q_M_newPromise S f 15 [some .null, a1, a2] (.null :: st) h) := by rw [q_M_newPromise, hz_w_at d_M_newPromise_14]; rfl
theorem d_M_newPromise_15 : decode c_M_newPromise 15 = .ok (.getfield 141, 3) := by decide +kernel
theorem e_M_newPromise_15 : q_M_newPromise S (f + 1) 15 L (.ref i :: st) h = (hz_rd h i 5 17 fun v => q_M_newPromise S f 18 L (v :: st) h) := by rw [q_M_newPromise, hz_w_at d_M_newPromise_15]; rfl
theorem d_M_newPromise_18 : decode c_M_newPromise 18 = .ok (.iload_n 1, 1) := by decide +kernel
theorem e_M_newPromise_18 {a0 a2 : Option Value} : q_M_newPromise S (f + 1) 18 [a0, some (.int x), a2] st h = (q_M_newPromise S f 19 [a0, some (.int x), a2] (.int x :: st) h) := by rw [q_M_newPromise, hz_w_at d_M_newPromise_18]; rfl
theorem d_M_newPromise_19 : decode c_M_newPromise 19 = .ok (.iastore, 1) := by decide +kernel
theorem e_M_newPromise_19 : q_M_newPromise S (f + 1) 19 L (.int y :: .int x :: .ref i :: st) h = (hz_es zKT hz_kI h i x (.int y) fun h => q_M_newPromise S f 20 L st h) := by rw [q_M_newPromise, hz_w_at d_M_newPromise_19]; rfl
theorem d_M_newPromise_20 : decode c_M_newPromise 20 = .ok (.aload_n 0, 1) := by decide +kernel
theorem e_M_newPromise_20 {a1 a2 : Option Value} : q_M_newPromise S (f + 1) 20 [some (.ref i), a1, a2] st h = (q_M_newPromise S f 21 [some (.ref i), a1, a2] (.ref i :: st) h) := by rw [q_M_newPromise, hz_w_at d_M_newPromise_20]; rfl
theorem e_M_newPromise_20n {a1 a2 : Option Value} : q_M_newPromise S (f + 1) 20 [some .null, a1, a2] st h = (q_M_newPromise S f 21 [some .null, a1, a2] (.null :: st) h) := by rw [q_M_newPromise, hz_w_at d_M_newPromise_20]; rfl
theorem d_M_newPromise_21 : decode c_M_newPromise 21 = .ok (.getfield 53, 3) := by decide +kernel
theorem e_M_newPromise_21 : q_M_newPromise S (f + 1) 21 L (.ref i :: st) h = (hz_rd h i 5 20 fun v => q_M_newPromise S f 24 L (v :: st) h) := by rw [q_M_newPromise, hz_w_at d_M_newPromise_21]; rfl
theorem d_M_newPromise_24 : decode c_M_newPromise 24 = .ok (.aload_n 0, 1) := by decide +kernel
theorem e_M_newPromise_24 {a1 a2 : Option Value} : q_M_newPromise S (f + 1) 24 [some (.ref i), a1, a2] st h = (q_M_newPromise S f 25 [some (.ref i), a1, a2] (.ref i :: st) h) := by rw [q_M_newPromise, hz_w_at d_M_newPromise_24]; rfl
theorem e_M_newPromise_24n {a1 a2 : Option Value} : q_M_newPromise S (f + 1) 24 [some .null, a1, a2] st h = (q_M_newPromise S f 25 [some .null, a1, a2] (.null :: st) h) := by rw [q_M_newPromise, hz_w_at d_M_newPromise_24]; rfl
theorem d_M_newPromise_25 : decode c_M_newPromise 25 = .ok (.getfield 141, 3) := by decide +kernel
theorem e_M_newPromise_25 : q_M_newPromise S (f + 1) 25 L (.ref i :: st) h = (hz_rd h i 5 17 fun v => q_M_newPromise S f 28 L (v :: st) h) := by rw [q_M_newPromise, hz_w_at d_M_newPromise_25]; rfl
theorem d_M_newPromise_28 : decode c_M_newPromise 28 = .ok (.iload_n 2, 1) := by decide +kernel
theorem e_M_newPromise_28 {a0 a1 : Option Value} : q_M_newPromise S (f + 1) 28 [a0, a1, some (.int x)] st h = (q_M_newPromise S f 29 [a0, a1, some (.int x)] (.int x :: st) h) := by rw [q_M_newPromise, hz_w_at d_M_newPromise_28]; rfl
theorem d_M_newPromise_29 : decode c_M_newPromise 29 = .ok (.iastore, 1) := by decide +kernel
theorem e_M_newPromise_29 : q_M_newPromise S (f + 1) 29 L (.int y :: .int x :: .ref i :: st) h = (hz_es zKT hz_kI h i x (.int y) fun h => q_M_newPromise S f 30 L st h) := by rw [q_M_newPromise, hz_w_at d_M_newPromise_29]; rfl
theorem d_M_newPromise_30 : decode c_M_newPromise 30 = .ok (.aload_n 0, 1) := by decide +kernel
theorem e_M_newPromise_30 {a1 a2 : Option Value} : q_M_newPromise S (f + 1) 30 [some (.ref i), a1, a2] st h = (q_M_newPromise S f 31 [some (.ref i), a1, a2] (.ref i :: st) h) := by rw [q_M_newPromise, hz_w_at d_M_newPromise_30]; rfl
theorem e_M_newPromise_30n {a1 a2 : Option Value} : q_M_newPromise S (f + 1) 30 [some .null, a1, a2] st h = (q_M_newPromise S f 31 [some .null, a1, a2] (.null :: st) h) := by rw [q_M_newPromise, hz_w_at d_M_newPromise_30]; rfl
theorem d_M_newPromise_31 : decode c_M_newPromise 31 = .ok (.dup, 1) := by decide +kernel
theorem e_M_newPromise_31 : q_M_newPromise S (f + 1) 31 L (.ref i :: st) h = (q_M_newPromise S f 32 L (.ref i :: .ref i :: st) h) := by rw [q_M_newPromise, hz_w_at d_M_newPromise_31]; rfl
theorem e_M_newPromise_31i : q_M_newPromise S (f + 1) 31 L (.int x :: st) h = (q_M_newPromise S f 32 L (.int x :: .int x :: st) h) := by rw [q_M_newPromise, hz_w_at d_M_newPromise_31]; rfl
theorem d_M_newPromise_32 : decode c_M_newPromise 32 = .ok (.getfield 141, 3) := by decide +kernel
theorem e_M_newPromise_32 : q_M_newPromise S (f + 1) 32 L (.ref i :: st) h = (hz_rd h i 5 17 fun v => q_M_newPromise S f 35 L (v :: st) h) := by rw [q_M_newPromise, hz_w_at d_M_newPromise_32]; rfl
theorem d_M_newPromise_35 : decode c_M_newPromise 35 = .ok (.iconst 1, 1) := by decide +kernel
theorem e_M_newPromise_35 : q_M_newPromise S (f + 1) 35 L st h = (q_M_newPromise S f 36 L (.int (hz_n 1) :: st) h) := by rw [q_M_newPromise, hz_w_at d_M_newPromise_35]; rfl
theorem d_M_newPromise_36 : decode c_M_newPromise 36 = .ok (.iadd, 1) := by decide +kernel
theorem e_M_newPromise_36 : q_M_newPromise S (f + 1) 36 L (.int y :: .int x :: st) h = (q_M_newPromise S f 37 L (.int (x + y) :: st) h) := by rw [q_M_newPromise, hz_w_at d_M_newPromise_36]; rfl
theorem d_M_newPromise_37 : decode c_M_newPromise 37 = .ok (.putfield 141, 3) := by decide +kernel
theorem e_M_newPromise_37 : q_M_newPromise S (f + 1) 37 L (.int x :: .ref i :: st) h = (hz_wr h i 5 17 (.int x) fun h => q_M_newPromise S f 40 L st h) := by rw [q_M_newPromise, hz_w_at d_M_newPromise_37]; rfl
theorem d_M_newPromise_40 : decode c_M_newPromise 40 = .ok (.aload_n 0, 1) := by decide +kernel
theorem e_M_newPromise_40 {a1 a2 : Option Value} : q_M_newPromise S (f + 1) 40 [some (.ref i), a1, a2] st h = (q_M_newPromise S f 41 [some (.ref i), a1, a2] (.ref i :: st) h) := by rw [q_M_newPromise, hz_w_at d_M_newPromise_40]; rfl
theorem e_M_newPromise_40n {a1 a2 : Option Value} : q_M_newPromise S (f + 1) 40 [some .null, a1, a2] st h = (q_M_newPromise S f 41 [some .null, a1, a2] (.null :: st) h) := by rw [q_M_newPromise, hz_w_at d_M_newPromise_40]; rfl
theorem d_M_newPromise_41 : decode c_M_newPromise 41 = .ok (.getfield 141, 3) := by decide +kernel
theorem e_M_newPromise_41 : q_M_newPromise S (f + 1) 41 L (.ref i :: st) h = (hz_rd h i 5 17 fun v => q_M_newPromise S f 44 L (v :: st) h) := by rw [q_M_newPromise, hz_w_at d_M_newPromise_41]; rfl
theorem d_M_newPromise_44 : decode c_M_newPromise 44 = .ok (.iconst 1, 1) := by decide +kernel
theorem e_M_newPromise_44 : q_M_newPromise S (f + 1) 44 L st h = (q_M_newPromise S f 45 L (.int (hz_n 1) :: st) h) := by rw [q_M_newPromise, hz_w_at d_M_newPromise_44]; rfl
theorem d_M_newPromise_45 : decode c_M_newPromise 45 = .ok (.isub, 1) := by decide +kernel
theorem e_M_newPromise_45 : q_M_newPromise S (f + 1) 45 L (.int y :: .int x :: st) h = (q_M_newPromise S f 46 L (.int (x - y) :: st) h) := by rw [q_M_newPromise, hz_w_at d_M_newPromise_45]; rfl
theorem d_M_newPromise_46 : decode c_M_newPromise 46 = .ok (.ireturn, 1) := by decide +kernel
theorem e_M_newPromise_46 : q_M_newPromise S (f + 1) 46 L st h = (S 46 L st h) := by rw [q_M_newPromise, hz_w_at d_M_newPromise_46]; rfl
end
abbrev q_M_promise (S : Nat → List (Option Value) → List Value → hz_H → Prop) := hz_w zCl zKT f_M n_M c_M_promise [] S
section
variable {S : Nat → List (Option Value) → List Value → hz_H → Prop} {f : Nat} {L : List (Option Value)} {st : List Value} {h : hz_H} {x y : Int32} {i j : Nat} {X Y : Int64}
theorem d_M_promise_0 : decode c_M_promise 0 = .ok (.aload_n 0, 1) := by decide +kernel
theorem e_M_promise_0 {a1 a2 : Option Value} : q_M_promise S (f + 1) 0 [some (.ref i), a1, a2] st h = (q_M_promise S f 1 [some (.ref i), a1, a2] (.ref i :: st) h) := by rw [q_M_promise, hz_w_at d_M_promise_0]; rfl
theorem e_M_promise_0n {a1 a2 : Option Value} : q_M_promise S (f + 1) 0 [some .null, a1, a2] st h = (q_M_promise S f 1 [some .null, a1, a2] (.null :: st) h) := by rw [q_M_promise, hz_w_at d_M_promise_0]; rfl
theorem d_M_promise_1 : decode c_M_promise 1 = .ok (.getfield 26, 3) := by decide +kernel
theorem e_M_promise_1 : q_M_promise S (f + 1) 1 L (.ref i :: st) h = (hz_rd h i 5 8 fun v => q_M_promise S f 4 L (v :: st) h) := by rw [q_M_promise, hz_w_at d_M_promise_1]; rfl
theorem d_M_promise_4 : decode c_M_promise 4 = .ok (.iload_n 1, 1) := by decide +kernel
theorem e_M_promise_4 {a0 a2 : Option Value} : q_M_promise S (f + 1) 4 [a0, some (.int x), a2] st h = (q_M_promise S f 5 [a0, some (.int x), a2] (.int x :: st) h) := by rw [q_M_promise, hz_w_at d_M_promise_4]; rfl
theorem d_M_promise_5 : decode c_M_promise 5 = .ok (.iaload, 1) := by decide +kernel
theorem e_M_promise_5 : q_M_promise S (f + 1) 5 L (.int x :: .ref i :: st) h = (hz_ea zKT hz_kI h i x fun v => q_M_promise S f 6 L (v :: st) h) := by rw [q_M_promise, hz_w_at d_M_promise_5]; rfl
theorem d_M_promise_6 : decode c_M_promise 6 = .ok (.tableswitch 64 1 4 #[30, 42, 54, 51], 30) := by decide +kernel
theorem e_M_promise_6 : q_M_promise S (f + 1) 6 L (.int x :: st) h = (((x.toInt < 1 ∨ 4 < x.toInt) → q_M_promise S f 70 L st h) ∧ (x.toInt = 1 → q_M_promise S f 36 L st h) ∧ (x.toInt = 2 → q_M_promise S f 48 L st h) ∧ (x.toInt = 3 → q_M_promise S f 60 L st h) ∧ (x.toInt = 4 → q_M_promise S f 57 L st h) ∧ True) := by rw [q_M_promise, hz_w_at d_M_promise_6]; rfl
theorem d_M_promise_36 : decode c_M_promise 36 = .ok (.aload_n 0, 1) := by decide +kernel
theorem e_M_promise_36 {a1 a2 : Option Value} : q_M_promise S (f + 1) 36 [some (.ref i), a1, a2] st h = (q_M_promise S f 37 [some (.ref i), a1, a2] (.ref i :: st) h) := by rw [q_M_promise, hz_w_at d_M_promise_36]; rfl
theorem e_M_promise_36n {a1 a2 : Option Value} : q_M_promise S (f + 1) 36 [some .null, a1, a2] st h = (q_M_promise S f 37 [some .null, a1, a2] (.null :: st) h) := by rw [q_M_promise, hz_w_at d_M_promise_36]; rfl
theorem d_M_promise_37 : decode c_M_promise 37 = .ok (.aload_n 0, 1) := by decide +kernel
theorem e_M_promise_37 {a1 a2 : Option Value} : q_M_promise S (f + 1) 37 [some (.ref i), a1, a2] st h = (q_M_promise S f 38 [some (.ref i), a1, a2] (.ref i :: st) h) := by rw [q_M_promise, hz_w_at d_M_promise_37]; rfl
theorem e_M_promise_37n {a1 a2 : Option Value} : q_M_promise S (f + 1) 37 [some .null, a1, a2] st h = (q_M_promise S f 38 [some .null, a1, a2] (.null :: st) h) := by rw [q_M_promise, hz_w_at d_M_promise_37]; rfl
theorem d_M_promise_38 : decode c_M_promise 38 = .ok (.getfield 29, 3) := by decide +kernel
theorem e_M_promise_38 : q_M_promise S (f + 1) 38 L (.ref i :: st) h = (hz_rd h i 5 9 fun v => q_M_promise S f 41 L (v :: st) h) := by rw [q_M_promise, hz_w_at d_M_promise_38]; rfl
theorem d_M_promise_41 : decode c_M_promise 41 = .ok (.iload_n 1, 1) := by decide +kernel
theorem e_M_promise_41 {a0 a2 : Option Value} : q_M_promise S (f + 1) 41 [a0, some (.int x), a2] st h = (q_M_promise S f 42 [a0, some (.int x), a2] (.int x :: st) h) := by rw [q_M_promise, hz_w_at d_M_promise_41]; rfl
theorem d_M_promise_42 : decode c_M_promise 42 = .ok (.iaload, 1) := by decide +kernel
theorem e_M_promise_42 : q_M_promise S (f + 1) 42 L (.int x :: .ref i :: st) h = (hz_ea zKT hz_kI h i x fun v => q_M_promise S f 43 L (v :: st) h) := by rw [q_M_promise, hz_w_at d_M_promise_42]; rfl
theorem d_M_promise_43 : decode c_M_promise 43 = .ok (.iload_n 2, 1) := by decide +kernel
theorem e_M_promise_43 {a0 a1 : Option Value} : q_M_promise S (f + 1) 43 [a0, a1, some (.int x)] st h = (q_M_promise S f 44 [a0, a1, some (.int x)] (.int x :: st) h) := by rw [q_M_promise, hz_w_at d_M_promise_43]; rfl
theorem d_M_promise_44 : decode c_M_promise 44 = .ok (.invokevirtual 144, 3) := by decide +kernel
theorem e_M_promise_44 : q_M_promise S (f + 1) 44 L st h = (S 44 L st h) := by rw [q_M_promise, hz_w_at d_M_promise_44]; rfl
theorem d_M_promise_47 : decode c_M_promise 47 = .ok (.ireturn, 1) := by decide +kernel
theorem e_M_promise_47 : q_M_promise S (f + 1) 47 L st h = (S 47 L st h) := by rw [q_M_promise, hz_w_at d_M_promise_47]; rfl
theorem d_M_promise_48 : decode c_M_promise 48 = .ok (.iconst (-1), 1) := by decide +kernel
theorem e_M_promise_48 : q_M_promise S (f + 1) 48 L st h = (q_M_promise S f 49 L (.int (hz_n (-1)) :: st) h) := by rw [q_M_promise, hz_w_at d_M_promise_48]; rfl
theorem d_M_promise_49 : decode c_M_promise 49 = .ok (.aload_n 0, 1) := by decide +kernel
theorem e_M_promise_49 {a1 a2 : Option Value} : q_M_promise S (f + 1) 49 [some (.ref i), a1, a2] st h = (q_M_promise S f 50 [some (.ref i), a1, a2] (.ref i :: st) h) := by rw [q_M_promise, hz_w_at d_M_promise_49]; rfl
theorem e_M_promise_49n {a1 a2 : Option Value} : q_M_promise S (f + 1) 49 [some .null, a1, a2] st h = (q_M_promise S f 50 [some .null, a1, a2] (.null :: st) h) := by rw [q_M_promise, hz_w_at d_M_promise_49]; rfl
theorem d_M_promise_50 : decode c_M_promise 50 = .ok (.getfield 29, 3) := by decide +kernel
theorem e_M_promise_50 : q_M_promise S (f + 1) 50 L (.ref i :: st) h = (hz_rd h i 5 9 fun v => q_M_promise S f 53 L (v :: st) h) := by rw [q_M_promise, hz_w_at d_M_promise_50]; rfl
theorem d_M_promise_53 : decode c_M_promise 53 = .ok (.iload_n 1, 1) := by decide +kernel
theorem e_M_promise_53 {a0 a2 : Option Value} : q_M_promise S (f + 1) 53 [a0, some (.int x), a2] st h = (q_M_promise S f 54 [a0, some (.int x), a2] (.int x :: st) h) := by rw [q_M_promise, hz_w_at d_M_promise_53]; rfl
theorem d_M_promise_54 : decode c_M_promise 54 = .ok (.iaload, 1) := by decide +kernel
theorem e_M_promise_54 : q_M_promise S (f + 1) 54 L (.int x :: .ref i :: st) h = (hz_ea zKT hz_kI h i x fun v => q_M_promise S f 55 L (v :: st) h) := by rw [q_M_promise, hz_w_at d_M_promise_54]; rfl
theorem d_M_promise_55 : decode c_M_promise 55 = .ok (.isub, 1) := by decide +kernel
theorem e_M_promise_55 : q_M_promise S (f + 1) 55 L (.int y :: .int x :: st) h = (q_M_promise S f 56 L (.int (x - y) :: st) h) := by rw [q_M_promise, hz_w_at d_M_promise_55]; rfl
theorem d_M_promise_56 : decode c_M_promise 56 = .ok (.ireturn, 1) := by decide +kernel
theorem e_M_promise_56 : q_M_promise S (f + 1) 56 L st h = (S 56 L st h) := by rw [q_M_promise, hz_w_at d_M_promise_56]; rfl
theorem d_M_promise_57 : decode c_M_promise 57 = .ok (.bipush (-20), 2) := by decide +kernel
theorem e_M_promise_57 : q_M_promise S (f + 1) 57 L st h = (q_M_promise S f 59 L (.int (hz_n (-20)) :: st) h) := by rw [q_M_promise, hz_w_at d_M_promise_57]; rfl
theorem d_M_promise_59 : decode c_M_promise 59 = .ok (.ireturn, 1) := by decide +kernel
theorem e_M_promise_59 : q_M_promise S (f + 1) 59 L st h = (S 59 L st h) := by rw [q_M_promise, hz_w_at d_M_promise_59]; rfl
theorem d_M_promise_60 : decode c_M_promise 60 = .ok (.bipush (-30), 2) := by decide +kernel
theorem e_M_promise_60 : q_M_promise S (f + 1) 60 L st h = (q_M_promise S f 62 L (.int (hz_n (-30)) :: st) h) := by rw [q_M_promise, hz_w_at d_M_promise_60]; rfl
theorem d_M_promise_62 : decode c_M_promise 62 = .ok (.aload_n 0, 1) := by decide +kernel
theorem e_M_promise_62 {a1 a2 : Option Value} : q_M_promise S (f + 1) 62 [some (.ref i), a1, a2] st h = (q_M_promise S f 63 [some (.ref i), a1, a2] (.ref i :: st) h) := by rw [q_M_promise, hz_w_at d_M_promise_62]; rfl
theorem e_M_promise_62n {a1 a2 : Option Value} : q_M_promise S (f + 1) 62 [some .null, a1, a2] st h = (q_M_promise S f 63 [some .null, a1, a2] (.null :: st) h) := by rw [q_M_promise, hz_w_at d_M_promise_62]; rfl
theorem d_M_promise_63 : decode c_M_promise 63 = .ok (.getfield 29, 3) := by decide +kernel
theorem e_M_promise_63 : q_M_promise S (f + 1) 63 L (.ref i :: st) h = (hz_rd h i 5 9 fun v => q_M_promise S f 66 L (v :: st) h) := by rw [q_M_promise, hz_w_at d_M_promise_63]; rfl
theorem d_M_promise_66 : decode c_M_promise 66 = .ok (.iload_n 1, 1) := by decide +kernel
theorem e_M_promise_66 {a0 a2 : Option Value} : q_M_promise S (f + 1) 66 [a0, some (.int x), a2] st h = (q_M_promise S f 67 [a0, some (.int x), a2] (.int x :: st) h) := by rw [q_M_promise, hz_w_at d_M_promise_66]; rfl
theorem d_M_promise_67 : decode c_M_promise 67 = .ok (.iaload, 1) := by decide +kernel
theorem e_M_promise_67 : q_M_promise S (f + 1) 67 L (.int x :: .ref i :: st) h = (hz_ea zKT hz_kI h i x fun v => q_M_promise S f 68 L (v :: st) h) := by rw [q_M_promise, hz_w_at d_M_promise_67]; rfl
theorem d_M_promise_68 : decode c_M_promise 68 = .ok (.isub, 1) := by decide +kernel
theorem e_M_promise_68 : q_M_promise S (f + 1) 68 L (.int y :: .int x :: st) h = (q_M_promise S f 69 L (.int (x - y) :: st) h) := by rw [q_M_promise, hz_w_at d_M_promise_68]; rfl
theorem d_M_promise_69 : decode c_M_promise 69 = .ok (.ireturn, 1) := by decide +kernel
theorem e_M_promise_69 : q_M_promise S (f + 1) 69 L st h = (S 69 L st h) := by rw [q_M_promise, hz_w_at d_M_promise_69]; rfl
theorem d_M_promise_70 : decode c_M_promise 70 = .ok (.aload_n 0, 1) := by decide +kernel
theorem e_M_promise_70 {a1 a2 : Option Value} : q_M_promise S (f + 1) 70 [some (.ref i), a1, a2] st h = (q_M_promise S f 71 [some (.ref i), a1, a2] (.ref i :: st) h) := by rw [q_M_promise, hz_w_at d_M_promise_70]; rfl
theorem e_M_promise_70n {a1 a2 : Option Value} : q_M_promise S (f + 1) 70 [some .null, a1, a2] st h = (q_M_promise S f 71 [some .null, a1, a2] (.null :: st) h) := by rw [q_M_promise, hz_w_at d_M_promise_70]; rfl
theorem d_M_promise_71 : decode c_M_promise 71 = .ok (.iload_n 1, 1) := by decide +kernel
theorem e_M_promise_71 {a0 a2 : Option Value} : q_M_promise S (f + 1) 71 [a0, some (.int x), a2] st h = (q_M_promise S f 72 [a0, some (.int x), a2] (.int x :: st) h) := by rw [q_M_promise, hz_w_at d_M_promise_71]; rfl
theorem d_M_promise_72 : decode c_M_promise 72 = .ok (.iload_n 2, 1) := by decide +kernel
theorem e_M_promise_72 {a0 a1 : Option Value} : q_M_promise S (f + 1) 72 [a0, a1, some (.int x)] st h = (q_M_promise S f 73 [a0, a1, some (.int x)] (.int x :: st) h) := by rw [q_M_promise, hz_w_at d_M_promise_72]; rfl
theorem d_M_promise_73 : decode c_M_promise 73 = .ok (.invokevirtual 147, 3) := by decide +kernel
theorem e_M_promise_73 : q_M_promise S (f + 1) 73 L st h = (S 73 L st h) := by rw [q_M_promise, hz_w_at d_M_promise_73]; rfl
theorem d_M_promise_76 : decode c_M_promise 76 = .ok (.ireturn, 1) := by decide +kernel
theorem e_M_promise_76 : q_M_promise S (f + 1) 76 L st h = (S 76 L st h) := by rw [q_M_promise, hz_w_at d_M_promise_76]; rfl
end
abbrev q_M_looked (S : Nat → List (Option Value) → List Value → hz_H → Prop) := hz_w zCl zKT f_M n_M c_M_looked [2] S
section
variable {S : Nat → List (Option Value) → List Value → hz_H → Prop} {f : Nat} {L : List (Option Value)} {st : List Value} {h : hz_H} {x y : Int32} {i j : Nat} {X Y : Int64}
theorem d_M_looked_0 : decode c_M_looked 0 = .ok (.iload_n 2, 1) := by decide +kernel
theorem e_M_looked_0 {a0 a1 a3 : Option Value} : q_M_looked S (f + 1) 0 [a0, a1, some (.int x), a3] st h = (q_M_looked S f 1 [a0, a1, some (.int x), a3] (.int x :: st) h) := by rw [q_M_looked, hz_w_at d_M_looked_0]; rfl
theorem d_M_looked_1 : decode c_M_looked 1 = .ok (.istore_n 3, 1) := by decide +kernel
theorem e_M_looked_1 {a0 a1 a2 a3 : Option Value} : q_M_looked S (f + 1) 1 [a0, a1, a2, a3] (.int x :: st) h = (S 2 [a0, a1, a2, some (.int x)] st h) := by rw [q_M_looked, hz_w_at d_M_looked_1]; rfl
theorem d_M_looked_2 : decode c_M_looked 2 = .ok (.aload_n 0, 1) := by decide +kernel
theorem e_M_looked_2 {a1 a2 a3 : Option Value} : q_M_looked S (f + 1) 2 [some (.ref i), a1, a2, a3] st h = (q_M_looked S f 3 [some (.ref i), a1, a2, a3] (.ref i :: st) h) := by rw [q_M_looked, hz_w_at d_M_looked_2]; rfl
theorem e_M_looked_2n {a1 a2 a3 : Option Value} : q_M_looked S (f + 1) 2 [some .null, a1, a2, a3] st h = (q_M_looked S f 3 [some .null, a1, a2, a3] (.null :: st) h) := by rw [q_M_looked, hz_w_at d_M_looked_2]; rfl
theorem d_M_looked_3 : decode c_M_looked 3 = .ok (.getfield 65, 3) := by decide +kernel
theorem e_M_looked_3 : q_M_looked S (f + 1) 3 L (.ref i :: st) h = (hz_rd h i 5 26 fun v => q_M_looked S f 6 L (v :: st) h) := by rw [q_M_looked, hz_w_at d_M_looked_3]; rfl
theorem d_M_looked_6 : decode c_M_looked 6 = .ok (.iload_n 3, 1) := by decide +kernel
theorem e_M_looked_6 {a0 a1 a2 : Option Value} : q_M_looked S (f + 1) 6 [a0, a1, a2, some (.int x)] st h = (q_M_looked S f 7 [a0, a1, a2, some (.int x)] (.int x :: st) h) := by rw [q_M_looked, hz_w_at d_M_looked_6]; rfl
theorem d_M_looked_7 : decode c_M_looked 7 = .ok (.iaload, 1) := by decide +kernel
theorem e_M_looked_7 : q_M_looked S (f + 1) 7 L (.int x :: .ref i :: st) h = (hz_ea zKT hz_kI h i x fun v => q_M_looked S f 8 L (v :: st) h) := by rw [q_M_looked, hz_w_at d_M_looked_7]; rfl
theorem d_M_looked_8 : decode c_M_looked 8 = .ok (.iload_n 1, 1) := by decide +kernel
theorem e_M_looked_8 {a0 a2 a3 : Option Value} : q_M_looked S (f + 1) 8 [a0, some (.int x), a2, a3] st h = (q_M_looked S f 9 [a0, some (.int x), a2, a3] (.int x :: st) h) := by rw [q_M_looked, hz_w_at d_M_looked_8]; rfl
theorem d_M_looked_9 : decode c_M_looked 9 = .ok (.if_icmp .eq 13, 3) := by decide +kernel
theorem e_M_looked_9 : q_M_looked S (f + 1) 9 L (.int y :: .int x :: st) h = ((x.toInt = y.toInt → q_M_looked S f 22 L st h) ∧ (¬ (x.toInt = y.toInt) → q_M_looked S f 12 L st h)) := by rw [q_M_looked, hz_w_at d_M_looked_9]; rfl
theorem d_M_looked_12 : decode c_M_looked 12 = .ok (.aload_n 0, 1) := by decide +kernel
theorem e_M_looked_12 {a1 a2 a3 : Option Value} : q_M_looked S (f + 1) 12 [some (.ref i), a1, a2, a3] st h = (q_M_looked S f 13 [some (.ref i), a1, a2, a3] (.ref i :: st) h) := by rw [q_M_looked, hz_w_at d_M_looked_12]; rfl
theorem e_M_looked_12n {a1 a2 a3 : Option Value} : q_M_looked S (f + 1) 12 [some .null, a1, a2, a3] st h = (q_M_looked S f 13 [some .null, a1, a2, a3] (.null :: st) h) := by rw [q_M_looked, hz_w_at d_M_looked_12]; rfl
theorem d_M_looked_13 : decode c_M_looked 13 = .ok (.getfield 71, 3) := by decide +kernel
theorem e_M_looked_13 : q_M_looked S (f + 1) 13 L (.ref i :: st) h = (hz_rd h i 5 28 fun v => q_M_looked S f 16 L (v :: st) h) := by rw [q_M_looked, hz_w_at d_M_looked_13]; rfl
theorem d_M_looked_16 : decode c_M_looked 16 = .ok (.iload_n 3, 1) := by decide +kernel
theorem e_M_looked_16 {a0 a1 a2 : Option Value} : q_M_looked S (f + 1) 16 [a0, a1, a2, some (.int x)] st h = (q_M_looked S f 17 [a0, a1, a2, some (.int x)] (.int x :: st) h) := by rw [q_M_looked, hz_w_at d_M_looked_16]; rfl
theorem d_M_looked_17 : decode c_M_looked 17 = .ok (.iaload, 1) := by decide +kernel
theorem e_M_looked_17 : q_M_looked S (f + 1) 17 L (.int x :: .ref i :: st) h = (hz_ea zKT hz_kI h i x fun v => q_M_looked S f 18 L (v :: st) h) := by rw [q_M_looked, hz_w_at d_M_looked_17]; rfl
theorem d_M_looked_18 : decode c_M_looked 18 = .ok (.istore_n 3, 1) := by decide +kernel
theorem e_M_looked_18 {a0 a1 a2 a3 : Option Value} : q_M_looked S (f + 1) 18 [a0, a1, a2, a3] (.int x :: st) h = (q_M_looked S f 19 [a0, a1, a2, some (.int x)] st h) := by rw [q_M_looked, hz_w_at d_M_looked_18]; rfl
theorem d_M_looked_19 : decode c_M_looked 19 = .ok (.goto (-17), 3) := by decide +kernel
theorem e_M_looked_19 : q_M_looked S (f + 1) 19 L st h = (S 2 L st h) := by rw [q_M_looked, hz_w_at d_M_looked_19]; rfl
theorem d_M_looked_22 : decode c_M_looked 22 = .ok (.aload_n 0, 1) := by decide +kernel
theorem e_M_looked_22 {a1 a2 a3 : Option Value} : q_M_looked S (f + 1) 22 [some (.ref i), a1, a2, a3] st h = (q_M_looked S f 23 [some (.ref i), a1, a2, a3] (.ref i :: st) h) := by rw [q_M_looked, hz_w_at d_M_looked_22]; rfl
theorem e_M_looked_22n {a1 a2 a3 : Option Value} : q_M_looked S (f + 1) 22 [some .null, a1, a2, a3] st h = (q_M_looked S f 23 [some .null, a1, a2, a3] (.null :: st) h) := by rw [q_M_looked, hz_w_at d_M_looked_22]; rfl
theorem d_M_looked_23 : decode c_M_looked 23 = .ok (.getfield 68, 3) := by decide +kernel
theorem e_M_looked_23 : q_M_looked S (f + 1) 23 L (.ref i :: st) h = (hz_rd h i 5 27 fun v => q_M_looked S f 26 L (v :: st) h) := by rw [q_M_looked, hz_w_at d_M_looked_23]; rfl
theorem d_M_looked_26 : decode c_M_looked 26 = .ok (.iload_n 3, 1) := by decide +kernel
theorem e_M_looked_26 {a0 a1 a2 : Option Value} : q_M_looked S (f + 1) 26 [a0, a1, a2, some (.int x)] st h = (q_M_looked S f 27 [a0, a1, a2, some (.int x)] (.int x :: st) h) := by rw [q_M_looked, hz_w_at d_M_looked_26]; rfl
theorem d_M_looked_27 : decode c_M_looked 27 = .ok (.iaload, 1) := by decide +kernel
theorem e_M_looked_27 : q_M_looked S (f + 1) 27 L (.int x :: .ref i :: st) h = (hz_ea zKT hz_kI h i x fun v => q_M_looked S f 28 L (v :: st) h) := by rw [q_M_looked, hz_w_at d_M_looked_27]; rfl
theorem d_M_looked_28 : decode c_M_looked 28 = .ok (.ireturn, 1) := by decide +kernel
theorem e_M_looked_28 : q_M_looked S (f + 1) 28 L st h = (S 28 L st h) := by rw [q_M_looked, hz_w_at d_M_looked_28]; rfl
end
abbrev q_M_bind (S : Nat → List (Option Value) → List Value → hz_H → Prop) := hz_w zCl zKT f_M n_M c_M_bind [] S
section
variable {S : Nat → List (Option Value) → List Value → hz_H → Prop} {f : Nat} {L : List (Option Value)} {st : List Value} {h : hz_H} {x y : Int32} {i j : Nat} {X Y : Int64}
theorem d_M_bind_0 : decode c_M_bind 0 = .ok (.aload_n 0, 1) := by decide +kernel
theorem e_M_bind_0 {a1 a2 a3 : Option Value} : q_M_bind S (f + 1) 0 [some (.ref i), a1, a2, a3] st h = (q_M_bind S f 1 [some (.ref i), a1, a2, a3] (.ref i :: st) h) := by rw [q_M_bind, hz_w_at d_M_bind_0]; rfl
theorem e_M_bind_0n {a1 a2 a3 : Option Value} : q_M_bind S (f + 1) 0 [some .null, a1, a2, a3] st h = (q_M_bind S f 1 [some .null, a1, a2, a3] (.null :: st) h) := by rw [q_M_bind, hz_w_at d_M_bind_0]; rfl
theorem d_M_bind_1 : decode c_M_bind 1 = .ok (.getfield 65, 3) := by decide +kernel
theorem e_M_bind_1 : q_M_bind S (f + 1) 1 L (.ref i :: st) h = (hz_rd h i 5 26 fun v => q_M_bind S f 4 L (v :: st) h) := by rw [q_M_bind, hz_w_at d_M_bind_1]; rfl
theorem d_M_bind_4 : decode c_M_bind 4 = .ok (.aload_n 0, 1) := by decide +kernel
theorem e_M_bind_4 {a1 a2 a3 : Option Value} : q_M_bind S (f + 1) 4 [some (.ref i), a1, a2, a3] st h = (q_M_bind S f 5 [some (.ref i), a1, a2, a3] (.ref i :: st) h) := by rw [q_M_bind, hz_w_at d_M_bind_4]; rfl
theorem e_M_bind_4n {a1 a2 a3 : Option Value} : q_M_bind S (f + 1) 4 [some .null, a1, a2, a3] st h = (q_M_bind S f 5 [some .null, a1, a2, a3] (.null :: st) h) := by rw [q_M_bind, hz_w_at d_M_bind_4]; rfl
theorem d_M_bind_5 : decode c_M_bind 5 = .ok (.getfield 150, 3) := by decide +kernel
theorem e_M_bind_5 : q_M_bind S (f + 1) 5 L (.ref i :: st) h = (hz_rd h i 5 25 fun v => q_M_bind S f 8 L (v :: st) h) := by rw [q_M_bind, hz_w_at d_M_bind_5]; rfl
theorem d_M_bind_8 : decode c_M_bind 8 = .ok (.iload_n 1, 1) := by decide +kernel
theorem e_M_bind_8 {a0 a2 a3 : Option Value} : q_M_bind S (f + 1) 8 [a0, some (.int x), a2, a3] st h = (q_M_bind S f 9 [a0, some (.int x), a2, a3] (.int x :: st) h) := by rw [q_M_bind, hz_w_at d_M_bind_8]; rfl
theorem d_M_bind_9 : decode c_M_bind 9 = .ok (.iastore, 1) := by decide +kernel
theorem e_M_bind_9 : q_M_bind S (f + 1) 9 L (.int y :: .int x :: .ref i :: st) h = (hz_es zKT hz_kI h i x (.int y) fun h => q_M_bind S f 10 L st h) := by rw [q_M_bind, hz_w_at d_M_bind_9]; rfl
theorem d_M_bind_10 : decode c_M_bind 10 = .ok (.aload_n 0, 1) := by decide +kernel
theorem e_M_bind_10 {a1 a2 a3 : Option Value} : q_M_bind S (f + 1) 10 [some (.ref i), a1, a2, a3] st h = (q_M_bind S f 11 [some (.ref i), a1, a2, a3] (.ref i :: st) h) := by rw [q_M_bind, hz_w_at d_M_bind_10]; rfl
theorem e_M_bind_10n {a1 a2 a3 : Option Value} : q_M_bind S (f + 1) 10 [some .null, a1, a2, a3] st h = (q_M_bind S f 11 [some .null, a1, a2, a3] (.null :: st) h) := by rw [q_M_bind, hz_w_at d_M_bind_10]; rfl
theorem d_M_bind_11 : decode c_M_bind 11 = .ok (.getfield 68, 3) := by decide +kernel
theorem e_M_bind_11 : q_M_bind S (f + 1) 11 L (.ref i :: st) h = (hz_rd h i 5 27 fun v => q_M_bind S f 14 L (v :: st) h) := by rw [q_M_bind, hz_w_at d_M_bind_11]; rfl
theorem d_M_bind_14 : decode c_M_bind 14 = .ok (.aload_n 0, 1) := by decide +kernel
theorem e_M_bind_14 {a1 a2 a3 : Option Value} : q_M_bind S (f + 1) 14 [some (.ref i), a1, a2, a3] st h = (q_M_bind S f 15 [some (.ref i), a1, a2, a3] (.ref i :: st) h) := by rw [q_M_bind, hz_w_at d_M_bind_14]; rfl
theorem e_M_bind_14n {a1 a2 a3 : Option Value} : q_M_bind S (f + 1) 14 [some .null, a1, a2, a3] st h = (q_M_bind S f 15 [some .null, a1, a2, a3] (.null :: st) h) := by rw [q_M_bind, hz_w_at d_M_bind_14]; rfl
theorem d_M_bind_15 : decode c_M_bind 15 = .ok (.getfield 150, 3) := by decide +kernel
theorem e_M_bind_15 : q_M_bind S (f + 1) 15 L (.ref i :: st) h = (hz_rd h i 5 25 fun v => q_M_bind S f 18 L (v :: st) h) := by rw [q_M_bind, hz_w_at d_M_bind_15]; rfl
theorem d_M_bind_18 : decode c_M_bind 18 = .ok (.iload_n 2, 1) := by decide +kernel
theorem e_M_bind_18 {a0 a1 a3 : Option Value} : q_M_bind S (f + 1) 18 [a0, a1, some (.int x), a3] st h = (q_M_bind S f 19 [a0, a1, some (.int x), a3] (.int x :: st) h) := by rw [q_M_bind, hz_w_at d_M_bind_18]; rfl
theorem d_M_bind_19 : decode c_M_bind 19 = .ok (.iastore, 1) := by decide +kernel
theorem e_M_bind_19 : q_M_bind S (f + 1) 19 L (.int y :: .int x :: .ref i :: st) h = (hz_es zKT hz_kI h i x (.int y) fun h => q_M_bind S f 20 L st h) := by rw [q_M_bind, hz_w_at d_M_bind_19]; rfl
theorem d_M_bind_20 : decode c_M_bind 20 = .ok (.aload_n 0, 1) := by decide +kernel
theorem e_M_bind_20 {a1 a2 a3 : Option Value} : q_M_bind S (f + 1) 20 [some (.ref i), a1, a2, a3] st h = (q_M_bind S f 21 [some (.ref i), a1, a2, a3] (.ref i :: st) h) := by rw [q_M_bind, hz_w_at d_M_bind_20]; rfl
theorem e_M_bind_20n {a1 a2 a3 : Option Value} : q_M_bind S (f + 1) 20 [some .null, a1, a2, a3] st h = (q_M_bind S f 21 [some .null, a1, a2, a3] (.null :: st) h) := by rw [q_M_bind, hz_w_at d_M_bind_20]; rfl
theorem d_M_bind_21 : decode c_M_bind 21 = .ok (.getfield 71, 3) := by decide +kernel
theorem e_M_bind_21 : q_M_bind S (f + 1) 21 L (.ref i :: st) h = (hz_rd h i 5 28 fun v => q_M_bind S f 24 L (v :: st) h) := by rw [q_M_bind, hz_w_at d_M_bind_21]; rfl
theorem d_M_bind_24 : decode c_M_bind 24 = .ok (.aload_n 0, 1) := by decide +kernel
theorem e_M_bind_24 {a1 a2 a3 : Option Value} : q_M_bind S (f + 1) 24 [some (.ref i), a1, a2, a3] st h = (q_M_bind S f 25 [some (.ref i), a1, a2, a3] (.ref i :: st) h) := by rw [q_M_bind, hz_w_at d_M_bind_24]; rfl
theorem e_M_bind_24n {a1 a2 a3 : Option Value} : q_M_bind S (f + 1) 24 [some .null, a1, a2, a3] st h = (q_M_bind S f 25 [some .null, a1, a2, a3] (.null :: st) h) := by rw [q_M_bind, hz_w_at d_M_bind_24]; rfl
theorem d_M_bind_25 : decode c_M_bind 25 = .ok (.getfield 150, 3) := by decide +kernel
theorem e_M_bind_25 : q_M_bind S (f + 1) 25 L (.ref i :: st) h = (hz_rd h i 5 25 fun v => q_M_bind S f 28 L (v :: st) h) := by rw [q_M_bind, hz_w_at d_M_bind_25]; rfl
theorem d_M_bind_28 : decode c_M_bind 28 = .ok (.iload_n 3, 1) := by decide +kernel
theorem e_M_bind_28 {a0 a1 a2 : Option Value} : q_M_bind S (f + 1) 28 [a0, a1, a2, some (.int x)] st h = (q_M_bind S f 29 [a0, a1, a2, some (.int x)] (.int x :: st) h) := by rw [q_M_bind, hz_w_at d_M_bind_28]; rfl
theorem d_M_bind_29 : decode c_M_bind 29 = .ok (.iastore, 1) := by decide +kernel
theorem e_M_bind_29 : q_M_bind S (f + 1) 29 L (.int y :: .int x :: .ref i :: st) h = (hz_es zKT hz_kI h i x (.int y) fun h => q_M_bind S f 30 L st h) := by rw [q_M_bind, hz_w_at d_M_bind_29]; rfl
theorem d_M_bind_30 : decode c_M_bind 30 = .ok (.aload_n 0, 1) := by decide +kernel
theorem e_M_bind_30 {a1 a2 a3 : Option Value} : q_M_bind S (f + 1) 30 [some (.ref i), a1, a2, a3] st h = (q_M_bind S f 31 [some (.ref i), a1, a2, a3] (.ref i :: st) h) := by rw [q_M_bind, hz_w_at d_M_bind_30]; rfl
theorem e_M_bind_30n {a1 a2 a3 : Option Value} : q_M_bind S (f + 1) 30 [some .null, a1, a2, a3] st h = (q_M_bind S f 31 [some .null, a1, a2, a3] (.null :: st) h) := by rw [q_M_bind, hz_w_at d_M_bind_30]; rfl
theorem d_M_bind_31 : decode c_M_bind 31 = .ok (.dup, 1) := by decide +kernel
theorem e_M_bind_31 : q_M_bind S (f + 1) 31 L (.ref i :: st) h = (q_M_bind S f 32 L (.ref i :: .ref i :: st) h) := by rw [q_M_bind, hz_w_at d_M_bind_31]; rfl
theorem e_M_bind_31i : q_M_bind S (f + 1) 31 L (.int x :: st) h = (q_M_bind S f 32 L (.int x :: .int x :: st) h) := by rw [q_M_bind, hz_w_at d_M_bind_31]; rfl
theorem d_M_bind_32 : decode c_M_bind 32 = .ok (.getfield 150, 3) := by decide +kernel
theorem e_M_bind_32 : q_M_bind S (f + 1) 32 L (.ref i :: st) h = (hz_rd h i 5 25 fun v => q_M_bind S f 35 L (v :: st) h) := by rw [q_M_bind, hz_w_at d_M_bind_32]; rfl
theorem d_M_bind_35 : decode c_M_bind 35 = .ok (.iconst 1, 1) := by decide +kernel
theorem e_M_bind_35 : q_M_bind S (f + 1) 35 L st h = (q_M_bind S f 36 L (.int (hz_n 1) :: st) h) := by rw [q_M_bind, hz_w_at d_M_bind_35]; rfl
theorem d_M_bind_36 : decode c_M_bind 36 = .ok (.iadd, 1) := by decide +kernel
theorem e_M_bind_36 : q_M_bind S (f + 1) 36 L (.int y :: .int x :: st) h = (q_M_bind S f 37 L (.int (x + y) :: st) h) := by rw [q_M_bind, hz_w_at d_M_bind_36]; rfl
theorem d_M_bind_37 : decode c_M_bind 37 = .ok (.putfield 150, 3) := by decide +kernel
theorem e_M_bind_37 : q_M_bind S (f + 1) 37 L (.int x :: .ref i :: st) h = (hz_wr h i 5 25 (.int x) fun h => q_M_bind S f 40 L st h) := by rw [q_M_bind, hz_w_at d_M_bind_37]; rfl
theorem d_M_bind_40 : decode c_M_bind 40 = .ok (.aload_n 0, 1) := by decide +kernel
theorem e_M_bind_40 {a1 a2 a3 : Option Value} : q_M_bind S (f + 1) 40 [some (.ref i), a1, a2, a3] st h = (q_M_bind S f 41 [some (.ref i), a1, a2, a3] (.ref i :: st) h) := by rw [q_M_bind, hz_w_at d_M_bind_40]; rfl
theorem e_M_bind_40n {a1 a2 a3 : Option Value} : q_M_bind S (f + 1) 40 [some .null, a1, a2, a3] st h = (q_M_bind S f 41 [some .null, a1, a2, a3] (.null :: st) h) := by rw [q_M_bind, hz_w_at d_M_bind_40]; rfl
theorem d_M_bind_41 : decode c_M_bind 41 = .ok (.getfield 150, 3) := by decide +kernel
theorem e_M_bind_41 : q_M_bind S (f + 1) 41 L (.ref i :: st) h = (hz_rd h i 5 25 fun v => q_M_bind S f 44 L (v :: st) h) := by rw [q_M_bind, hz_w_at d_M_bind_41]; rfl
theorem d_M_bind_44 : decode c_M_bind 44 = .ok (.iconst 1, 1) := by decide +kernel
theorem e_M_bind_44 : q_M_bind S (f + 1) 44 L st h = (q_M_bind S f 45 L (.int (hz_n 1) :: st) h) := by rw [q_M_bind, hz_w_at d_M_bind_44]; rfl
theorem d_M_bind_45 : decode c_M_bind 45 = .ok (.isub, 1) := by decide +kernel
theorem e_M_bind_45 : q_M_bind S (f + 1) 45 L (.int y :: .int x :: st) h = (q_M_bind S f 46 L (.int (x - y) :: st) h) := by rw [q_M_bind, hz_w_at d_M_bind_45]; rfl
theorem d_M_bind_46 : decode c_M_bind 46 = .ok (.ireturn, 1) := by decide +kernel
theorem e_M_bind_46 : q_M_bind S (f + 1) 46 L st h = (S 46 L st h) := by rw [q_M_bind, hz_w_at d_M_bind_46]; rfl
end
abbrev q_M_store (S : Nat → List (Option Value) → List Value → hz_H → Prop) := hz_w zCl zKT f_M n_M c_M_store [] S
section
variable {S : Nat → List (Option Value) → List Value → hz_H → Prop} {f : Nat} {L : List (Option Value)} {st : List Value} {h : hz_H} {x y : Int32} {i j : Nat} {X Y : Int64}
theorem d_M_store_0 : decode c_M_store 0 = .ok (.aload_n 0, 1) := by decide +kernel
theorem e_M_store_0 {a1 : Option Value} : q_M_store S (f + 1) 0 [some (.ref i), a1] st h = (q_M_store S f 1 [some (.ref i), a1] (.ref i :: st) h) := by rw [q_M_store, hz_w_at d_M_store_0]; rfl
theorem e_M_store_0n {a1 : Option Value} : q_M_store S (f + 1) 0 [some .null, a1] st h = (q_M_store S f 1 [some .null, a1] (.null :: st) h) := by rw [q_M_store, hz_w_at d_M_store_0]; rfl
theorem d_M_store_1 : decode c_M_store 1 = .ok (.getfield 62, 3) := by decide +kernel
theorem e_M_store_1 : q_M_store S (f + 1) 1 L (.ref i :: st) h = (hz_rd h i 5 24 fun v => q_M_store S f 4 L (v :: st) h) := by rw [q_M_store, hz_w_at d_M_store_1]; rfl
theorem d_M_store_4 : decode c_M_store 4 = .ok (.aload_n 0, 1) := by decide +kernel
theorem e_M_store_4 {a1 : Option Value} : q_M_store S (f + 1) 4 [some (.ref i), a1] st h = (q_M_store S f 5 [some (.ref i), a1] (.ref i :: st) h) := by rw [q_M_store, hz_w_at d_M_store_4]; rfl
theorem e_M_store_4n {a1 : Option Value} : q_M_store S (f + 1) 4 [some .null, a1] st h = (q_M_store S f 5 [some .null, a1] (.null :: st) h) := by rw [q_M_store, hz_w_at d_M_store_4]; rfl
theorem d_M_store_5 : decode c_M_store 5 = .ok (.getfield 153, 3) := by decide +kernel
theorem e_M_store_5 : q_M_store S (f + 1) 5 L (.ref i :: st) h = (hz_rd h i 5 23 fun v => q_M_store S f 8 L (v :: st) h) := by rw [q_M_store, hz_w_at d_M_store_5]; rfl
theorem d_M_store_8 : decode c_M_store 8 = .ok (.iload_n 1, 1) := by decide +kernel
theorem e_M_store_8 {a0 : Option Value} : q_M_store S (f + 1) 8 [a0, some (.int x)] st h = (q_M_store S f 9 [a0, some (.int x)] (.int x :: st) h) := by rw [q_M_store, hz_w_at d_M_store_8]; rfl
theorem d_M_store_9 : decode c_M_store 9 = .ok (.iastore, 1) := by decide +kernel
theorem e_M_store_9 : q_M_store S (f + 1) 9 L (.int y :: .int x :: .ref i :: st) h = (hz_es zKT hz_kI h i x (.int y) fun h => q_M_store S f 10 L st h) := by rw [q_M_store, hz_w_at d_M_store_9]; rfl
theorem d_M_store_10 : decode c_M_store 10 = .ok (.aload_n 0, 1) := by decide +kernel
theorem e_M_store_10 {a1 : Option Value} : q_M_store S (f + 1) 10 [some (.ref i), a1] st h = (q_M_store S f 11 [some (.ref i), a1] (.ref i :: st) h) := by rw [q_M_store, hz_w_at d_M_store_10]; rfl
theorem e_M_store_10n {a1 : Option Value} : q_M_store S (f + 1) 10 [some .null, a1] st h = (q_M_store S f 11 [some .null, a1] (.null :: st) h) := by rw [q_M_store, hz_w_at d_M_store_10]; rfl
theorem d_M_store_11 : decode c_M_store 11 = .ok (.dup, 1) := by decide +kernel
theorem e_M_store_11 : q_M_store S (f + 1) 11 L (.ref i :: st) h = (q_M_store S f 12 L (.ref i :: .ref i :: st) h) := by rw [q_M_store, hz_w_at d_M_store_11]; rfl
theorem e_M_store_11i : q_M_store S (f + 1) 11 L (.int x :: st) h = (q_M_store S f 12 L (.int x :: .int x :: st) h) := by rw [q_M_store, hz_w_at d_M_store_11]; rfl
theorem d_M_store_12 : decode c_M_store 12 = .ok (.getfield 153, 3) := by decide +kernel
theorem e_M_store_12 : q_M_store S (f + 1) 12 L (.ref i :: st) h = (hz_rd h i 5 23 fun v => q_M_store S f 15 L (v :: st) h) := by rw [q_M_store, hz_w_at d_M_store_12]; rfl
theorem d_M_store_15 : decode c_M_store 15 = .ok (.iconst 1, 1) := by decide +kernel
theorem e_M_store_15 : q_M_store S (f + 1) 15 L st h = (q_M_store S f 16 L (.int (hz_n 1) :: st) h) := by rw [q_M_store, hz_w_at d_M_store_15]; rfl
theorem d_M_store_16 : decode c_M_store 16 = .ok (.iadd, 1) := by decide +kernel
theorem e_M_store_16 : q_M_store S (f + 1) 16 L (.int y :: .int x :: st) h = (q_M_store S f 17 L (.int (x + y) :: st) h) := by rw [q_M_store, hz_w_at d_M_store_16]; rfl
theorem d_M_store_17 : decode c_M_store 17 = .ok (.putfield 153, 3) := by decide +kernel
theorem e_M_store_17 : q_M_store S (f + 1) 17 L (.int x :: .ref i :: st) h = (hz_wr h i 5 23 (.int x) fun h => q_M_store S f 20 L st h) := by rw [q_M_store, hz_w_at d_M_store_17]; rfl
theorem d_M_store_20 : decode c_M_store 20 = .ok (.aload_n 0, 1) := by decide +kernel
theorem e_M_store_20 {a1 : Option Value} : q_M_store S (f + 1) 20 [some (.ref i), a1] st h = (q_M_store S f 21 [some (.ref i), a1] (.ref i :: st) h) := by rw [q_M_store, hz_w_at d_M_store_20]; rfl
theorem e_M_store_20n {a1 : Option Value} : q_M_store S (f + 1) 20 [some .null, a1] st h = (q_M_store S f 21 [some .null, a1] (.null :: st) h) := by rw [q_M_store, hz_w_at d_M_store_20]; rfl
theorem d_M_store_21 : decode c_M_store 21 = .ok (.getfield 153, 3) := by decide +kernel
theorem e_M_store_21 : q_M_store S (f + 1) 21 L (.ref i :: st) h = (hz_rd h i 5 23 fun v => q_M_store S f 24 L (v :: st) h) := by rw [q_M_store, hz_w_at d_M_store_21]; rfl
theorem d_M_store_24 : decode c_M_store 24 = .ok (.iconst 1, 1) := by decide +kernel
theorem e_M_store_24 : q_M_store S (f + 1) 24 L st h = (q_M_store S f 25 L (.int (hz_n 1) :: st) h) := by rw [q_M_store, hz_w_at d_M_store_24]; rfl
theorem d_M_store_25 : decode c_M_store 25 = .ok (.isub, 1) := by decide +kernel
theorem e_M_store_25 : q_M_store S (f + 1) 25 L (.int y :: .int x :: st) h = (q_M_store S f 26 L (.int (x - y) :: st) h) := by rw [q_M_store, hz_w_at d_M_store_25]; rfl
theorem d_M_store_26 : decode c_M_store 26 = .ok (.ireturn, 1) := by decide +kernel
theorem e_M_store_26 : q_M_store S (f + 1) 26 L st h = (S 26 L st h) := by rw [q_M_store, hz_w_at d_M_store_26]; rfl
end
abbrev q_M_stack (S : Nat → List (Option Value) → List Value → hz_H → Prop) := hz_w zCl zKT f_M n_M c_M_stack [] S
section
variable {S : Nat → List (Option Value) → List Value → hz_H → Prop} {f : Nat} {L : List (Option Value)} {st : List Value} {h : hz_H} {x y : Int32} {i j : Nat} {X Y : Int64}
theorem d_M_stack_0 : decode c_M_stack 0 = .ok (.aload_n 0, 1) := by decide +kernel
theorem e_M_stack_0 {a1 a2 a3 : Option Value} : q_M_stack S (f + 1) 0 [some (.ref i), a1, a2, a3] st h = (q_M_stack S f 1 [some (.ref i), a1, a2, a3] (.ref i :: st) h) := by rw [q_M_stack, hz_w_at d_M_stack_0]; rfl
theorem e_M_stack_0n {a1 a2 a3 : Option Value} : q_M_stack S (f + 1) 0 [some .null, a1, a2, a3] st h = (q_M_stack S f 1 [some .null, a1, a2, a3] (.null :: st) h) := by rw [q_M_stack, hz_w_at d_M_stack_0]; rfl
theorem d_M_stack_1 : decode c_M_stack 1 = .ok (.getfield 74, 3) := by decide +kernel
theorem e_M_stack_1 : q_M_stack S (f + 1) 1 L (.ref i :: st) h = (hz_rd h i 5 30 fun v => q_M_stack S f 4 L (v :: st) h) := by rw [q_M_stack, hz_w_at d_M_stack_1]; rfl
theorem d_M_stack_4 : decode c_M_stack 4 = .ok (.aload_n 0, 1) := by decide +kernel
theorem e_M_stack_4 {a1 a2 a3 : Option Value} : q_M_stack S (f + 1) 4 [some (.ref i), a1, a2, a3] st h = (q_M_stack S f 5 [some (.ref i), a1, a2, a3] (.ref i :: st) h) := by rw [q_M_stack, hz_w_at d_M_stack_4]; rfl
theorem e_M_stack_4n {a1 a2 a3 : Option Value} : q_M_stack S (f + 1) 4 [some .null, a1, a2, a3] st h = (q_M_stack S f 5 [some .null, a1, a2, a3] (.null :: st) h) := by rw [q_M_stack, hz_w_at d_M_stack_4]; rfl
theorem d_M_stack_5 : decode c_M_stack 5 = .ok (.getfield 156, 3) := by decide +kernel
theorem e_M_stack_5 : q_M_stack S (f + 1) 5 L (.ref i :: st) h = (hz_rd h i 5 29 fun v => q_M_stack S f 8 L (v :: st) h) := by rw [q_M_stack, hz_w_at d_M_stack_5]; rfl
theorem d_M_stack_8 : decode c_M_stack 8 = .ok (.sipush 4096, 3) := by decide +kernel
theorem e_M_stack_8 : q_M_stack S (f + 1) 8 L st h = (q_M_stack S f 11 L (.int (hz_n 4096) :: st) h) := by rw [q_M_stack, hz_w_at d_M_stack_8]; rfl
theorem d_M_stack_11 : decode c_M_stack 11 = .ok (.iload_n 1, 1) := by decide +kernel
theorem e_M_stack_11 {a0 a2 a3 : Option Value} : q_M_stack S (f + 1) 11 [a0, some (.int x), a2, a3] st h = (q_M_stack S f 12 [a0, some (.int x), a2, a3] (.int x :: st) h) := by rw [q_M_stack, hz_w_at d_M_stack_11]; rfl
theorem d_M_stack_12 : decode c_M_stack 12 = .ok (.imul, 1) := by decide +kernel
theorem e_M_stack_12 : q_M_stack S (f + 1) 12 L (.int y :: .int x :: st) h = (q_M_stack S f 13 L (.int (x * y) :: st) h) := by rw [q_M_stack, hz_w_at d_M_stack_12]; rfl
theorem d_M_stack_13 : decode c_M_stack 13 = .ok (.iload_n 2, 1) := by decide +kernel
theorem e_M_stack_13 {a0 a1 a3 : Option Value} : q_M_stack S (f + 1) 13 [a0, a1, some (.int x), a3] st h = (q_M_stack S f 14 [a0, a1, some (.int x), a3] (.int x :: st) h) := by rw [q_M_stack, hz_w_at d_M_stack_13]; rfl
theorem d_M_stack_14 : decode c_M_stack 14 = .ok (.iadd, 1) := by decide +kernel
theorem e_M_stack_14 : q_M_stack S (f + 1) 14 L (.int y :: .int x :: st) h = (q_M_stack S f 15 L (.int (x + y) :: st) h) := by rw [q_M_stack, hz_w_at d_M_stack_14]; rfl
theorem d_M_stack_15 : decode c_M_stack 15 = .ok (.iastore, 1) := by decide +kernel
theorem e_M_stack_15 : q_M_stack S (f + 1) 15 L (.int y :: .int x :: .ref i :: st) h = (hz_es zKT hz_kI h i x (.int y) fun h => q_M_stack S f 16 L st h) := by rw [q_M_stack, hz_w_at d_M_stack_15]; rfl
theorem d_M_stack_16 : decode c_M_stack 16 = .ok (.aload_n 0, 1) := by decide +kernel
theorem e_M_stack_16 {a1 a2 a3 : Option Value} : q_M_stack S (f + 1) 16 [some (.ref i), a1, a2, a3] st h = (q_M_stack S f 17 [some (.ref i), a1, a2, a3] (.ref i :: st) h) := by rw [q_M_stack, hz_w_at d_M_stack_16]; rfl
theorem e_M_stack_16n {a1 a2 a3 : Option Value} : q_M_stack S (f + 1) 16 [some .null, a1, a2, a3] st h = (q_M_stack S f 17 [some .null, a1, a2, a3] (.null :: st) h) := by rw [q_M_stack, hz_w_at d_M_stack_16]; rfl
theorem d_M_stack_17 : decode c_M_stack 17 = .ok (.getfield 77, 3) := by decide +kernel
theorem e_M_stack_17 : q_M_stack S (f + 1) 17 L (.ref i :: st) h = (hz_rd h i 5 31 fun v => q_M_stack S f 20 L (v :: st) h) := by rw [q_M_stack, hz_w_at d_M_stack_17]; rfl
theorem d_M_stack_20 : decode c_M_stack 20 = .ok (.aload_n 0, 1) := by decide +kernel
theorem e_M_stack_20 {a1 a2 a3 : Option Value} : q_M_stack S (f + 1) 20 [some (.ref i), a1, a2, a3] st h = (q_M_stack S f 21 [some (.ref i), a1, a2, a3] (.ref i :: st) h) := by rw [q_M_stack, hz_w_at d_M_stack_20]; rfl
theorem e_M_stack_20n {a1 a2 a3 : Option Value} : q_M_stack S (f + 1) 20 [some .null, a1, a2, a3] st h = (q_M_stack S f 21 [some .null, a1, a2, a3] (.null :: st) h) := by rw [q_M_stack, hz_w_at d_M_stack_20]; rfl
theorem d_M_stack_21 : decode c_M_stack 21 = .ok (.getfield 156, 3) := by decide +kernel
theorem e_M_stack_21 : q_M_stack S (f + 1) 21 L (.ref i :: st) h = (hz_rd h i 5 29 fun v => q_M_stack S f 24 L (v :: st) h) := by rw [q_M_stack, hz_w_at d_M_stack_21]; rfl
theorem d_M_stack_24 : decode c_M_stack 24 = .ok (.iload_n 3, 1) := by decide +kernel
theorem e_M_stack_24 {a0 a1 a2 : Option Value} : q_M_stack S (f + 1) 24 [a0, a1, a2, some (.int x)] st h = (q_M_stack S f 25 [a0, a1, a2, some (.int x)] (.int x :: st) h) := by rw [q_M_stack, hz_w_at d_M_stack_24]; rfl
theorem d_M_stack_25 : decode c_M_stack 25 = .ok (.iastore, 1) := by decide +kernel
theorem e_M_stack_25 : q_M_stack S (f + 1) 25 L (.int y :: .int x :: .ref i :: st) h = (hz_es zKT hz_kI h i x (.int y) fun h => q_M_stack S f 26 L st h) := by rw [q_M_stack, hz_w_at d_M_stack_25]; rfl
theorem d_M_stack_26 : decode c_M_stack 26 = .ok (.aload_n 0, 1) := by decide +kernel
theorem e_M_stack_26 {a1 a2 a3 : Option Value} : q_M_stack S (f + 1) 26 [some (.ref i), a1, a2, a3] st h = (q_M_stack S f 27 [some (.ref i), a1, a2, a3] (.ref i :: st) h) := by rw [q_M_stack, hz_w_at d_M_stack_26]; rfl
theorem e_M_stack_26n {a1 a2 a3 : Option Value} : q_M_stack S (f + 1) 26 [some .null, a1, a2, a3] st h = (q_M_stack S f 27 [some .null, a1, a2, a3] (.null :: st) h) := by rw [q_M_stack, hz_w_at d_M_stack_26]; rfl
theorem d_M_stack_27 : decode c_M_stack 27 = .ok (.dup, 1) := by decide +kernel
theorem e_M_stack_27 : q_M_stack S (f + 1) 27 L (.ref i :: st) h = (q_M_stack S f 28 L (.ref i :: .ref i :: st) h) := by rw [q_M_stack, hz_w_at d_M_stack_27]; rfl
theorem e_M_stack_27i : q_M_stack S (f + 1) 27 L (.int x :: st) h = (q_M_stack S f 28 L (.int x :: .int x :: st) h) := by rw [q_M_stack, hz_w_at d_M_stack_27]; rfl
theorem d_M_stack_28 : decode c_M_stack 28 = .ok (.getfield 156, 3) := by decide +kernel
theorem e_M_stack_28 : q_M_stack S (f + 1) 28 L (.ref i :: st) h = (hz_rd h i 5 29 fun v => q_M_stack S f 31 L (v :: st) h) := by rw [q_M_stack, hz_w_at d_M_stack_28]; rfl
theorem d_M_stack_31 : decode c_M_stack 31 = .ok (.iconst 1, 1) := by decide +kernel
theorem e_M_stack_31 : q_M_stack S (f + 1) 31 L st h = (q_M_stack S f 32 L (.int (hz_n 1) :: st) h) := by rw [q_M_stack, hz_w_at d_M_stack_31]; rfl
theorem d_M_stack_32 : decode c_M_stack 32 = .ok (.iadd, 1) := by decide +kernel
theorem e_M_stack_32 : q_M_stack S (f + 1) 32 L (.int y :: .int x :: st) h = (q_M_stack S f 33 L (.int (x + y) :: st) h) := by rw [q_M_stack, hz_w_at d_M_stack_32]; rfl
theorem d_M_stack_33 : decode c_M_stack 33 = .ok (.putfield 156, 3) := by decide +kernel
theorem e_M_stack_33 : q_M_stack S (f + 1) 33 L (.int x :: .ref i :: st) h = (hz_wr h i 5 29 (.int x) fun h => q_M_stack S f 36 L st h) := by rw [q_M_stack, hz_w_at d_M_stack_33]; rfl
theorem d_M_stack_36 : decode c_M_stack 36 = .ok (.return_, 1) := by decide +kernel
theorem e_M_stack_36 : q_M_stack S (f + 1) 36 L st h = (S 36 L st h) := by rw [q_M_stack, hz_w_at d_M_stack_36]; rfl
end
