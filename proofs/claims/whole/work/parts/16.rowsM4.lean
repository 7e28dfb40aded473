/-! Rows of LazyGraphsModel: instructions, and what each asks of the state behind it. Printed by wip/genparts.py. -/
abbrev q_M_rekon (S : Nat → List (Option Value) → List Value → hz_H → Prop) := hz_w zCl zKT f_M n_M c_M_rekon [] S
section
variable {S : Nat → List (Option Value) → List Value → hz_H → Prop} {f : Nat} {L : List (Option Value)} {st : List Value} {h : hz_H} {x y : Int32} {i j : Nat} {X Y : Int64}
theorem d_M_rekon_0 : decode c_M_rekon 0 = .ok (.iload_n 1, 1) := by decide +kernel
theorem e_M_rekon_0 {a0 a2 a3 : Option Value} : q_M_rekon S (f + 1) 0 [a0, some (.int x), a2, a3] st h = (q_M_rekon S f 1 [a0, some (.int x), a2, a3] (.int x :: st) h) := by rw [q_M_rekon, hz_w_at d_M_rekon_0]; rfl
theorem d_M_rekon_1 : decode c_M_rekon 1 = .ok (.lookupswitch 66 #[(42, 51), (43, 43), (45, 47), (60, 55)], 43) := by decide +kernel
theorem e_M_rekon_1 : q_M_rekon S (f + 1) 1 L (.int x :: st) h = ((x.toInt = 42 → q_M_rekon S f 52 L st h) ∧ (¬ x.toInt = 42 → (x.toInt = 43 → q_M_rekon S f 44 L st h) ∧ (¬ x.toInt = 43 → (x.toInt = 45 → q_M_rekon S f 48 L st h) ∧ (¬ x.toInt = 45 → (x.toInt = 60 → q_M_rekon S f 56 L st h) ∧ (¬ x.toInt = 60 → q_M_rekon S f 67 L st h))))) := by rw [q_M_rekon, hz_w_at d_M_rekon_1]; rfl
theorem d_M_rekon_44 : decode c_M_rekon 44 = .ok (.iload_n 2, 1) := by decide +kernel
theorem e_M_rekon_44 {a0 a1 a3 : Option Value} : q_M_rekon S (f + 1) 44 [a0, a1, some (.int x), a3] st h = (q_M_rekon S f 45 [a0, a1, some (.int x), a3] (.int x :: st) h) := by rw [q_M_rekon, hz_w_at d_M_rekon_44]; rfl
theorem d_M_rekon_45 : decode c_M_rekon 45 = .ok (.iload_n 3, 1) := by decide +kernel
theorem e_M_rekon_45 {a0 a1 a2 : Option Value} : q_M_rekon S (f + 1) 45 [a0, a1, a2, some (.int x)] st h = (q_M_rekon S f 46 [a0, a1, a2, some (.int x)] (.int x :: st) h) := by rw [q_M_rekon, hz_w_at d_M_rekon_45]; rfl
theorem d_M_rekon_46 : decode c_M_rekon 46 = .ok (.iadd, 1) := by decide +kernel
theorem e_M_rekon_46 : q_M_rekon S (f + 1) 46 L (.int y :: .int x :: st) h = (q_M_rekon S f 47 L (.int (x + y) :: st) h) := by rw [q_M_rekon, hz_w_at d_M_rekon_46]; rfl
theorem d_M_rekon_47 : decode c_M_rekon 47 = .ok (.ireturn, 1) := by decide +kernel
theorem e_M_rekon_47 : q_M_rekon S (f + 1) 47 L st h = (S 47 L st h) := by rw [q_M_rekon, hz_w_at d_M_rekon_47]; rfl
theorem d_M_rekon_48 : decode c_M_rekon 48 = .ok (.iload_n 2, 1) := by decide +kernel
theorem e_M_rekon_48 {a0 a1 a3 : Option Value} : q_M_rekon S (f + 1) 48 [a0, a1, some (.int x), a3] st h = (q_M_rekon S f 49 [a0, a1, some (.int x), a3] (.int x :: st) h) := by rw [q_M_rekon, hz_w_at d_M_rekon_48]; rfl
theorem d_M_rekon_49 : decode c_M_rekon 49 = .ok (.iload_n 3, 1) := by decide +kernel
theorem e_M_rekon_49 {a0 a1 a2 : Option Value} : q_M_rekon S (f + 1) 49 [a0, a1, a2, some (.int x)] st h = (q_M_rekon S f 50 [a0, a1, a2, some (.int x)] (.int x :: st) h) := by rw [q_M_rekon, hz_w_at d_M_rekon_49]; rfl
theorem d_M_rekon_50 : decode c_M_rekon 50 = .ok (.isub, 1) := by decide +kernel
theorem e_M_rekon_50 : q_M_rekon S (f + 1) 50 L (.int y :: .int x :: st) h = (q_M_rekon S f 51 L (.int (x - y) :: st) h) := by rw [q_M_rekon, hz_w_at d_M_rekon_50]; rfl
theorem d_M_rekon_51 : decode c_M_rekon 51 = .ok (.ireturn, 1) := by decide +kernel
theorem e_M_rekon_51 : q_M_rekon S (f + 1) 51 L st h = (S 51 L st h) := by rw [q_M_rekon, hz_w_at d_M_rekon_51]; rfl
theorem d_M_rekon_52 : decode c_M_rekon 52 = .ok (.iload_n 2, 1) := by decide +kernel
theorem e_M_rekon_52 {a0 a1 a3 : Option Value} : q_M_rekon S (f + 1) 52 [a0, a1, some (.int x), a3] st h = (q_M_rekon S f 53 [a0, a1, some (.int x), a3] (.int x :: st) h) := by rw [q_M_rekon, hz_w_at d_M_rekon_52]; rfl
theorem d_M_rekon_53 : decode c_M_rekon 53 = .ok (.iload_n 3, 1) := by decide +kernel
theorem e_M_rekon_53 {a0 a1 a2 : Option Value} : q_M_rekon S (f + 1) 53 [a0, a1, a2, some (.int x)] st h = (q_M_rekon S f 54 [a0, a1, a2, some (.int x)] (.int x :: st) h) := by rw [q_M_rekon, hz_w_at d_M_rekon_53]; rfl
theorem d_M_rekon_54 : decode c_M_rekon 54 = .ok (.imul, 1) := by decide +kernel
theorem e_M_rekon_54 : q_M_rekon S (f + 1) 54 L (.int y :: .int x :: st) h = (q_M_rekon S f 55 L (.int (x * y) :: st) h) := by rw [q_M_rekon, hz_w_at d_M_rekon_54]; rfl
theorem d_M_rekon_55 : decode c_M_rekon 55 = .ok (.ireturn, 1) := by decide +kernel
theorem e_M_rekon_55 : q_M_rekon S (f + 1) 55 L st h = (S 55 L st h) := by rw [q_M_rekon, hz_w_at d_M_rekon_55]; rfl
theorem d_M_rekon_56 : decode c_M_rekon 56 = .ok (.iload_n 2, 1) := by decide +kernel
theorem e_M_rekon_56 {a0 a1 a3 : Option Value} : q_M_rekon S (f + 1) 56 [a0, a1, some (.int x), a3] st h = (q_M_rekon S f 57 [a0, a1, some (.int x), a3] (.int x :: st) h) := by rw [q_M_rekon, hz_w_at d_M_rekon_56]; rfl
theorem d_M_rekon_57 : decode c_M_rekon 57 = .ok (.iload_n 3, 1) := by decide +kernel
theorem e_M_rekon_57 {a0 a1 a2 : Option Value} : q_M_rekon S (f + 1) 57 [a0, a1, a2, some (.int x)] st h = (q_M_rekon S f 58 [a0, a1, a2, some (.int x)] (.int x :: st) h) := by rw [q_M_rekon, hz_w_at d_M_rekon_57]; rfl
theorem d_M_rekon_58 : decode c_M_rekon 58 = .ok (.if_icmp .ge 7, 3) := by decide +kernel
theorem e_M_rekon_58 : q_M_rekon S (f + 1) 58 L (.int y :: .int x :: st) h = ((y.toInt ≤ x.toInt → q_M_rekon S f 65 L st h) ∧ (¬ (y.toInt ≤ x.toInt) → q_M_rekon S f 61 L st h)) := by rw [q_M_rekon, hz_w_at d_M_rekon_58]; rfl
theorem d_M_rekon_61 : decode c_M_rekon 61 = .ok (.iconst 1, 1) := by decide +kernel
theorem e_M_rekon_61 : q_M_rekon S (f + 1) 61 L st h = (q_M_rekon S f 62 L (.int (hz_n 1) :: st) h) := by rw [q_M_rekon, hz_w_at d_M_rekon_61]; rfl
theorem d_M_rekon_62 : decode c_M_rekon 62 = .ok (.goto 4, 3) := by decide +kernel
theorem e_M_rekon_62 : q_M_rekon S (f + 1) 62 L st h = (q_M_rekon S f 66 L st h) := by rw [q_M_rekon, hz_w_at d_M_rekon_62]; rfl
theorem d_M_rekon_65 : decode c_M_rekon 65 = .ok (.iconst 0, 1) := by decide +kernel
theorem e_M_rekon_65 : q_M_rekon S (f + 1) 65 L st h = (q_M_rekon S f 66 L (.int (hz_n 0) :: st) h) := by rw [q_M_rekon, hz_w_at d_M_rekon_65]; rfl
theorem d_M_rekon_66 : decode c_M_rekon 66 = .ok (.ireturn, 1) := by decide +kernel
theorem e_M_rekon_66 : q_M_rekon S (f + 1) 66 L st h = (S 66 L st h) := by rw [q_M_rekon, hz_w_at d_M_rekon_66]; rfl
theorem d_M_rekon_67 : decode c_M_rekon 67 = .ok (.iload_n 2, 1) := by decide +kernel
theorem e_M_rekon_67 {a0 a1 a3 : Option Value} : q_M_rekon S (f + 1) 67 [a0, a1, some (.int x), a3] st h = (q_M_rekon S f 68 [a0, a1, some (.int x), a3] (.int x :: st) h) := by rw [q_M_rekon, hz_w_at d_M_rekon_67]; rfl
theorem d_M_rekon_68 : decode c_M_rekon 68 = .ok (.iload_n 3, 1) := by decide +kernel
theorem e_M_rekon_68 {a0 a1 a2 : Option Value} : q_M_rekon S (f + 1) 68 [a0, a1, a2, some (.int x)] st h = (q_M_rekon S f 69 [a0, a1, a2, some (.int x)] (.int x :: st) h) := by rw [q_M_rekon, hz_w_at d_M_rekon_68]; rfl
theorem d_M_rekon_69 : decode c_M_rekon 69 = .ok (.if_icmp .ne 7, 3) := by decide +kernel
theorem e_M_rekon_69 : q_M_rekon S (f + 1) 69 L (.int y :: .int x :: st) h = ((¬ x.toInt = y.toInt → q_M_rekon S f 76 L st h) ∧ (¬ (¬ x.toInt = y.toInt) → q_M_rekon S f 72 L st h)) := by rw [q_M_rekon, hz_w_at d_M_rekon_69]; rfl
theorem d_M_rekon_72 : decode c_M_rekon 72 = .ok (.iconst 1, 1) := by decide +kernel
theorem e_M_rekon_72 : q_M_rekon S (f + 1) 72 L st h = (q_M_rekon S f 73 L (.int (hz_n 1) :: st) h) := by rw [q_M_rekon, hz_w_at d_M_rekon_72]; rfl
theorem d_M_rekon_73 : decode c_M_rekon 73 = .ok (.goto 4, 3) := by decide +kernel
theorem e_M_rekon_73 : q_M_rekon S (f + 1) 73 L st h = (q_M_rekon S f 77 L st h) := by rw [q_M_rekon, hz_w_at d_M_rekon_73]; rfl
theorem d_M_rekon_76 : decode c_M_rekon 76 = .ok (.iconst 0, 1) := by decide +kernel
theorem e_M_rekon_76 : q_M_rekon S (f + 1) 76 L st h = (q_M_rekon S f 77 L (.int (hz_n 0) :: st) h) := by rw [q_M_rekon, hz_w_at d_M_rekon_76]; rfl
theorem d_M_rekon_77 : decode c_M_rekon 77 = .ok (.ireturn, 1) := by decide +kernel
theorem e_M_rekon_77 : q_M_rekon S (f + 1) 77 L st h = (S 77 L st h) := by rw [q_M_rekon, hz_w_at d_M_rekon_77]; rfl
end
abbrev q_M_counted (S : Nat → List (Option Value) → List Value → hz_H → Prop) := hz_w zCl zKT f_M n_M c_M_counted [] S
section
variable {S : Nat → List (Option Value) → List Value → hz_H → Prop} {f : Nat} {L : List (Option Value)} {st : List Value} {h : hz_H} {x y : Int32} {i j : Nat} {X Y : Int64}
theorem d_M_counted_0 : decode c_M_counted 0 = .ok (.aload_n 0, 1) := by decide +kernel
theorem e_M_counted_0 {a1 a2 a3 : Option Value} : q_M_counted S (f + 1) 0 [some (.ref i), a1, a2, a3] st h = (q_M_counted S f 1 [some (.ref i), a1, a2, a3] (.ref i :: st) h) := by rw [q_M_counted, hz_w_at d_M_counted_0]; rfl
theorem e_M_counted_0n {a1 a2 a3 : Option Value} : q_M_counted S (f + 1) 0 [some .null, a1, a2, a3] st h = (q_M_counted S f 1 [some .null, a1, a2, a3] (.null :: st) h) := by rw [q_M_counted, hz_w_at d_M_counted_0]; rfl
theorem d_M_counted_1 : decode c_M_counted 1 = .ok (.getfield 165, 3) := by decide +kernel
theorem e_M_counted_1 : q_M_counted S (f + 1) 1 L (.ref i :: st) h = (hz_rd h i 5 37 fun v => q_M_counted S f 4 L (v :: st) h) := by rw [q_M_counted, hz_w_at d_M_counted_1]; rfl
theorem d_M_counted_4 : decode c_M_counted 4 = .ok (.ifCond .eq 12, 3) := by decide +kernel
theorem e_M_counted_4 : q_M_counted S (f + 1) 4 L (.int x :: st) h = ((x.toInt = 0 → q_M_counted S f 16 L st h) ∧ (¬ (x.toInt = 0) → q_M_counted S f 7 L st h)) := by rw [q_M_counted, hz_w_at d_M_counted_4]; rfl
theorem d_M_counted_7 : decode c_M_counted 7 = .ok (.aload_n 0, 1) := by decide +kernel
theorem e_M_counted_7 {a1 a2 a3 : Option Value} : q_M_counted S (f + 1) 7 [some (.ref i), a1, a2, a3] st h = (q_M_counted S f 8 [some (.ref i), a1, a2, a3] (.ref i :: st) h) := by rw [q_M_counted, hz_w_at d_M_counted_7]; rfl
theorem e_M_counted_7n {a1 a2 a3 : Option Value} : q_M_counted S (f + 1) 7 [some .null, a1, a2, a3] st h = (q_M_counted S f 8 [some .null, a1, a2, a3] (.null :: st) h) := by rw [q_M_counted, hz_w_at d_M_counted_7]; rfl
theorem d_M_counted_8 : decode c_M_counted 8 = .ok (.bipush (-3), 2) := by decide +kernel
theorem e_M_counted_8 : q_M_counted S (f + 1) 8 L st h = (q_M_counted S f 10 L (.int (hz_n (-3)) :: st) h) := by rw [q_M_counted, hz_w_at d_M_counted_8]; rfl
theorem d_M_counted_10 : decode c_M_counted 10 = .ok (.putfield 177, 3) := by decide +kernel
theorem e_M_counted_10 : q_M_counted S (f + 1) 10 L (.int x :: .ref i :: st) h = (hz_wr h i 5 34 (.int x) fun h => q_M_counted S f 13 L st h) := by rw [q_M_counted, hz_w_at d_M_counted_10]; rfl
theorem d_M_counted_13 : decode c_M_counted 13 = .ok (.goto 82, 3) := by decide +kernel
theorem e_M_counted_13 : q_M_counted S (f + 1) 13 L st h = (q_M_counted S f 95 L st h) := by rw [q_M_counted, hz_w_at d_M_counted_13]; rfl
theorem d_M_counted_16 : decode c_M_counted 16 = .ok (.iload_n 1, 1) := by decide +kernel
theorem e_M_counted_16 {a0 a2 a3 : Option Value} : q_M_counted S (f + 1) 16 [a0, some (.int x), a2, a3] st h = (q_M_counted S f 17 [a0, some (.int x), a2, a3] (.int x :: st) h) := by rw [q_M_counted, hz_w_at d_M_counted_16]; rfl
theorem d_M_counted_17 : decode c_M_counted 17 = .ok (.iconst 5, 1) := by decide +kernel
theorem e_M_counted_17 : q_M_counted S (f + 1) 17 L st h = (q_M_counted S f 18 L (.int (hz_n 5) :: st) h) := by rw [q_M_counted, hz_w_at d_M_counted_17]; rfl
theorem d_M_counted_18 : decode c_M_counted 18 = .ok (.if_icmp .ne 28, 3) := by decide +kernel
theorem e_M_counted_18 : q_M_counted S (f + 1) 18 L (.int y :: .int x :: st) h = ((¬ x.toInt = y.toInt → q_M_counted S f 46 L st h) ∧ (¬ (¬ x.toInt = y.toInt) → q_M_counted S f 21 L st h)) := by rw [q_M_counted, hz_w_at d_M_counted_18]; rfl
theorem d_M_counted_21 : decode c_M_counted 21 = .ok (.aload_n 0, 1) := by decide +kernel
theorem e_M_counted_21 {a1 a2 a3 : Option Value} : q_M_counted S (f + 1) 21 [some (.ref i), a1, a2, a3] st h = (q_M_counted S f 22 [some (.ref i), a1, a2, a3] (.ref i :: st) h) := by rw [q_M_counted, hz_w_at d_M_counted_21]; rfl
theorem e_M_counted_21n {a1 a2 a3 : Option Value} : q_M_counted S (f + 1) 21 [some .null, a1, a2, a3] st h = (q_M_counted S f 22 [some .null, a1, a2, a3] (.null :: st) h) := by rw [q_M_counted, hz_w_at d_M_counted_21]; rfl
theorem d_M_counted_22 : decode c_M_counted 22 = .ok (.aload_n 0, 1) := by decide +kernel
theorem e_M_counted_22 {a1 a2 a3 : Option Value} : q_M_counted S (f + 1) 22 [some (.ref i), a1, a2, a3] st h = (q_M_counted S f 23 [some (.ref i), a1, a2, a3] (.ref i :: st) h) := by rw [q_M_counted, hz_w_at d_M_counted_22]; rfl
theorem e_M_counted_22n {a1 a2 a3 : Option Value} : q_M_counted S (f + 1) 22 [some .null, a1, a2, a3] st h = (q_M_counted S f 23 [some .null, a1, a2, a3] (.null :: st) h) := by rw [q_M_counted, hz_w_at d_M_counted_22]; rfl
theorem d_M_counted_23 : decode c_M_counted 23 = .ok (.iload_n 2, 1) := by decide +kernel
theorem e_M_counted_23 {a0 a1 a3 : Option Value} : q_M_counted S (f + 1) 23 [a0, a1, some (.int x), a3] st h = (q_M_counted S f 24 [a0, a1, some (.int x), a3] (.int x :: st) h) := by rw [q_M_counted, hz_w_at d_M_counted_23]; rfl
theorem d_M_counted_24 : decode c_M_counted 24 = .ok (.aload_n 0, 1) := by decide +kernel
theorem e_M_counted_24 {a1 a2 a3 : Option Value} : q_M_counted S (f + 1) 24 [some (.ref i), a1, a2, a3] st h = (q_M_counted S f 25 [some (.ref i), a1, a2, a3] (.ref i :: st) h) := by rw [q_M_counted, hz_w_at d_M_counted_24]; rfl
theorem e_M_counted_24n {a1 a2 a3 : Option Value} : q_M_counted S (f + 1) 24 [some .null, a1, a2, a3] st h = (q_M_counted S f 25 [some .null, a1, a2, a3] (.null :: st) h) := by rw [q_M_counted, hz_w_at d_M_counted_24]; rfl
theorem d_M_counted_25 : decode c_M_counted 25 = .ok (.getfield 168, 3) := by decide +kernel
theorem e_M_counted_25 : q_M_counted S (f + 1) 25 L (.ref i :: st) h = (hz_rd h i 5 38 fun v => q_M_counted S f 28 L (v :: st) h) := by rw [q_M_counted, hz_w_at d_M_counted_25]; rfl
theorem d_M_counted_28 : decode c_M_counted 28 = .ok (.ifCond .eq 7, 3) := by decide +kernel
theorem e_M_counted_28 : q_M_counted S (f + 1) 28 L (.int x :: st) h = ((x.toInt = 0 → q_M_counted S f 35 L st h) ∧ (¬ (x.toInt = 0) → q_M_counted S f 31 L st h)) := by rw [q_M_counted, hz_w_at d_M_counted_28]; rfl
theorem d_M_counted_31 : decode c_M_counted 31 = .ok (.iconst 1, 1) := by decide +kernel
theorem e_M_counted_31 : q_M_counted S (f + 1) 31 L st h = (q_M_counted S f 32 L (.int (hz_n 1) :: st) h) := by rw [q_M_counted, hz_w_at d_M_counted_31]; rfl
theorem d_M_counted_32 : decode c_M_counted 32 = .ok (.goto 4, 3) := by decide +kernel
theorem e_M_counted_32 : q_M_counted S (f + 1) 32 L st h = (q_M_counted S f 36 L st h) := by rw [q_M_counted, hz_w_at d_M_counted_32]; rfl
theorem d_M_counted_35 : decode c_M_counted 35 = .ok (.iconst 2, 1) := by decide +kernel
theorem e_M_counted_35 : q_M_counted S (f + 1) 35 L st h = (q_M_counted S f 36 L (.int (hz_n 2) :: st) h) := by rw [q_M_counted, hz_w_at d_M_counted_35]; rfl
theorem d_M_counted_36 : decode c_M_counted 36 = .ok (.invokevirtual 126, 3) := by decide +kernel
theorem e_M_counted_36 : q_M_counted S (f + 1) 36 L st h = (S 36 L st h) := by rw [q_M_counted, hz_w_at d_M_counted_36]; rfl
theorem d_M_counted_39 : decode c_M_counted 39 = .ok (.iload_n 3, 1) := by decide +kernel
theorem e_M_counted_39 {a0 a1 a2 : Option Value} : q_M_counted S (f + 1) 39 [a0, a1, a2, some (.int x)] st h = (q_M_counted S f 40 [a0, a1, a2, some (.int x)] (.int x :: st) h) := by rw [q_M_counted, hz_w_at d_M_counted_39]; rfl
theorem d_M_counted_40 : decode c_M_counted 40 = .ok (.invokevirtual 180, 3) := by decide +kernel
theorem e_M_counted_40 : q_M_counted S (f + 1) 40 L st h = (S 40 L st h) := by rw [q_M_counted, hz_w_at d_M_counted_40]; rfl
theorem d_M_counted_43 : decode c_M_counted 43 = .ok (.goto 52, 3) := by decide +kernel
theorem e_M_counted_43 : q_M_counted S (f + 1) 43 L st h = (q_M_counted S f 95 L st h) := by rw [q_M_counted, hz_w_at d_M_counted_43]; rfl
theorem d_M_counted_46 : decode c_M_counted 46 = .ok (.iload_n 1, 1) := by decide +kernel
theorem e_M_counted_46 {a0 a2 a3 : Option Value} : q_M_counted S (f + 1) 46 [a0, some (.int x), a2, a3] st h = (q_M_counted S f 47 [a0, some (.int x), a2, a3] (.int x :: st) h) := by rw [q_M_counted, hz_w_at d_M_counted_46]; rfl
theorem d_M_counted_47 : decode c_M_counted 47 = .ok (.iconst 3, 1) := by decide +kernel
theorem e_M_counted_47 : q_M_counted S (f + 1) 47 L st h = (q_M_counted S f 48 L (.int (hz_n 3) :: st) h) := by rw [q_M_counted, hz_w_at d_M_counted_47]; rfl
theorem d_M_counted_48 : decode c_M_counted 48 = .ok (.if_icmp .ne 27, 3) := by decide +kernel
theorem e_M_counted_48 : q_M_counted S (f + 1) 48 L (.int y :: .int x :: st) h = ((¬ x.toInt = y.toInt → q_M_counted S f 75 L st h) ∧ (¬ (¬ x.toInt = y.toInt) → q_M_counted S f 51 L st h)) := by rw [q_M_counted, hz_w_at d_M_counted_48]; rfl
theorem d_M_counted_51 : decode c_M_counted 51 = .ok (.aload_n 0, 1) := by decide +kernel
theorem e_M_counted_51 {a1 a2 a3 : Option Value} : q_M_counted S (f + 1) 51 [some (.ref i), a1, a2, a3] st h = (q_M_counted S f 52 [some (.ref i), a1, a2, a3] (.ref i :: st) h) := by rw [q_M_counted, hz_w_at d_M_counted_51]; rfl
theorem e_M_counted_51n {a1 a2 a3 : Option Value} : q_M_counted S (f + 1) 51 [some .null, a1, a2, a3] st h = (q_M_counted S f 52 [some .null, a1, a2, a3] (.null :: st) h) := by rw [q_M_counted, hz_w_at d_M_counted_51]; rfl
theorem d_M_counted_52 : decode c_M_counted 52 = .ok (.iconst 4, 1) := by decide +kernel
theorem e_M_counted_52 : q_M_counted S (f + 1) 52 L st h = (q_M_counted S f 53 L (.int (hz_n 4) :: st) h) := by rw [q_M_counted, hz_w_at d_M_counted_52]; rfl
theorem d_M_counted_53 : decode c_M_counted 53 = .ok (.iload_n 2, 1) := by decide +kernel
theorem e_M_counted_53 {a0 a1 a3 : Option Value} : q_M_counted S (f + 1) 53 [a0, a1, some (.int x), a3] st h = (q_M_counted S f 54 [a0, a1, some (.int x), a3] (.int x :: st) h) := by rw [q_M_counted, hz_w_at d_M_counted_53]; rfl
theorem d_M_counted_54 : decode c_M_counted 54 = .ok (.aload_n 0, 1) := by decide +kernel
theorem e_M_counted_54 {a1 a2 a3 : Option Value} : q_M_counted S (f + 1) 54 [some (.ref i), a1, a2, a3] st h = (q_M_counted S f 55 [some (.ref i), a1, a2, a3] (.ref i :: st) h) := by rw [q_M_counted, hz_w_at d_M_counted_54]; rfl
theorem e_M_counted_54n {a1 a2 a3 : Option Value} : q_M_counted S (f + 1) 54 [some .null, a1, a2, a3] st h = (q_M_counted S f 55 [some .null, a1, a2, a3] (.null :: st) h) := by rw [q_M_counted, hz_w_at d_M_counted_54]; rfl
theorem d_M_counted_55 : decode c_M_counted 55 = .ok (.getfield 168, 3) := by decide +kernel
theorem e_M_counted_55 : q_M_counted S (f + 1) 55 L (.ref i :: st) h = (hz_rd h i 5 38 fun v => q_M_counted S f 58 L (v :: st) h) := by rw [q_M_counted, hz_w_at d_M_counted_55]; rfl
theorem d_M_counted_58 : decode c_M_counted 58 = .ok (.invokevirtual 190, 3) := by decide +kernel
theorem e_M_counted_58 : q_M_counted S (f + 1) 58 L st h = (S 58 L st h) := by rw [q_M_counted, hz_w_at d_M_counted_58]; rfl
theorem d_M_counted_61 : decode c_M_counted 61 = .ok (.aload_n 0, 1) := by decide +kernel
theorem e_M_counted_61 {a1 a2 a3 : Option Value} : q_M_counted S (f + 1) 61 [some (.ref i), a1, a2, a3] st h = (q_M_counted S f 62 [some (.ref i), a1, a2, a3] (.ref i :: st) h) := by rw [q_M_counted, hz_w_at d_M_counted_61]; rfl
theorem e_M_counted_61n {a1 a2 a3 : Option Value} : q_M_counted S (f + 1) 61 [some .null, a1, a2, a3] st h = (q_M_counted S f 62 [some .null, a1, a2, a3] (.null :: st) h) := by rw [q_M_counted, hz_w_at d_M_counted_61]; rfl
theorem d_M_counted_62 : decode c_M_counted 62 = .ok (.aload_n 0, 1) := by decide +kernel
theorem e_M_counted_62 {a1 a2 a3 : Option Value} : q_M_counted S (f + 1) 62 [some (.ref i), a1, a2, a3] st h = (q_M_counted S f 63 [some (.ref i), a1, a2, a3] (.ref i :: st) h) := by rw [q_M_counted, hz_w_at d_M_counted_62]; rfl
theorem e_M_counted_62n {a1 a2 a3 : Option Value} : q_M_counted S (f + 1) 62 [some .null, a1, a2, a3] st h = (q_M_counted S f 63 [some .null, a1, a2, a3] (.null :: st) h) := by rw [q_M_counted, hz_w_at d_M_counted_62]; rfl
theorem d_M_counted_63 : decode c_M_counted 63 = .ok (.iload_n 2, 1) := by decide +kernel
theorem e_M_counted_63 {a0 a1 a3 : Option Value} : q_M_counted S (f + 1) 63 [a0, a1, some (.int x), a3] st h = (q_M_counted S f 64 [a0, a1, some (.int x), a3] (.int x :: st) h) := by rw [q_M_counted, hz_w_at d_M_counted_63]; rfl
theorem d_M_counted_64 : decode c_M_counted 64 = .ok (.iconst 1, 1) := by decide +kernel
theorem e_M_counted_64 : q_M_counted S (f + 1) 64 L st h = (q_M_counted S f 65 L (.int (hz_n 1) :: st) h) := by rw [q_M_counted, hz_w_at d_M_counted_64]; rfl
theorem d_M_counted_65 : decode c_M_counted 65 = .ok (.invokevirtual 126, 3) := by decide +kernel
theorem e_M_counted_65 : q_M_counted S (f + 1) 65 L st h = (S 65 L st h) := by rw [q_M_counted, hz_w_at d_M_counted_65]; rfl
theorem d_M_counted_68 : decode c_M_counted 68 = .ok (.iload_n 3, 1) := by decide +kernel
theorem e_M_counted_68 {a0 a1 a2 : Option Value} : q_M_counted S (f + 1) 68 [a0, a1, a2, some (.int x)] st h = (q_M_counted S f 69 [a0, a1, a2, some (.int x)] (.int x :: st) h) := by rw [q_M_counted, hz_w_at d_M_counted_68]; rfl
theorem d_M_counted_69 : decode c_M_counted 69 = .ok (.invokevirtual 180, 3) := by decide +kernel
theorem e_M_counted_69 : q_M_counted S (f + 1) 69 L st h = (S 69 L st h) := by rw [q_M_counted, hz_w_at d_M_counted_69]; rfl
theorem d_M_counted_72 : decode c_M_counted 72 = .ok (.goto 23, 3) := by decide +kernel
theorem e_M_counted_72 : q_M_counted S (f + 1) 72 L st h = (q_M_counted S f 95 L st h) := by rw [q_M_counted, hz_w_at d_M_counted_72]; rfl
theorem d_M_counted_75 : decode c_M_counted 75 = .ok (.aload_n 0, 1) := by decide +kernel
theorem e_M_counted_75 {a1 a2 a3 : Option Value} : q_M_counted S (f + 1) 75 [some (.ref i), a1, a2, a3] st h = (q_M_counted S f 76 [some (.ref i), a1, a2, a3] (.ref i :: st) h) := by rw [q_M_counted, hz_w_at d_M_counted_75]; rfl
theorem e_M_counted_75n {a1 a2 a3 : Option Value} : q_M_counted S (f + 1) 75 [some .null, a1, a2, a3] st h = (q_M_counted S f 76 [some .null, a1, a2, a3] (.null :: st) h) := by rw [q_M_counted, hz_w_at d_M_counted_75]; rfl
theorem d_M_counted_76 : decode c_M_counted 76 = .ok (.iconst 0, 1) := by decide +kernel
theorem e_M_counted_76 : q_M_counted S (f + 1) 76 L st h = (q_M_counted S f 77 L (.int (hz_n 0) :: st) h) := by rw [q_M_counted, hz_w_at d_M_counted_76]; rfl
theorem d_M_counted_77 : decode c_M_counted 77 = .ok (.aload_n 0, 1) := by decide +kernel
theorem e_M_counted_77 {a1 a2 a3 : Option Value} : q_M_counted S (f + 1) 77 [some (.ref i), a1, a2, a3] st h = (q_M_counted S f 78 [some (.ref i), a1, a2, a3] (.ref i :: st) h) := by rw [q_M_counted, hz_w_at d_M_counted_77]; rfl
theorem e_M_counted_77n {a1 a2 a3 : Option Value} : q_M_counted S (f + 1) 77 [some .null, a1, a2, a3] st h = (q_M_counted S f 78 [some .null, a1, a2, a3] (.null :: st) h) := by rw [q_M_counted, hz_w_at d_M_counted_77]; rfl
theorem d_M_counted_78 : decode c_M_counted 78 = .ok (.aload_n 0, 1) := by decide +kernel
theorem e_M_counted_78 {a1 a2 a3 : Option Value} : q_M_counted S (f + 1) 78 [some (.ref i), a1, a2, a3] st h = (q_M_counted S f 79 [some (.ref i), a1, a2, a3] (.ref i :: st) h) := by rw [q_M_counted, hz_w_at d_M_counted_78]; rfl
theorem e_M_counted_78n {a1 a2 a3 : Option Value} : q_M_counted S (f + 1) 78 [some .null, a1, a2, a3] st h = (q_M_counted S f 79 [some .null, a1, a2, a3] (.null :: st) h) := by rw [q_M_counted, hz_w_at d_M_counted_78]; rfl
theorem d_M_counted_79 : decode c_M_counted 79 = .ok (.getfield 29, 3) := by decide +kernel
theorem e_M_counted_79 : q_M_counted S (f + 1) 79 L (.ref i :: st) h = (hz_rd h i 5 9 fun v => q_M_counted S f 82 L (v :: st) h) := by rw [q_M_counted, hz_w_at d_M_counted_79]; rfl
theorem d_M_counted_82 : decode c_M_counted 82 = .ok (.iload_n 2, 1) := by decide +kernel
theorem e_M_counted_82 {a0 a1 a3 : Option Value} : q_M_counted S (f + 1) 82 [a0, a1, some (.int x), a3] st h = (q_M_counted S f 83 [a0, a1, some (.int x), a3] (.int x :: st) h) := by rw [q_M_counted, hz_w_at d_M_counted_82]; rfl
theorem d_M_counted_83 : decode c_M_counted 83 = .ok (.iaload, 1) := by decide +kernel
theorem e_M_counted_83 : q_M_counted S (f + 1) 83 L (.int x :: .ref i :: st) h = (hz_ea zKT hz_kI h i x fun v => q_M_counted S f 84 L (v :: st) h) := by rw [q_M_counted, hz_w_at d_M_counted_83]; rfl
theorem d_M_counted_84 : decode c_M_counted 84 = .ok (.iload_n 3, 1) := by decide +kernel
theorem e_M_counted_84 {a0 a1 a2 : Option Value} : q_M_counted S (f + 1) 84 [a0, a1, a2, some (.int x)] st h = (q_M_counted S f 85 [a0, a1, a2, some (.int x)] (.int x :: st) h) := by rw [q_M_counted, hz_w_at d_M_counted_84]; rfl
theorem d_M_counted_85 : decode c_M_counted 85 = .ok (.aload_n 0, 1) := by decide +kernel
theorem e_M_counted_85 {a1 a2 a3 : Option Value} : q_M_counted S (f + 1) 85 [some (.ref i), a1, a2, a3] st h = (q_M_counted S f 86 [some (.ref i), a1, a2, a3] (.ref i :: st) h) := by rw [q_M_counted, hz_w_at d_M_counted_85]; rfl
theorem e_M_counted_85n {a1 a2 a3 : Option Value} : q_M_counted S (f + 1) 85 [some .null, a1, a2, a3] st h = (q_M_counted S f 86 [some .null, a1, a2, a3] (.null :: st) h) := by rw [q_M_counted, hz_w_at d_M_counted_85]; rfl
theorem d_M_counted_86 : decode c_M_counted 86 = .ok (.getfield 168, 3) := by decide +kernel
theorem e_M_counted_86 : q_M_counted S (f + 1) 86 L (.ref i :: st) h = (hz_rd h i 5 38 fun v => q_M_counted S f 89 L (v :: st) h) := by rw [q_M_counted, hz_w_at d_M_counted_86]; rfl
theorem d_M_counted_89 : decode c_M_counted 89 = .ok (.invokevirtual 221, 3) := by decide +kernel
theorem e_M_counted_89 : q_M_counted S (f + 1) 89 L st h = (S 89 L st h) := by rw [q_M_counted, hz_w_at d_M_counted_89]; rfl
theorem d_M_counted_92 : decode c_M_counted 92 = .ok (.invokevirtual 187, 3) := by decide +kernel
theorem e_M_counted_92 : q_M_counted S (f + 1) 92 L st h = (S 92 L st h) := by rw [q_M_counted, hz_w_at d_M_counted_92]; rfl
theorem d_M_counted_95 : decode c_M_counted 95 = .ok (.return_, 1) := by decide +kernel
theorem e_M_counted_95 : q_M_counted S (f + 1) 95 L st h = (S 95 L st h) := by rw [q_M_counted, hz_w_at d_M_counted_95]; rfl
end
abbrev q_M_part (S : Nat → List (Option Value) → List Value → hz_H → Prop) := hz_w zCl zKT f_M n_M c_M_part [] S
section
variable {S : Nat → List (Option Value) → List Value → hz_H → Prop} {f : Nat} {L : List (Option Value)} {st : List Value} {h : hz_H} {x y : Int32} {i j : Nat} {X Y : Int64}
theorem d_M_part_0 : decode c_M_part 0 = .ok (.aload_n 0, 1) := by decide +kernel
theorem e_M_part_0 {a1 a2 a3 : Option Value} : q_M_part S (f + 1) 0 [some (.ref i), a1, a2, a3] st h = (q_M_part S f 1 [some (.ref i), a1, a2, a3] (.ref i :: st) h) := by rw [q_M_part, hz_w_at d_M_part_0]; rfl
theorem e_M_part_0n {a1 a2 a3 : Option Value} : q_M_part S (f + 1) 0 [some .null, a1, a2, a3] st h = (q_M_part S f 1 [some .null, a1, a2, a3] (.null :: st) h) := by rw [q_M_part, hz_w_at d_M_part_0]; rfl
theorem d_M_part_1 : decode c_M_part 1 = .ok (.getfield 165, 3) := by decide +kernel
theorem e_M_part_1 : q_M_part S (f + 1) 1 L (.ref i :: st) h = (hz_rd h i 5 37 fun v => q_M_part S f 4 L (v :: st) h) := by rw [q_M_part, hz_w_at d_M_part_1]; rfl
theorem d_M_part_4 : decode c_M_part 4 = .ok (.iconst 1, 1) := by decide +kernel
theorem e_M_part_4 : q_M_part S (f + 1) 4 L st h = (q_M_part S f 5 L (.int (hz_n 1) :: st) h) := by rw [q_M_part, hz_w_at d_M_part_4]; rfl
theorem d_M_part_5 : decode c_M_part 5 = .ok (.if_icmp .ne 17, 3) := by decide +kernel
theorem e_M_part_5 : q_M_part S (f + 1) 5 L (.int y :: .int x :: st) h = ((¬ x.toInt = y.toInt → q_M_part S f 22 L st h) ∧ (¬ (¬ x.toInt = y.toInt) → q_M_part S f 8 L st h)) := by rw [q_M_part, hz_w_at d_M_part_5]; rfl
theorem d_M_part_8 : decode c_M_part 8 = .ok (.aload_n 0, 1) := by decide +kernel
theorem e_M_part_8 {a1 a2 a3 : Option Value} : q_M_part S (f + 1) 8 [some (.ref i), a1, a2, a3] st h = (q_M_part S f 9 [some (.ref i), a1, a2, a3] (.ref i :: st) h) := by rw [q_M_part, hz_w_at d_M_part_8]; rfl
theorem e_M_part_8n {a1 a2 a3 : Option Value} : q_M_part S (f + 1) 8 [some .null, a1, a2, a3] st h = (q_M_part S f 9 [some .null, a1, a2, a3] (.null :: st) h) := by rw [q_M_part, hz_w_at d_M_part_8]; rfl
theorem d_M_part_9 : decode c_M_part 9 = .ok (.aload_n 0, 1) := by decide +kernel
theorem e_M_part_9 {a1 a2 a3 : Option Value} : q_M_part S (f + 1) 9 [some (.ref i), a1, a2, a3] st h = (q_M_part S f 10 [some (.ref i), a1, a2, a3] (.ref i :: st) h) := by rw [q_M_part, hz_w_at d_M_part_9]; rfl
theorem e_M_part_9n {a1 a2 a3 : Option Value} : q_M_part S (f + 1) 9 [some .null, a1, a2, a3] st h = (q_M_part S f 10 [some .null, a1, a2, a3] (.null :: st) h) := by rw [q_M_part, hz_w_at d_M_part_9]; rfl
theorem d_M_part_10 : decode c_M_part 10 = .ok (.iload_n 1, 1) := by decide +kernel
theorem e_M_part_10 {a0 a2 a3 : Option Value} : q_M_part S (f + 1) 10 [a0, some (.int x), a2, a3] st h = (q_M_part S f 11 [a0, some (.int x), a2, a3] (.int x :: st) h) := by rw [q_M_part, hz_w_at d_M_part_10]; rfl
theorem d_M_part_11 : decode c_M_part 11 = .ok (.iconst 1, 1) := by decide +kernel
theorem e_M_part_11 : q_M_part S (f + 1) 11 L st h = (q_M_part S f 12 L (.int (hz_n 1) :: st) h) := by rw [q_M_part, hz_w_at d_M_part_11]; rfl
theorem d_M_part_12 : decode c_M_part 12 = .ok (.invokevirtual 126, 3) := by decide +kernel
theorem e_M_part_12 : q_M_part S (f + 1) 12 L st h = (S 12 L st h) := by rw [q_M_part, hz_w_at d_M_part_12]; rfl
theorem d_M_part_15 : decode c_M_part 15 = .ok (.iload_n 2, 1) := by decide +kernel
theorem e_M_part_15 {a0 a1 a3 : Option Value} : q_M_part S (f + 1) 15 [a0, a1, some (.int x), a3] st h = (q_M_part S f 16 [a0, a1, some (.int x), a3] (.int x :: st) h) := by rw [q_M_part, hz_w_at d_M_part_15]; rfl
theorem d_M_part_16 : decode c_M_part 16 = .ok (.invokevirtual 180, 3) := by decide +kernel
theorem e_M_part_16 : q_M_part S (f + 1) 16 L st h = (S 16 L st h) := by rw [q_M_part, hz_w_at d_M_part_16]; rfl
theorem d_M_part_19 : decode c_M_part 19 = .ok (.goto 75, 3) := by decide +kernel
theorem e_M_part_19 : q_M_part S (f + 1) 19 L st h = (q_M_part S f 94 L st h) := by rw [q_M_part, hz_w_at d_M_part_19]; rfl
theorem d_M_part_22 : decode c_M_part 22 = .ok (.aload_n 0, 1) := by decide +kernel
theorem e_M_part_22 {a1 a2 a3 : Option Value} : q_M_part S (f + 1) 22 [some (.ref i), a1, a2, a3] st h = (q_M_part S f 23 [some (.ref i), a1, a2, a3] (.ref i :: st) h) := by rw [q_M_part, hz_w_at d_M_part_22]; rfl
theorem e_M_part_22n {a1 a2 a3 : Option Value} : q_M_part S (f + 1) 22 [some .null, a1, a2, a3] st h = (q_M_part S f 23 [some .null, a1, a2, a3] (.null :: st) h) := by rw [q_M_part, hz_w_at d_M_part_22]; rfl
theorem d_M_part_23 : decode c_M_part 23 = .ok (.getfield 165, 3) := by decide +kernel
theorem e_M_part_23 : q_M_part S (f + 1) 23 L (.ref i :: st) h = (hz_rd h i 5 37 fun v => q_M_part S f 26 L (v :: st) h) := by rw [q_M_part, hz_w_at d_M_part_23]; rfl
theorem d_M_part_26 : decode c_M_part 26 = .ok (.iconst 2, 1) := by decide +kernel
theorem e_M_part_26 : q_M_part S (f + 1) 26 L st h = (q_M_part S f 27 L (.int (hz_n 2) :: st) h) := by rw [q_M_part, hz_w_at d_M_part_26]; rfl
theorem d_M_part_27 : decode c_M_part 27 = .ok (.if_icmp .ne 61, 3) := by decide +kernel
theorem e_M_part_27 : q_M_part S (f + 1) 27 L (.int y :: .int x :: st) h = ((¬ x.toInt = y.toInt → q_M_part S f 88 L st h) ∧ (¬ (¬ x.toInt = y.toInt) → q_M_part S f 30 L st h)) := by rw [q_M_part, hz_w_at d_M_part_27]; rfl
theorem d_M_part_30 : decode c_M_part 30 = .ok (.aload_n 0, 1) := by decide +kernel
theorem e_M_part_30 {a1 a2 a3 : Option Value} : q_M_part S (f + 1) 30 [some (.ref i), a1, a2, a3] st h = (q_M_part S f 31 [some (.ref i), a1, a2, a3] (.ref i :: st) h) := by rw [q_M_part, hz_w_at d_M_part_30]; rfl
theorem e_M_part_30n {a1 a2 a3 : Option Value} : q_M_part S (f + 1) 30 [some .null, a1, a2, a3] st h = (q_M_part S f 31 [some .null, a1, a2, a3] (.null :: st) h) := by rw [q_M_part, hz_w_at d_M_part_30]; rfl
theorem d_M_part_31 : decode c_M_part 31 = .ok (.aload_n 0, 1) := by decide +kernel
theorem e_M_part_31 {a1 a2 a3 : Option Value} : q_M_part S (f + 1) 31 [some (.ref i), a1, a2, a3] st h = (q_M_part S f 32 [some (.ref i), a1, a2, a3] (.ref i :: st) h) := by rw [q_M_part, hz_w_at d_M_part_31]; rfl
theorem e_M_part_31n {a1 a2 a3 : Option Value} : q_M_part S (f + 1) 31 [some .null, a1, a2, a3] st h = (q_M_part S f 32 [some .null, a1, a2, a3] (.null :: st) h) := by rw [q_M_part, hz_w_at d_M_part_31]; rfl
theorem d_M_part_32 : decode c_M_part 32 = .ok (.getfield 29, 3) := by decide +kernel
theorem e_M_part_32 : q_M_part S (f + 1) 32 L (.ref i :: st) h = (hz_rd h i 5 9 fun v => q_M_part S f 35 L (v :: st) h) := by rw [q_M_part, hz_w_at d_M_part_32]; rfl
theorem d_M_part_35 : decode c_M_part 35 = .ok (.iload_n 1, 1) := by decide +kernel
theorem e_M_part_35 {a0 a2 a3 : Option Value} : q_M_part S (f + 1) 35 [a0, some (.int x), a2, a3] st h = (q_M_part S f 36 [a0, some (.int x), a2, a3] (.int x :: st) h) := by rw [q_M_part, hz_w_at d_M_part_35]; rfl
theorem d_M_part_36 : decode c_M_part 36 = .ok (.iaload, 1) := by decide +kernel
theorem e_M_part_36 : q_M_part S (f + 1) 36 L (.int x :: .ref i :: st) h = (hz_ea zKT hz_kI h i x fun v => q_M_part S f 37 L (v :: st) h) := by rw [q_M_part, hz_w_at d_M_part_36]; rfl
theorem d_M_part_37 : decode c_M_part 37 = .ok (.aload_n 0, 1) := by decide +kernel
theorem e_M_part_37 {a1 a2 a3 : Option Value} : q_M_part S (f + 1) 37 [some (.ref i), a1, a2, a3] st h = (q_M_part S f 38 [some (.ref i), a1, a2, a3] (.ref i :: st) h) := by rw [q_M_part, hz_w_at d_M_part_37]; rfl
theorem e_M_part_37n {a1 a2 a3 : Option Value} : q_M_part S (f + 1) 37 [some .null, a1, a2, a3] st h = (q_M_part S f 38 [some .null, a1, a2, a3] (.null :: st) h) := by rw [q_M_part, hz_w_at d_M_part_37]; rfl
theorem d_M_part_38 : decode c_M_part 38 = .ok (.getfield 62, 3) := by decide +kernel
theorem e_M_part_38 : q_M_part S (f + 1) 38 L (.ref i :: st) h = (hz_rd h i 5 24 fun v => q_M_part S f 41 L (v :: st) h) := by rw [q_M_part, hz_w_at d_M_part_38]; rfl
theorem d_M_part_41 : decode c_M_part 41 = .ok (.aload_n 0, 1) := by decide +kernel
theorem e_M_part_41 {a1 a2 a3 : Option Value} : q_M_part S (f + 1) 41 [some (.ref i), a1, a2, a3] st h = (q_M_part S f 42 [some (.ref i), a1, a2, a3] (.ref i :: st) h) := by rw [q_M_part, hz_w_at d_M_part_41]; rfl
theorem e_M_part_41n {a1 a2 a3 : Option Value} : q_M_part S (f + 1) 41 [some .null, a1, a2, a3] st h = (q_M_part S f 42 [some .null, a1, a2, a3] (.null :: st) h) := by rw [q_M_part, hz_w_at d_M_part_41]; rfl
theorem d_M_part_42 : decode c_M_part 42 = .ok (.getfield 168, 3) := by decide +kernel
theorem e_M_part_42 : q_M_part S (f + 1) 42 L (.ref i :: st) h = (hz_rd h i 5 38 fun v => q_M_part S f 45 L (v :: st) h) := by rw [q_M_part, hz_w_at d_M_part_42]; rfl
theorem d_M_part_45 : decode c_M_part 45 = .ok (.iaload, 1) := by decide +kernel
theorem e_M_part_45 : q_M_part S (f + 1) 45 L (.int x :: .ref i :: st) h = (hz_ea zKT hz_kI h i x fun v => q_M_part S f 46 L (v :: st) h) := by rw [q_M_part, hz_w_at d_M_part_45]; rfl
theorem d_M_part_46 : decode c_M_part 46 = .ok (.iload_n 2, 1) := by decide +kernel
theorem e_M_part_46 {a0 a1 a3 : Option Value} : q_M_part S (f + 1) 46 [a0, a1, some (.int x), a3] st h = (q_M_part S f 47 [a0, a1, some (.int x), a3] (.int x :: st) h) := by rw [q_M_part, hz_w_at d_M_part_46]; rfl
theorem d_M_part_47 : decode c_M_part 47 = .ok (.invokevirtual 205, 3) := by decide +kernel
theorem e_M_part_47 : q_M_part S (f + 1) 47 L st h = (S 47 L st h) := by rw [q_M_part, hz_w_at d_M_part_47]; rfl
theorem d_M_part_50 : decode c_M_part 50 = .ok (.istore_n 3, 1) := by decide +kernel
theorem e_M_part_50 {a0 a1 a2 a3 : Option Value} : q_M_part S (f + 1) 50 [a0, a1, a2, a3] (.int x :: st) h = (q_M_part S f 51 [a0, a1, a2, some (.int x)] st h) := by rw [q_M_part, hz_w_at d_M_part_50]; rfl
theorem d_M_part_51 : decode c_M_part 51 = .ok (.aload_n 0, 1) := by decide +kernel
theorem e_M_part_51 {a1 a2 a3 : Option Value} : q_M_part S (f + 1) 51 [some (.ref i), a1, a2, a3] st h = (q_M_part S f 52 [some (.ref i), a1, a2, a3] (.ref i :: st) h) := by rw [q_M_part, hz_w_at d_M_part_51]; rfl
theorem e_M_part_51n {a1 a2 a3 : Option Value} : q_M_part S (f + 1) 51 [some .null, a1, a2, a3] st h = (q_M_part S f 52 [some .null, a1, a2, a3] (.null :: st) h) := by rw [q_M_part, hz_w_at d_M_part_51]; rfl
theorem d_M_part_52 : decode c_M_part 52 = .ok (.aload_n 0, 1) := by decide +kernel
theorem e_M_part_52 {a1 a2 a3 : Option Value} : q_M_part S (f + 1) 52 [some (.ref i), a1, a2, a3] st h = (q_M_part S f 53 [some (.ref i), a1, a2, a3] (.ref i :: st) h) := by rw [q_M_part, hz_w_at d_M_part_52]; rfl
theorem e_M_part_52n {a1 a2 a3 : Option Value} : q_M_part S (f + 1) 52 [some .null, a1, a2, a3] st h = (q_M_part S f 53 [some .null, a1, a2, a3] (.null :: st) h) := by rw [q_M_part, hz_w_at d_M_part_52]; rfl
theorem d_M_part_53 : decode c_M_part 53 = .ok (.getfield 32, 3) := by decide +kernel
theorem e_M_part_53 : q_M_part S (f + 1) 53 L (.ref i :: st) h = (hz_rd h i 5 10 fun v => q_M_part S f 56 L (v :: st) h) := by rw [q_M_part, hz_w_at d_M_part_53]; rfl
theorem d_M_part_56 : decode c_M_part 56 = .ok (.iload_n 1, 1) := by decide +kernel
theorem e_M_part_56 {a0 a2 a3 : Option Value} : q_M_part S (f + 1) 56 [a0, some (.int x), a2, a3] st h = (q_M_part S f 57 [a0, some (.int x), a2, a3] (.int x :: st) h) := by rw [q_M_part, hz_w_at d_M_part_56]; rfl
theorem d_M_part_57 : decode c_M_part 57 = .ok (.iaload, 1) := by decide +kernel
theorem e_M_part_57 : q_M_part S (f + 1) 57 L (.int x :: .ref i :: st) h = (hz_ea zKT hz_kI h i x fun v => q_M_part S f 58 L (v :: st) h) := by rw [q_M_part, hz_w_at d_M_part_57]; rfl
theorem d_M_part_58 : decode c_M_part 58 = .ok (.aload_n 0, 1) := by decide +kernel
theorem e_M_part_58 {a1 a2 a3 : Option Value} : q_M_part S (f + 1) 58 [some (.ref i), a1, a2, a3] st h = (q_M_part S f 59 [some (.ref i), a1, a2, a3] (.ref i :: st) h) := by rw [q_M_part, hz_w_at d_M_part_58]; rfl
theorem e_M_part_58n {a1 a2 a3 : Option Value} : q_M_part S (f + 1) 58 [some .null, a1, a2, a3] st h = (q_M_part S f 59 [some .null, a1, a2, a3] (.null :: st) h) := by rw [q_M_part, hz_w_at d_M_part_58]; rfl
theorem d_M_part_59 : decode c_M_part 59 = .ok (.getfield 62, 3) := by decide +kernel
theorem e_M_part_59 : q_M_part S (f + 1) 59 L (.ref i :: st) h = (hz_rd h i 5 24 fun v => q_M_part S f 62 L (v :: st) h) := by rw [q_M_part, hz_w_at d_M_part_59]; rfl
theorem d_M_part_62 : decode c_M_part 62 = .ok (.aload_n 0, 1) := by decide +kernel
theorem e_M_part_62 {a1 a2 a3 : Option Value} : q_M_part S (f + 1) 62 [some (.ref i), a1, a2, a3] st h = (q_M_part S f 63 [some (.ref i), a1, a2, a3] (.ref i :: st) h) := by rw [q_M_part, hz_w_at d_M_part_62]; rfl
theorem e_M_part_62n {a1 a2 a3 : Option Value} : q_M_part S (f + 1) 62 [some .null, a1, a2, a3] st h = (q_M_part S f 63 [some .null, a1, a2, a3] (.null :: st) h) := by rw [q_M_part, hz_w_at d_M_part_62]; rfl
theorem d_M_part_63 : decode c_M_part 63 = .ok (.getfield 168, 3) := by decide +kernel
theorem e_M_part_63 : q_M_part S (f + 1) 63 L (.ref i :: st) h = (hz_rd h i 5 38 fun v => q_M_part S f 66 L (v :: st) h) := by rw [q_M_part, hz_w_at d_M_part_63]; rfl
theorem d_M_part_66 : decode c_M_part 66 = .ok (.iconst 1, 1) := by decide +kernel
theorem e_M_part_66 : q_M_part S (f + 1) 66 L st h = (q_M_part S f 67 L (.int (hz_n 1) :: st) h) := by rw [q_M_part, hz_w_at d_M_part_66]; rfl
theorem d_M_part_67 : decode c_M_part 67 = .ok (.iadd, 1) := by decide +kernel
theorem e_M_part_67 : q_M_part S (f + 1) 67 L (.int y :: .int x :: st) h = (q_M_part S f 68 L (.int (x + y) :: st) h) := by rw [q_M_part, hz_w_at d_M_part_67]; rfl
theorem d_M_part_68 : decode c_M_part 68 = .ok (.iaload, 1) := by decide +kernel
theorem e_M_part_68 : q_M_part S (f + 1) 68 L (.int x :: .ref i :: st) h = (hz_ea zKT hz_kI h i x fun v => q_M_part S f 69 L (v :: st) h) := by rw [q_M_part, hz_w_at d_M_part_68]; rfl
theorem d_M_part_69 : decode c_M_part 69 = .ok (.iload_n 3, 1) := by decide +kernel
theorem e_M_part_69 {a0 a1 a2 : Option Value} : q_M_part S (f + 1) 69 [a0, a1, a2, some (.int x)] st h = (q_M_part S f 70 [a0, a1, a2, some (.int x)] (.int x :: st) h) := by rw [q_M_part, hz_w_at d_M_part_69]; rfl
theorem d_M_part_70 : decode c_M_part 70 = .ok (.invokevirtual 205, 3) := by decide +kernel
theorem e_M_part_70 : q_M_part S (f + 1) 70 L st h = (S 70 L st h) := by rw [q_M_part, hz_w_at d_M_part_70]; rfl
theorem d_M_part_73 : decode c_M_part 73 = .ok (.istore_n 3, 1) := by decide +kernel
theorem e_M_part_73 {a0 a1 a2 a3 : Option Value} : q_M_part S (f + 1) 73 [a0, a1, a2, a3] (.int x :: st) h = (q_M_part S f 74 [a0, a1, a2, some (.int x)] st h) := by rw [q_M_part, hz_w_at d_M_part_73]; rfl
theorem d_M_part_74 : decode c_M_part 74 = .ok (.aload_n 0, 1) := by decide +kernel
theorem e_M_part_74 {a1 a2 a3 : Option Value} : q_M_part S (f + 1) 74 [some (.ref i), a1, a2, a3] st h = (q_M_part S f 75 [some (.ref i), a1, a2, a3] (.ref i :: st) h) := by rw [q_M_part, hz_w_at d_M_part_74]; rfl
theorem e_M_part_74n {a1 a2 a3 : Option Value} : q_M_part S (f + 1) 74 [some .null, a1, a2, a3] st h = (q_M_part S f 75 [some .null, a1, a2, a3] (.null :: st) h) := by rw [q_M_part, hz_w_at d_M_part_74]; rfl
theorem d_M_part_75 : decode c_M_part 75 = .ok (.aload_n 0, 1) := by decide +kernel
theorem e_M_part_75 {a1 a2 a3 : Option Value} : q_M_part S (f + 1) 75 [some (.ref i), a1, a2, a3] st h = (q_M_part S f 76 [some (.ref i), a1, a2, a3] (.ref i :: st) h) := by rw [q_M_part, hz_w_at d_M_part_75]; rfl
theorem e_M_part_75n {a1 a2 a3 : Option Value} : q_M_part S (f + 1) 75 [some .null, a1, a2, a3] st h = (q_M_part S f 76 [some .null, a1, a2, a3] (.null :: st) h) := by rw [q_M_part, hz_w_at d_M_part_75]; rfl
theorem d_M_part_76 : decode c_M_part 76 = .ok (.iload_n 1, 1) := by decide +kernel
theorem e_M_part_76 {a0 a2 a3 : Option Value} : q_M_part S (f + 1) 76 [a0, some (.int x), a2, a3] st h = (q_M_part S f 77 [a0, some (.int x), a2, a3] (.int x :: st) h) := by rw [q_M_part, hz_w_at d_M_part_76]; rfl
theorem d_M_part_77 : decode c_M_part 77 = .ok (.iconst 2, 1) := by decide +kernel
theorem e_M_part_77 : q_M_part S (f + 1) 77 L st h = (q_M_part S f 78 L (.int (hz_n 2) :: st) h) := by rw [q_M_part, hz_w_at d_M_part_77]; rfl
theorem d_M_part_78 : decode c_M_part 78 = .ok (.invokevirtual 126, 3) := by decide +kernel
theorem e_M_part_78 : q_M_part S (f + 1) 78 L st h = (S 78 L st h) := by rw [q_M_part, hz_w_at d_M_part_78]; rfl
theorem d_M_part_81 : decode c_M_part 81 = .ok (.iload_n 3, 1) := by decide +kernel
theorem e_M_part_81 {a0 a1 a2 : Option Value} : q_M_part S (f + 1) 81 [a0, a1, a2, some (.int x)] st h = (q_M_part S f 82 [a0, a1, a2, some (.int x)] (.int x :: st) h) := by rw [q_M_part, hz_w_at d_M_part_81]; rfl
theorem d_M_part_82 : decode c_M_part 82 = .ok (.invokevirtual 180, 3) := by decide +kernel
theorem e_M_part_82 : q_M_part S (f + 1) 82 L st h = (S 82 L st h) := by rw [q_M_part, hz_w_at d_M_part_82]; rfl
theorem d_M_part_85 : decode c_M_part 85 = .ok (.goto 9, 3) := by decide +kernel
theorem e_M_part_85 : q_M_part S (f + 1) 85 L st h = (q_M_part S f 94 L st h) := by rw [q_M_part, hz_w_at d_M_part_85]; rfl
theorem d_M_part_88 : decode c_M_part 88 = .ok (.aload_n 0, 1) := by decide +kernel
theorem e_M_part_88 {a1 a2 a3 : Option Value} : q_M_part S (f + 1) 88 [some (.ref i), a1, a2, a3] st h = (q_M_part S f 89 [some (.ref i), a1, a2, a3] (.ref i :: st) h) := by rw [q_M_part, hz_w_at d_M_part_88]; rfl
theorem e_M_part_88n {a1 a2 a3 : Option Value} : q_M_part S (f + 1) 88 [some .null, a1, a2, a3] st h = (q_M_part S f 89 [some .null, a1, a2, a3] (.null :: st) h) := by rw [q_M_part, hz_w_at d_M_part_88]; rfl
theorem d_M_part_89 : decode c_M_part 89 = .ok (.bipush (-3), 2) := by decide +kernel
theorem e_M_part_89 : q_M_part S (f + 1) 89 L st h = (q_M_part S f 91 L (.int (hz_n (-3)) :: st) h) := by rw [q_M_part, hz_w_at d_M_part_89]; rfl
theorem d_M_part_91 : decode c_M_part 91 = .ok (.putfield 177, 3) := by decide +kernel
theorem e_M_part_91 : q_M_part S (f + 1) 91 L (.int x :: .ref i :: st) h = (hz_wr h i 5 34 (.int x) fun h => q_M_part S f 94 L st h) := by rw [q_M_part, hz_w_at d_M_part_91]; rfl
theorem d_M_part_94 : decode c_M_part 94 = .ok (.return_, 1) := by decide +kernel
theorem e_M_part_94 : q_M_part S (f + 1) 94 L st h = (S 94 L st h) := by rw [q_M_part, hz_w_at d_M_part_94]; rfl
end
abbrev q_M_put (S : Nat → List (Option Value) → List Value → hz_H → Prop) := hz_w zCl zKT f_M n_M c_M_put [] S
section
variable {S : Nat → List (Option Value) → List Value → hz_H → Prop} {f : Nat} {L : List (Option Value)} {st : List Value} {h : hz_H} {x y : Int32} {i j : Nat} {X Y : Int64}
theorem d_M_put_0 : decode c_M_put 0 = .ok (.aload_n 0, 1) := by decide +kernel
theorem e_M_put_0 {a1 : Option Value} : q_M_put S (f + 1) 0 [some (.ref i), a1] st h = (q_M_put S f 1 [some (.ref i), a1] (.ref i :: st) h) := by rw [q_M_put, hz_w_at d_M_put_0]; rfl
theorem e_M_put_0n {a1 : Option Value} : q_M_put S (f + 1) 0 [some .null, a1] st h = (q_M_put S f 1 [some .null, a1] (.null :: st) h) := by rw [q_M_put, hz_w_at d_M_put_0]; rfl
theorem d_M_put_1 : decode c_M_put 1 = .ok (.getfield 177, 3) := by decide +kernel
theorem e_M_put_1 : q_M_put S (f + 1) 1 L (.ref i :: st) h = (hz_rd h i 5 34 fun v => q_M_put S f 4 L (v :: st) h) := by rw [q_M_put, hz_w_at d_M_put_1]; rfl
theorem d_M_put_4 : decode c_M_put 4 = .ok (.ifCond .ne 18, 3) := by decide +kernel
theorem e_M_put_4 : q_M_put S (f + 1) 4 L (.int x :: st) h = ((¬ x.toInt = 0 → q_M_put S f 22 L st h) ∧ (¬ (¬ x.toInt = 0) → q_M_put S f 7 L st h)) := by rw [q_M_put, hz_w_at d_M_put_4]; rfl
theorem d_M_put_7 : decode c_M_put 7 = .ok (.aload_n 0, 1) := by decide +kernel
theorem e_M_put_7 {a1 : Option Value} : q_M_put S (f + 1) 7 [some (.ref i), a1] st h = (q_M_put S f 8 [some (.ref i), a1] (.ref i :: st) h) := by rw [q_M_put, hz_w_at d_M_put_7]; rfl
theorem e_M_put_7n {a1 : Option Value} : q_M_put S (f + 1) 7 [some .null, a1] st h = (q_M_put S f 8 [some .null, a1] (.null :: st) h) := by rw [q_M_put, hz_w_at d_M_put_7]; rfl
theorem d_M_put_8 : decode c_M_put 8 = .ok (.getfield 224, 3) := by decide +kernel
theorem e_M_put_8 : q_M_put S (f + 1) 8 L (.ref i :: st) h = (hz_rd h i 5 3 fun v => q_M_put S f 11 L (v :: st) h) := by rw [q_M_put, hz_w_at d_M_put_8]; rfl
theorem d_M_put_11 : decode c_M_put 11 = .ok (.bipush 60, 2) := by decide +kernel
theorem e_M_put_11 : q_M_put S (f + 1) 11 L st h = (q_M_put S f 13 L (.int (hz_n 60) :: st) h) := by rw [q_M_put, hz_w_at d_M_put_11]; rfl
theorem d_M_put_13 : decode c_M_put 13 = .ok (.if_icmp .ne 9, 3) := by decide +kernel
theorem e_M_put_13 : q_M_put S (f + 1) 13 L (.int y :: .int x :: st) h = ((¬ x.toInt = y.toInt → q_M_put S f 22 L st h) ∧ (¬ (¬ x.toInt = y.toInt) → q_M_put S f 16 L st h)) := by rw [q_M_put, hz_w_at d_M_put_13]; rfl
theorem d_M_put_16 : decode c_M_put 16 = .ok (.aload_n 0, 1) := by decide +kernel
theorem e_M_put_16 {a1 : Option Value} : q_M_put S (f + 1) 16 [some (.ref i), a1] st h = (q_M_put S f 17 [some (.ref i), a1] (.ref i :: st) h) := by rw [q_M_put, hz_w_at d_M_put_16]; rfl
theorem e_M_put_16n {a1 : Option Value} : q_M_put S (f + 1) 16 [some .null, a1] st h = (q_M_put S f 17 [some .null, a1] (.null :: st) h) := by rw [q_M_put, hz_w_at d_M_put_16]; rfl
theorem d_M_put_17 : decode c_M_put 17 = .ok (.bipush (-5), 2) := by decide +kernel
theorem e_M_put_17 : q_M_put S (f + 1) 17 L st h = (q_M_put S f 19 L (.int (hz_n (-5)) :: st) h) := by rw [q_M_put, hz_w_at d_M_put_17]; rfl
theorem d_M_put_19 : decode c_M_put 19 = .ok (.putfield 177, 3) := by decide +kernel
theorem e_M_put_19 : q_M_put S (f + 1) 19 L (.int x :: .ref i :: st) h = (hz_wr h i 5 34 (.int x) fun h => q_M_put S f 22 L st h) := by rw [q_M_put, hz_w_at d_M_put_19]; rfl
theorem d_M_put_22 : decode c_M_put 22 = .ok (.aload_n 0, 1) := by decide +kernel
theorem e_M_put_22 {a1 : Option Value} : q_M_put S (f + 1) 22 [some (.ref i), a1] st h = (q_M_put S f 23 [some (.ref i), a1] (.ref i :: st) h) := by rw [q_M_put, hz_w_at d_M_put_22]; rfl
theorem e_M_put_22n {a1 : Option Value} : q_M_put S (f + 1) 22 [some .null, a1] st h = (q_M_put S f 23 [some .null, a1] (.null :: st) h) := by rw [q_M_put, hz_w_at d_M_put_22]; rfl
theorem d_M_put_23 : decode c_M_put 23 = .ok (.getfield 177, 3) := by decide +kernel
theorem e_M_put_23 : q_M_put S (f + 1) 23 L (.ref i :: st) h = (hz_rd h i 5 34 fun v => q_M_put S f 26 L (v :: st) h) := by rw [q_M_put, hz_w_at d_M_put_23]; rfl
theorem d_M_put_26 : decode c_M_put 26 = .ok (.ifCond .ne 23, 3) := by decide +kernel
theorem e_M_put_26 : q_M_put S (f + 1) 26 L (.int x :: st) h = ((¬ x.toInt = 0 → q_M_put S f 49 L st h) ∧ (¬ (¬ x.toInt = 0) → q_M_put S f 29 L st h)) := by rw [q_M_put, hz_w_at d_M_put_26]; rfl
theorem d_M_put_29 : decode c_M_put 29 = .ok (.aload_n 0, 1) := by decide +kernel
theorem e_M_put_29 {a1 : Option Value} : q_M_put S (f + 1) 29 [some (.ref i), a1] st h = (q_M_put S f 30 [some (.ref i), a1] (.ref i :: st) h) := by rw [q_M_put, hz_w_at d_M_put_29]; rfl
theorem e_M_put_29n {a1 : Option Value} : q_M_put S (f + 1) 29 [some .null, a1] st h = (q_M_put S f 30 [some .null, a1] (.null :: st) h) := by rw [q_M_put, hz_w_at d_M_put_29]; rfl
theorem d_M_put_30 : decode c_M_put 30 = .ok (.getfield 13, 3) := by decide +kernel
theorem e_M_put_30 : q_M_put S (f + 1) 30 L (.ref i :: st) h = (hz_rd h i 5 4 fun v => q_M_put S f 33 L (v :: st) h) := by rw [q_M_put, hz_w_at d_M_put_30]; rfl
theorem d_M_put_33 : decode c_M_put 33 = .ok (.aload_n 0, 1) := by decide +kernel
theorem e_M_put_33 {a1 : Option Value} : q_M_put S (f + 1) 33 [some (.ref i), a1] st h = (q_M_put S f 34 [some (.ref i), a1] (.ref i :: st) h) := by rw [q_M_put, hz_w_at d_M_put_33]; rfl
theorem e_M_put_33n {a1 : Option Value} : q_M_put S (f + 1) 33 [some .null, a1] st h = (q_M_put S f 34 [some .null, a1] (.null :: st) h) := by rw [q_M_put, hz_w_at d_M_put_33]; rfl
theorem d_M_put_34 : decode c_M_put 34 = .ok (.getfield 224, 3) := by decide +kernel
theorem e_M_put_34 : q_M_put S (f + 1) 34 L (.ref i :: st) h = (hz_rd h i 5 3 fun v => q_M_put S f 37 L (v :: st) h) := by rw [q_M_put, hz_w_at d_M_put_34]; rfl
theorem d_M_put_37 : decode c_M_put 37 = .ok (.iload_n 1, 1) := by decide +kernel
theorem e_M_put_37 {a0 : Option Value} : q_M_put S (f + 1) 37 [a0, some (.int x)] st h = (q_M_put S f 38 [a0, some (.int x)] (.int x :: st) h) := by rw [q_M_put, hz_w_at d_M_put_37]; rfl
theorem d_M_put_38 : decode c_M_put 38 = .ok (.iastore, 1) := by decide +kernel
theorem e_M_put_38 : q_M_put S (f + 1) 38 L (.int y :: .int x :: .ref i :: st) h = (hz_es zKT hz_kI h i x (.int y) fun h => q_M_put S f 39 L st h) := by rw [q_M_put, hz_w_at d_M_put_38]; rfl
theorem d_M_put_39 : decode c_M_put 39 = .ok (.aload_n 0, 1) := by decide +kernel
theorem e_M_put_39 {a1 : Option Value} : q_M_put S (f + 1) 39 [some (.ref i), a1] st h = (q_M_put S f 40 [some (.ref i), a1] (.ref i :: st) h) := by rw [q_M_put, hz_w_at d_M_put_39]; rfl
theorem e_M_put_39n {a1 : Option Value} : q_M_put S (f + 1) 39 [some .null, a1] st h = (q_M_put S f 40 [some .null, a1] (.null :: st) h) := by rw [q_M_put, hz_w_at d_M_put_39]; rfl
theorem d_M_put_40 : decode c_M_put 40 = .ok (.dup, 1) := by decide +kernel
theorem e_M_put_40 : q_M_put S (f + 1) 40 L (.ref i :: st) h = (q_M_put S f 41 L (.ref i :: .ref i :: st) h) := by rw [q_M_put, hz_w_at d_M_put_40]; rfl
theorem e_M_put_40i : q_M_put S (f + 1) 40 L (.int x :: st) h = (q_M_put S f 41 L (.int x :: .int x :: st) h) := by rw [q_M_put, hz_w_at d_M_put_40]; rfl
theorem d_M_put_41 : decode c_M_put 41 = .ok (.getfield 224, 3) := by decide +kernel
theorem e_M_put_41 : q_M_put S (f + 1) 41 L (.ref i :: st) h = (hz_rd h i 5 3 fun v => q_M_put S f 44 L (v :: st) h) := by rw [q_M_put, hz_w_at d_M_put_41]; rfl
theorem d_M_put_44 : decode c_M_put 44 = .ok (.iconst 1, 1) := by decide +kernel
theorem e_M_put_44 : q_M_put S (f + 1) 44 L st h = (q_M_put S f 45 L (.int (hz_n 1) :: st) h) := by rw [q_M_put, hz_w_at d_M_put_44]; rfl
theorem d_M_put_45 : decode c_M_put 45 = .ok (.iadd, 1) := by decide +kernel
theorem e_M_put_45 : q_M_put S (f + 1) 45 L (.int y :: .int x :: st) h = (q_M_put S f 46 L (.int (x + y) :: st) h) := by rw [q_M_put, hz_w_at d_M_put_45]; rfl
theorem d_M_put_46 : decode c_M_put 46 = .ok (.putfield 224, 3) := by decide +kernel
theorem e_M_put_46 : q_M_put S (f + 1) 46 L (.int x :: .ref i :: st) h = (hz_wr h i 5 3 (.int x) fun h => q_M_put S f 49 L st h) := by rw [q_M_put, hz_w_at d_M_put_46]; rfl
theorem d_M_put_49 : decode c_M_put 49 = .ok (.return_, 1) := by decide +kernel
theorem e_M_put_49 : q_M_put S (f + 1) 49 L st h = (S 49 L st h) := by rw [q_M_put, hz_w_at d_M_put_49]; rfl
end
abbrev q_M_writePair (S : Nat → List (Option Value) → List Value → hz_H → Prop) := hz_w zCl zKT f_M n_M c_M_writePair [] S
section
variable {S : Nat → List (Option Value) → List Value → hz_H → Prop} {f : Nat} {L : List (Option Value)} {st : List Value} {h : hz_H} {x y : Int32} {i j : Nat} {X Y : Int64}
theorem d_M_writePair_0 : decode c_M_writePair 0 = .ok (.aload_n 0, 1) := by decide +kernel
theorem e_M_writePair_0 {a1 : Option Value} : q_M_writePair S (f + 1) 0 [some (.ref i), a1] st h = (q_M_writePair S f 1 [some (.ref i), a1] (.ref i :: st) h) := by rw [q_M_writePair, hz_w_at d_M_writePair_0]; rfl
theorem e_M_writePair_0n {a1 : Option Value} : q_M_writePair S (f + 1) 0 [some .null, a1] st h = (q_M_writePair S f 1 [some .null, a1] (.null :: st) h) := by rw [q_M_writePair, hz_w_at d_M_writePair_0]; rfl
theorem d_M_writePair_1 : decode c_M_writePair 1 = .ok (.getfield 177, 3) := by decide +kernel
theorem e_M_writePair_1 : q_M_writePair S (f + 1) 1 L (.ref i :: st) h = (hz_rd h i 5 34 fun v => q_M_writePair S f 4 L (v :: st) h) := by rw [q_M_writePair, hz_w_at d_M_writePair_1]; rfl
theorem d_M_writePair_4 : decode c_M_writePair 4 = .ok (.ifCond .ne 36, 3) := by decide +kernel
theorem e_M_writePair_4 : q_M_writePair S (f + 1) 4 L (.int x :: st) h = ((¬ x.toInt = 0 → q_M_writePair S f 40 L st h) ∧ (¬ (¬ x.toInt = 0) → q_M_writePair S f 7 L st h)) := by rw [q_M_writePair, hz_w_at d_M_writePair_4]; rfl
theorem d_M_writePair_7 : decode c_M_writePair 7 = .ok (.aload_n 0, 1) := by decide +kernel
theorem e_M_writePair_7 {a1 : Option Value} : q_M_writePair S (f + 1) 7 [some (.ref i), a1] st h = (q_M_writePair S f 8 [some (.ref i), a1] (.ref i :: st) h) := by rw [q_M_writePair, hz_w_at d_M_writePair_7]; rfl
theorem e_M_writePair_7n {a1 : Option Value} : q_M_writePair S (f + 1) 7 [some .null, a1] st h = (q_M_writePair S f 8 [some .null, a1] (.null :: st) h) := by rw [q_M_writePair, hz_w_at d_M_writePair_7]; rfl
theorem d_M_writePair_8 : decode c_M_writePair 8 = .ok (.bipush 8, 2) := by decide +kernel
theorem e_M_writePair_8 : q_M_writePair S (f + 1) 8 L st h = (q_M_writePair S f 10 L (.int (hz_n 8) :: st) h) := by rw [q_M_writePair, hz_w_at d_M_writePair_8]; rfl
theorem d_M_writePair_10 : decode c_M_writePair 10 = .ok (.iconst 0, 1) := by decide +kernel
theorem e_M_writePair_10 : q_M_writePair S (f + 1) 10 L st h = (q_M_writePair S f 11 L (.int (hz_n 0) :: st) h) := by rw [q_M_writePair, hz_w_at d_M_writePair_10]; rfl
theorem d_M_writePair_11 : decode c_M_writePair 11 = .ok (.aload_n 0, 1) := by decide +kernel
theorem e_M_writePair_11 {a1 : Option Value} : q_M_writePair S (f + 1) 11 [some (.ref i), a1] st h = (q_M_writePair S f 12 [some (.ref i), a1] (.ref i :: st) h) := by rw [q_M_writePair, hz_w_at d_M_writePair_11]; rfl
theorem e_M_writePair_11n {a1 : Option Value} : q_M_writePair S (f + 1) 11 [some .null, a1] st h = (q_M_writePair S f 12 [some .null, a1] (.null :: st) h) := by rw [q_M_writePair, hz_w_at d_M_writePair_11]; rfl
theorem d_M_writePair_12 : decode c_M_writePair 12 = .ok (.getfield 62, 3) := by decide +kernel
theorem e_M_writePair_12 : q_M_writePair S (f + 1) 12 L (.ref i :: st) h = (hz_rd h i 5 24 fun v => q_M_writePair S f 15 L (v :: st) h) := by rw [q_M_writePair, hz_w_at d_M_writePair_12]; rfl
theorem d_M_writePair_15 : decode c_M_writePair 15 = .ok (.iload_n 1, 1) := by decide +kernel
theorem e_M_writePair_15 {a0 : Option Value} : q_M_writePair S (f + 1) 15 [a0, some (.int x)] st h = (q_M_writePair S f 16 [a0, some (.int x)] (.int x :: st) h) := by rw [q_M_writePair, hz_w_at d_M_writePair_15]; rfl
theorem d_M_writePair_16 : decode c_M_writePair 16 = .ok (.iconst 1, 1) := by decide +kernel
theorem e_M_writePair_16 : q_M_writePair S (f + 1) 16 L st h = (q_M_writePair S f 17 L (.int (hz_n 1) :: st) h) := by rw [q_M_writePair, hz_w_at d_M_writePair_16]; rfl
theorem d_M_writePair_17 : decode c_M_writePair 17 = .ok (.iadd, 1) := by decide +kernel
theorem e_M_writePair_17 : q_M_writePair S (f + 1) 17 L (.int y :: .int x :: st) h = (q_M_writePair S f 18 L (.int (x + y) :: st) h) := by rw [q_M_writePair, hz_w_at d_M_writePair_17]; rfl
theorem d_M_writePair_18 : decode c_M_writePair 18 = .ok (.iaload, 1) := by decide +kernel
theorem e_M_writePair_18 : q_M_writePair S (f + 1) 18 L (.int x :: .ref i :: st) h = (hz_ea zKT hz_kI h i x fun v => q_M_writePair S f 19 L (v :: st) h) := by rw [q_M_writePair, hz_w_at d_M_writePair_18]; rfl
theorem d_M_writePair_19 : decode c_M_writePair 19 = .ok (.invokevirtual 190, 3) := by decide +kernel
theorem e_M_writePair_19 : q_M_writePair S (f + 1) 19 L st h = (S 19 L st h) := by rw [q_M_writePair, hz_w_at d_M_writePair_19]; rfl
theorem d_M_writePair_22 : decode c_M_writePair 22 = .ok (.aload_n 0, 1) := by decide +kernel
theorem e_M_writePair_22 {a1 : Option Value} : q_M_writePair S (f + 1) 22 [some (.ref i), a1] st h = (q_M_writePair S f 23 [some (.ref i), a1] (.ref i :: st) h) := by rw [q_M_writePair, hz_w_at d_M_writePair_22]; rfl
theorem e_M_writePair_22n {a1 : Option Value} : q_M_writePair S (f + 1) 22 [some .null, a1] st h = (q_M_writePair S f 23 [some .null, a1] (.null :: st) h) := by rw [q_M_writePair, hz_w_at d_M_writePair_22]; rfl
theorem d_M_writePair_23 : decode c_M_writePair 23 = .ok (.bipush 7, 2) := by decide +kernel
theorem e_M_writePair_23 : q_M_writePair S (f + 1) 23 L st h = (q_M_writePair S f 25 L (.int (hz_n 7) :: st) h) := by rw [q_M_writePair, hz_w_at d_M_writePair_23]; rfl
theorem d_M_writePair_25 : decode c_M_writePair 25 = .ok (.iconst 0, 1) := by decide +kernel
theorem e_M_writePair_25 : q_M_writePair S (f + 1) 25 L st h = (q_M_writePair S f 26 L (.int (hz_n 0) :: st) h) := by rw [q_M_writePair, hz_w_at d_M_writePair_25]; rfl
theorem d_M_writePair_26 : decode c_M_writePair 26 = .ok (.iconst 0, 1) := by decide +kernel
theorem e_M_writePair_26 : q_M_writePair S (f + 1) 26 L st h = (q_M_writePair S f 27 L (.int (hz_n 0) :: st) h) := by rw [q_M_writePair, hz_w_at d_M_writePair_26]; rfl
theorem d_M_writePair_27 : decode c_M_writePair 27 = .ok (.invokevirtual 190, 3) := by decide +kernel
theorem e_M_writePair_27 : q_M_writePair S (f + 1) 27 L st h = (S 27 L st h) := by rw [q_M_writePair, hz_w_at d_M_writePair_27]; rfl
theorem d_M_writePair_30 : decode c_M_writePair 30 = .ok (.aload_n 0, 1) := by decide +kernel
theorem e_M_writePair_30 {a1 : Option Value} : q_M_writePair S (f + 1) 30 [some (.ref i), a1] st h = (q_M_writePair S f 31 [some (.ref i), a1] (.ref i :: st) h) := by rw [q_M_writePair, hz_w_at d_M_writePair_30]; rfl
theorem e_M_writePair_30n {a1 : Option Value} : q_M_writePair S (f + 1) 30 [some .null, a1] st h = (q_M_writePair S f 31 [some .null, a1] (.null :: st) h) := by rw [q_M_writePair, hz_w_at d_M_writePair_30]; rfl
theorem d_M_writePair_31 : decode c_M_writePair 31 = .ok (.aload_n 0, 1) := by decide +kernel
theorem e_M_writePair_31 {a1 : Option Value} : q_M_writePair S (f + 1) 31 [some (.ref i), a1] st h = (q_M_writePair S f 32 [some (.ref i), a1] (.ref i :: st) h) := by rw [q_M_writePair, hz_w_at d_M_writePair_31]; rfl
theorem e_M_writePair_31n {a1 : Option Value} : q_M_writePair S (f + 1) 31 [some .null, a1] st h = (q_M_writePair S f 32 [some .null, a1] (.null :: st) h) := by rw [q_M_writePair, hz_w_at d_M_writePair_31]; rfl
theorem d_M_writePair_32 : decode c_M_writePair 32 = .ok (.getfield 62, 3) := by decide +kernel
theorem e_M_writePair_32 : q_M_writePair S (f + 1) 32 L (.ref i :: st) h = (hz_rd h i 5 24 fun v => q_M_writePair S f 35 L (v :: st) h) := by rw [q_M_writePair, hz_w_at d_M_writePair_32]; rfl
theorem d_M_writePair_35 : decode c_M_writePair 35 = .ok (.iload_n 1, 1) := by decide +kernel
theorem e_M_writePair_35 {a0 : Option Value} : q_M_writePair S (f + 1) 35 [a0, some (.int x)] st h = (q_M_writePair S f 36 [a0, some (.int x)] (.int x :: st) h) := by rw [q_M_writePair, hz_w_at d_M_writePair_35]; rfl
theorem d_M_writePair_36 : decode c_M_writePair 36 = .ok (.iaload, 1) := by decide +kernel
theorem e_M_writePair_36 : q_M_writePair S (f + 1) 36 L (.int x :: .ref i :: st) h = (hz_ea zKT hz_kI h i x fun v => q_M_writePair S f 37 L (v :: st) h) := by rw [q_M_writePair, hz_w_at d_M_writePair_36]; rfl
theorem d_M_writePair_37 : decode c_M_writePair 37 = .ok (.invokevirtual 208, 3) := by decide +kernel
theorem e_M_writePair_37 : q_M_writePair S (f + 1) 37 L st h = (S 37 L st h) := by rw [q_M_writePair, hz_w_at d_M_writePair_37]; rfl
theorem d_M_writePair_40 : decode c_M_writePair 40 = .ok (.return_, 1) := by decide +kernel
theorem e_M_writePair_40 : q_M_writePair S (f + 1) 40 L st h = (S 40 L st h) := by rw [q_M_writePair, hz_w_at d_M_writePair_40]; rfl
end
abbrev q_M_write (S : Nat → List (Option Value) → List Value → hz_H → Prop) := hz_w zCl zKT f_M n_M c_M_write [] S
section
variable {S : Nat → List (Option Value) → List Value → hz_H → Prop} {f : Nat} {L : List (Option Value)} {st : List Value} {h : hz_H} {x y : Int32} {i j : Nat} {X Y : Int64}
theorem d_M_write_0 : decode c_M_write 0 = .ok (.aload_n 0, 1) := by decide +kernel
theorem e_M_write_0 {a1 a2 : Option Value} : q_M_write S (f + 1) 0 [some (.ref i), a1, a2] st h = (q_M_write S f 1 [some (.ref i), a1, a2] (.ref i :: st) h) := by rw [q_M_write, hz_w_at d_M_write_0]; rfl
theorem e_M_write_0n {a1 a2 : Option Value} : q_M_write S (f + 1) 0 [some .null, a1, a2] st h = (q_M_write S f 1 [some .null, a1, a2] (.null :: st) h) := by rw [q_M_write, hz_w_at d_M_write_0]; rfl
theorem d_M_write_1 : decode c_M_write 1 = .ok (.getfield 165, 3) := by decide +kernel
theorem e_M_write_1 : q_M_write S (f + 1) 1 L (.ref i :: st) h = (hz_rd h i 5 37 fun v => q_M_write S f 4 L (v :: st) h) := by rw [q_M_write, hz_w_at d_M_write_1]; rfl
theorem d_M_write_4 : decode c_M_write 4 = .ok (.istore_n 1, 1) := by decide +kernel
theorem e_M_write_4 {a0 a1 a2 : Option Value} : q_M_write S (f + 1) 4 [a0, a1, a2] (.int x :: st) h = (q_M_write S f 5 [a0, some (.int x), a2] st h) := by rw [q_M_write, hz_w_at d_M_write_4]; rfl
theorem d_M_write_5 : decode c_M_write 5 = .ok (.aload_n 0, 1) := by decide +kernel
theorem e_M_write_5 {a1 a2 : Option Value} : q_M_write S (f + 1) 5 [some (.ref i), a1, a2] st h = (q_M_write S f 6 [some (.ref i), a1, a2] (.ref i :: st) h) := by rw [q_M_write, hz_w_at d_M_write_5]; rfl
theorem e_M_write_5n {a1 a2 : Option Value} : q_M_write S (f + 1) 5 [some .null, a1, a2] st h = (q_M_write S f 6 [some .null, a1, a2] (.null :: st) h) := by rw [q_M_write, hz_w_at d_M_write_5]; rfl
theorem d_M_write_6 : decode c_M_write 6 = .ok (.getfield 168, 3) := by decide +kernel
theorem e_M_write_6 : q_M_write S (f + 1) 6 L (.ref i :: st) h = (hz_rd h i 5 38 fun v => q_M_write S f 9 L (v :: st) h) := by rw [q_M_write, hz_w_at d_M_write_6]; rfl
theorem d_M_write_9 : decode c_M_write 9 = .ok (.istore_n 2, 1) := by decide +kernel
theorem e_M_write_9 {a0 a1 a2 : Option Value} : q_M_write S (f + 1) 9 [a0, a1, a2] (.int x :: st) h = (q_M_write S f 10 [a0, a1, some (.int x)] st h) := by rw [q_M_write, hz_w_at d_M_write_9]; rfl
theorem d_M_write_10 : decode c_M_write 10 = .ok (.aload_n 0, 1) := by decide +kernel
theorem e_M_write_10 {a1 a2 : Option Value} : q_M_write S (f + 1) 10 [some (.ref i), a1, a2] st h = (q_M_write S f 11 [some (.ref i), a1, a2] (.ref i :: st) h) := by rw [q_M_write, hz_w_at d_M_write_10]; rfl
theorem e_M_write_10n {a1 a2 : Option Value} : q_M_write S (f + 1) 10 [some .null, a1, a2] st h = (q_M_write S f 11 [some .null, a1, a2] (.null :: st) h) := by rw [q_M_write, hz_w_at d_M_write_10]; rfl
theorem d_M_write_11 : decode c_M_write 11 = .ok (.invokevirtual 232, 3) := by decide +kernel
theorem e_M_write_11 : q_M_write S (f + 1) 11 L st h = (S 11 L st h) := by rw [q_M_write, hz_w_at d_M_write_11]; rfl
theorem d_M_write_14 : decode c_M_write 14 = .ok (.iload_n 1, 1) := by decide +kernel
theorem e_M_write_14 {a0 a2 : Option Value} : q_M_write S (f + 1) 14 [a0, some (.int x), a2] st h = (q_M_write S f 15 [a0, some (.int x), a2] (.int x :: st) h) := by rw [q_M_write, hz_w_at d_M_write_14]; rfl
theorem d_M_write_15 : decode c_M_write 15 = .ok (.ifCond .ne 11, 3) := by decide +kernel
theorem e_M_write_15 : q_M_write S (f + 1) 15 L (.int x :: st) h = ((¬ x.toInt = 0 → q_M_write S f 26 L st h) ∧ (¬ (¬ x.toInt = 0) → q_M_write S f 18 L st h)) := by rw [q_M_write, hz_w_at d_M_write_15]; rfl
theorem d_M_write_18 : decode c_M_write 18 = .ok (.aload_n 0, 1) := by decide +kernel
theorem e_M_write_18 {a1 a2 : Option Value} : q_M_write S (f + 1) 18 [some (.ref i), a1, a2] st h = (q_M_write S f 19 [some (.ref i), a1, a2] (.ref i :: st) h) := by rw [q_M_write, hz_w_at d_M_write_18]; rfl
theorem e_M_write_18n {a1 a2 : Option Value} : q_M_write S (f + 1) 18 [some .null, a1, a2] st h = (q_M_write S f 19 [some .null, a1, a2] (.null :: st) h) := by rw [q_M_write, hz_w_at d_M_write_18]; rfl
theorem d_M_write_19 : decode c_M_write 19 = .ok (.iload_n 2, 1) := by decide +kernel
theorem e_M_write_19 {a0 a1 : Option Value} : q_M_write S (f + 1) 19 [a0, a1, some (.int x)] st h = (q_M_write S f 20 [a0, a1, some (.int x)] (.int x :: st) h) := by rw [q_M_write, hz_w_at d_M_write_19]; rfl
theorem d_M_write_20 : decode c_M_write 20 = .ok (.invokevirtual 235, 3) := by decide +kernel
theorem e_M_write_20 : q_M_write S (f + 1) 20 L st h = (S 20 L st h) := by rw [q_M_write, hz_w_at d_M_write_20]; rfl
theorem d_M_write_23 : decode c_M_write 23 = .ok (.goto 42, 3) := by decide +kernel
theorem e_M_write_23 : q_M_write S (f + 1) 23 L st h = (q_M_write S f 65 L st h) := by rw [q_M_write, hz_w_at d_M_write_23]; rfl
theorem d_M_write_26 : decode c_M_write 26 = .ok (.iload_n 1, 1) := by decide +kernel
theorem e_M_write_26 {a0 a2 : Option Value} : q_M_write S (f + 1) 26 [a0, some (.int x), a2] st h = (q_M_write S f 27 [a0, some (.int x), a2] (.int x :: st) h) := by rw [q_M_write, hz_w_at d_M_write_26]; rfl
theorem d_M_write_27 : decode c_M_write 27 = .ok (.iconst 3, 1) := by decide +kernel
theorem e_M_write_27 : q_M_write S (f + 1) 27 L st h = (q_M_write S f 28 L (.int (hz_n 3) :: st) h) := by rw [q_M_write, hz_w_at d_M_write_27]; rfl
theorem d_M_write_28 : decode c_M_write 28 = .ok (.if_icmp .ne 12, 3) := by decide +kernel
theorem e_M_write_28 : q_M_write S (f + 1) 28 L (.int y :: .int x :: st) h = ((¬ x.toInt = y.toInt → q_M_write S f 40 L st h) ∧ (¬ (¬ x.toInt = y.toInt) → q_M_write S f 31 L st h)) := by rw [q_M_write, hz_w_at d_M_write_28]; rfl
theorem d_M_write_31 : decode c_M_write 31 = .ok (.aload_n 0, 1) := by decide +kernel
theorem e_M_write_31 {a1 a2 : Option Value} : q_M_write S (f + 1) 31 [some (.ref i), a1, a2] st h = (q_M_write S f 32 [some (.ref i), a1, a2] (.ref i :: st) h) := by rw [q_M_write, hz_w_at d_M_write_31]; rfl
theorem e_M_write_31n {a1 a2 : Option Value} : q_M_write S (f + 1) 31 [some .null, a1, a2] st h = (q_M_write S f 32 [some .null, a1, a2] (.null :: st) h) := by rw [q_M_write, hz_w_at d_M_write_31]; rfl
theorem d_M_write_32 : decode c_M_write 32 = .ok (.bipush 92, 2) := by decide +kernel
theorem e_M_write_32 : q_M_write S (f + 1) 32 L st h = (q_M_write S f 34 L (.int (hz_n 92) :: st) h) := by rw [q_M_write, hz_w_at d_M_write_32]; rfl
theorem d_M_write_34 : decode c_M_write 34 = .ok (.invokevirtual 227, 3) := by decide +kernel
theorem e_M_write_34 : q_M_write S (f + 1) 34 L st h = (S 34 L st h) := by rw [q_M_write, hz_w_at d_M_write_34]; rfl
theorem d_M_write_37 : decode c_M_write 37 = .ok (.goto 28, 3) := by decide +kernel
theorem e_M_write_37 : q_M_write S (f + 1) 37 L st h = (q_M_write S f 65 L st h) := by rw [q_M_write, hz_w_at d_M_write_37]; rfl
theorem d_M_write_40 : decode c_M_write 40 = .ok (.aload_n 0, 1) := by decide +kernel
theorem e_M_write_40 {a1 a2 : Option Value} : q_M_write S (f + 1) 40 [some (.ref i), a1, a2] st h = (q_M_write S f 41 [some (.ref i), a1, a2] (.ref i :: st) h) := by rw [q_M_write, hz_w_at d_M_write_40]; rfl
theorem e_M_write_40n {a1 a2 : Option Value} : q_M_write S (f + 1) 40 [some .null, a1, a2] st h = (q_M_write S f 41 [some .null, a1, a2] (.null :: st) h) := by rw [q_M_write, hz_w_at d_M_write_40]; rfl
theorem d_M_write_41 : decode c_M_write 41 = .ok (.bipush 91, 2) := by decide +kernel
theorem e_M_write_41 : q_M_write S (f + 1) 41 L st h = (q_M_write S f 43 L (.int (hz_n 91) :: st) h) := by rw [q_M_write, hz_w_at d_M_write_41]; rfl
theorem d_M_write_43 : decode c_M_write 43 = .ok (.invokevirtual 227, 3) := by decide +kernel
theorem e_M_write_43 : q_M_write S (f + 1) 43 L st h = (S 43 L st h) := by rw [q_M_write, hz_w_at d_M_write_43]; rfl
theorem d_M_write_46 : decode c_M_write 46 = .ok (.iload_n 1, 1) := by decide +kernel
theorem e_M_write_46 {a0 a2 : Option Value} : q_M_write S (f + 1) 46 [a0, some (.int x), a2] st h = (q_M_write S f 47 [a0, some (.int x), a2] (.int x :: st) h) := by rw [q_M_write, hz_w_at d_M_write_46]; rfl
theorem d_M_write_47 : decode c_M_write 47 = .ok (.iconst 1, 1) := by decide +kernel
theorem e_M_write_47 : q_M_write S (f + 1) 47 L st h = (q_M_write S f 48 L (.int (hz_n 1) :: st) h) := by rw [q_M_write, hz_w_at d_M_write_47]; rfl
theorem d_M_write_48 : decode c_M_write 48 = .ok (.if_icmp .ne 12, 3) := by decide +kernel
theorem e_M_write_48 : q_M_write S (f + 1) 48 L (.int y :: .int x :: st) h = ((¬ x.toInt = y.toInt → q_M_write S f 60 L st h) ∧ (¬ (¬ x.toInt = y.toInt) → q_M_write S f 51 L st h)) := by rw [q_M_write, hz_w_at d_M_write_48]; rfl
theorem d_M_write_51 : decode c_M_write 51 = .ok (.aload_n 0, 1) := by decide +kernel
theorem e_M_write_51 {a1 a2 : Option Value} : q_M_write S (f + 1) 51 [some (.ref i), a1, a2] st h = (q_M_write S f 52 [some (.ref i), a1, a2] (.ref i :: st) h) := by rw [q_M_write, hz_w_at d_M_write_51]; rfl
theorem e_M_write_51n {a1 a2 : Option Value} : q_M_write S (f + 1) 51 [some .null, a1, a2] st h = (q_M_write S f 52 [some .null, a1, a2] (.null :: st) h) := by rw [q_M_write, hz_w_at d_M_write_51]; rfl
theorem d_M_write_52 : decode c_M_write 52 = .ok (.bipush 93, 2) := by decide +kernel
theorem e_M_write_52 : q_M_write S (f + 1) 52 L st h = (q_M_write S f 54 L (.int (hz_n 93) :: st) h) := by rw [q_M_write, hz_w_at d_M_write_52]; rfl
theorem d_M_write_54 : decode c_M_write 54 = .ok (.invokevirtual 227, 3) := by decide +kernel
theorem e_M_write_54 : q_M_write S (f + 1) 54 L st h = (S 54 L st h) := by rw [q_M_write, hz_w_at d_M_write_54]; rfl
theorem d_M_write_57 : decode c_M_write 57 = .ok (.goto 8, 3) := by decide +kernel
theorem e_M_write_57 : q_M_write S (f + 1) 57 L st h = (q_M_write S f 65 L st h) := by rw [q_M_write, hz_w_at d_M_write_57]; rfl
theorem d_M_write_60 : decode c_M_write 60 = .ok (.aload_n 0, 1) := by decide +kernel
theorem e_M_write_60 {a1 a2 : Option Value} : q_M_write S (f + 1) 60 [some (.ref i), a1, a2] st h = (q_M_write S f 61 [some (.ref i), a1, a2] (.ref i :: st) h) := by rw [q_M_write, hz_w_at d_M_write_60]; rfl
theorem e_M_write_60n {a1 a2 : Option Value} : q_M_write S (f + 1) 60 [some .null, a1, a2] st h = (q_M_write S f 61 [some .null, a1, a2] (.null :: st) h) := by rw [q_M_write, hz_w_at d_M_write_60]; rfl
theorem d_M_write_61 : decode c_M_write 61 = .ok (.iload_n 2, 1) := by decide +kernel
theorem e_M_write_61 {a0 a1 : Option Value} : q_M_write S (f + 1) 61 [a0, a1, some (.int x)] st h = (q_M_write S f 62 [a0, a1, some (.int x)] (.int x :: st) h) := by rw [q_M_write, hz_w_at d_M_write_61]; rfl
theorem d_M_write_62 : decode c_M_write 62 = .ok (.invokevirtual 238, 3) := by decide +kernel
theorem e_M_write_62 : q_M_write S (f + 1) 62 L st h = (S 62 L st h) := by rw [q_M_write, hz_w_at d_M_write_62]; rfl
theorem d_M_write_65 : decode c_M_write 65 = .ok (.return_, 1) := by decide +kernel
theorem e_M_write_65 : q_M_write S (f + 1) 65 L st h = (S 65 L st h) := by rw [q_M_write, hz_w_at d_M_write_65]; rfl
end
abbrev q_M_tail (S : Nat → List (Option Value) → List Value → hz_H → Prop) := hz_w zCl zKT f_M n_M c_M_tail [] S
section
variable {S : Nat → List (Option Value) → List Value → hz_H → Prop} {f : Nat} {L : List (Option Value)} {st : List Value} {h : hz_H} {x y : Int32} {i j : Nat} {X Y : Int64}
theorem d_M_tail_0 : decode c_M_tail 0 = .ok (.aload_n 0, 1) := by decide +kernel
theorem e_M_tail_0 {a1 a2 : Option Value} : q_M_tail S (f + 1) 0 [some (.ref i), a1, a2] st h = (q_M_tail S f 1 [some (.ref i), a1, a2] (.ref i :: st) h) := by rw [q_M_tail, hz_w_at d_M_tail_0]; rfl
theorem e_M_tail_0n {a1 a2 : Option Value} : q_M_tail S (f + 1) 0 [some .null, a1, a2] st h = (q_M_tail S f 1 [some .null, a1, a2] (.null :: st) h) := by rw [q_M_tail, hz_w_at d_M_tail_0]; rfl
theorem d_M_tail_1 : decode c_M_tail 1 = .ok (.getfield 165, 3) := by decide +kernel
theorem e_M_tail_1 : q_M_tail S (f + 1) 1 L (.ref i :: st) h = (hz_rd h i 5 37 fun v => q_M_tail S f 4 L (v :: st) h) := by rw [q_M_tail, hz_w_at d_M_tail_1]; rfl
theorem d_M_tail_4 : decode c_M_tail 4 = .ok (.istore_n 1, 1) := by decide +kernel
theorem e_M_tail_4 {a0 a1 a2 : Option Value} : q_M_tail S (f + 1) 4 [a0, a1, a2] (.int x :: st) h = (q_M_tail S f 5 [a0, some (.int x), a2] st h) := by rw [q_M_tail, hz_w_at d_M_tail_4]; rfl
theorem d_M_tail_5 : decode c_M_tail 5 = .ok (.aload_n 0, 1) := by decide +kernel
theorem e_M_tail_5 {a1 a2 : Option Value} : q_M_tail S (f + 1) 5 [some (.ref i), a1, a2] st h = (q_M_tail S f 6 [some (.ref i), a1, a2] (.ref i :: st) h) := by rw [q_M_tail, hz_w_at d_M_tail_5]; rfl
theorem e_M_tail_5n {a1 a2 : Option Value} : q_M_tail S (f + 1) 5 [some .null, a1, a2] st h = (q_M_tail S f 6 [some .null, a1, a2] (.null :: st) h) := by rw [q_M_tail, hz_w_at d_M_tail_5]; rfl
theorem d_M_tail_6 : decode c_M_tail 6 = .ok (.getfield 168, 3) := by decide +kernel
theorem e_M_tail_6 : q_M_tail S (f + 1) 6 L (.ref i :: st) h = (hz_rd h i 5 38 fun v => q_M_tail S f 9 L (v :: st) h) := by rw [q_M_tail, hz_w_at d_M_tail_6]; rfl
theorem d_M_tail_9 : decode c_M_tail 9 = .ok (.istore_n 2, 1) := by decide +kernel
theorem e_M_tail_9 {a0 a1 a2 : Option Value} : q_M_tail S (f + 1) 9 [a0, a1, a2] (.int x :: st) h = (q_M_tail S f 10 [a0, a1, some (.int x)] st h) := by rw [q_M_tail, hz_w_at d_M_tail_9]; rfl
theorem d_M_tail_10 : decode c_M_tail 10 = .ok (.aload_n 0, 1) := by decide +kernel
theorem e_M_tail_10 {a1 a2 : Option Value} : q_M_tail S (f + 1) 10 [some (.ref i), a1, a2] st h = (q_M_tail S f 11 [some (.ref i), a1, a2] (.ref i :: st) h) := by rw [q_M_tail, hz_w_at d_M_tail_10]; rfl
theorem e_M_tail_10n {a1 a2 : Option Value} : q_M_tail S (f + 1) 10 [some .null, a1, a2] st h = (q_M_tail S f 11 [some .null, a1, a2] (.null :: st) h) := by rw [q_M_tail, hz_w_at d_M_tail_10]; rfl
theorem d_M_tail_11 : decode c_M_tail 11 = .ok (.invokevirtual 232, 3) := by decide +kernel
theorem e_M_tail_11 : q_M_tail S (f + 1) 11 L st h = (S 11 L st h) := by rw [q_M_tail, hz_w_at d_M_tail_11]; rfl
theorem d_M_tail_14 : decode c_M_tail 14 = .ok (.iload_n 1, 1) := by decide +kernel
theorem e_M_tail_14 {a0 a2 : Option Value} : q_M_tail S (f + 1) 14 [a0, some (.int x), a2] st h = (q_M_tail S f 15 [a0, some (.int x), a2] (.int x :: st) h) := by rw [q_M_tail, hz_w_at d_M_tail_14]; rfl
theorem d_M_tail_15 : decode c_M_tail 15 = .ok (.iconst 1, 1) := by decide +kernel
theorem e_M_tail_15 : q_M_tail S (f + 1) 15 L st h = (q_M_tail S f 16 L (.int (hz_n 1) :: st) h) := by rw [q_M_tail, hz_w_at d_M_tail_15]; rfl
theorem d_M_tail_16 : decode c_M_tail 16 = .ok (.if_icmp .ne 12, 3) := by decide +kernel
theorem e_M_tail_16 : q_M_tail S (f + 1) 16 L (.int y :: .int x :: st) h = ((¬ x.toInt = y.toInt → q_M_tail S f 28 L st h) ∧ (¬ (¬ x.toInt = y.toInt) → q_M_tail S f 19 L st h)) := by rw [q_M_tail, hz_w_at d_M_tail_16]; rfl
theorem d_M_tail_19 : decode c_M_tail 19 = .ok (.aload_n 0, 1) := by decide +kernel
theorem e_M_tail_19 {a1 a2 : Option Value} : q_M_tail S (f + 1) 19 [some (.ref i), a1, a2] st h = (q_M_tail S f 20 [some (.ref i), a1, a2] (.ref i :: st) h) := by rw [q_M_tail, hz_w_at d_M_tail_19]; rfl
theorem e_M_tail_19n {a1 a2 : Option Value} : q_M_tail S (f + 1) 19 [some .null, a1, a2] st h = (q_M_tail S f 20 [some .null, a1, a2] (.null :: st) h) := by rw [q_M_tail, hz_w_at d_M_tail_19]; rfl
theorem d_M_tail_20 : decode c_M_tail 20 = .ok (.bipush 93, 2) := by decide +kernel
theorem e_M_tail_20 : q_M_tail S (f + 1) 20 L st h = (q_M_tail S f 22 L (.int (hz_n 93) :: st) h) := by rw [q_M_tail, hz_w_at d_M_tail_20]; rfl
theorem d_M_tail_22 : decode c_M_tail 22 = .ok (.invokevirtual 227, 3) := by decide +kernel
theorem e_M_tail_22 : q_M_tail S (f + 1) 22 L st h = (S 22 L st h) := by rw [q_M_tail, hz_w_at d_M_tail_22]; rfl
theorem d_M_tail_25 : decode c_M_tail 25 = .ok (.goto 28, 3) := by decide +kernel
theorem e_M_tail_25 : q_M_tail S (f + 1) 25 L st h = (q_M_tail S f 53 L st h) := by rw [q_M_tail, hz_w_at d_M_tail_25]; rfl
theorem d_M_tail_28 : decode c_M_tail 28 = .ok (.iload_n 1, 1) := by decide +kernel
theorem e_M_tail_28 {a0 a2 : Option Value} : q_M_tail S (f + 1) 28 [a0, some (.int x), a2] st h = (q_M_tail S f 29 [a0, some (.int x), a2] (.int x :: st) h) := by rw [q_M_tail, hz_w_at d_M_tail_28]; rfl
theorem d_M_tail_29 : decode c_M_tail 29 = .ok (.iconst 2, 1) := by decide +kernel
theorem e_M_tail_29 : q_M_tail S (f + 1) 29 L st h = (q_M_tail S f 30 L (.int (hz_n 2) :: st) h) := by rw [q_M_tail, hz_w_at d_M_tail_29]; rfl
theorem d_M_tail_30 : decode c_M_tail 30 = .ok (.if_icmp .eq 12, 3) := by decide +kernel
theorem e_M_tail_30 : q_M_tail S (f + 1) 30 L (.int y :: .int x :: st) h = ((x.toInt = y.toInt → q_M_tail S f 42 L st h) ∧ (¬ (x.toInt = y.toInt) → q_M_tail S f 33 L st h)) := by rw [q_M_tail, hz_w_at d_M_tail_30]; rfl
theorem d_M_tail_33 : decode c_M_tail 33 = .ok (.aload_n 0, 1) := by decide +kernel
theorem e_M_tail_33 {a1 a2 : Option Value} : q_M_tail S (f + 1) 33 [some (.ref i), a1, a2] st h = (q_M_tail S f 34 [some (.ref i), a1, a2] (.ref i :: st) h) := by rw [q_M_tail, hz_w_at d_M_tail_33]; rfl
theorem e_M_tail_33n {a1 a2 : Option Value} : q_M_tail S (f + 1) 33 [some .null, a1, a2] st h = (q_M_tail S f 34 [some .null, a1, a2] (.null :: st) h) := by rw [q_M_tail, hz_w_at d_M_tail_33]; rfl
theorem d_M_tail_34 : decode c_M_tail 34 = .ok (.bipush (-3), 2) := by decide +kernel
theorem e_M_tail_34 : q_M_tail S (f + 1) 34 L st h = (q_M_tail S f 36 L (.int (hz_n (-3)) :: st) h) := by rw [q_M_tail, hz_w_at d_M_tail_34]; rfl
theorem d_M_tail_36 : decode c_M_tail 36 = .ok (.putfield 177, 3) := by decide +kernel
theorem e_M_tail_36 : q_M_tail S (f + 1) 36 L (.int x :: .ref i :: st) h = (hz_wr h i 5 34 (.int x) fun h => q_M_tail S f 39 L st h) := by rw [q_M_tail, hz_w_at d_M_tail_36]; rfl
theorem d_M_tail_39 : decode c_M_tail 39 = .ok (.goto 14, 3) := by decide +kernel
theorem e_M_tail_39 : q_M_tail S (f + 1) 39 L st h = (q_M_tail S f 53 L st h) := by rw [q_M_tail, hz_w_at d_M_tail_39]; rfl
theorem d_M_tail_42 : decode c_M_tail 42 = .ok (.aload_n 0, 1) := by decide +kernel
theorem e_M_tail_42 {a1 a2 : Option Value} : q_M_tail S (f + 1) 42 [some (.ref i), a1, a2] st h = (q_M_tail S f 43 [some (.ref i), a1, a2] (.ref i :: st) h) := by rw [q_M_tail, hz_w_at d_M_tail_42]; rfl
theorem e_M_tail_42n {a1 a2 : Option Value} : q_M_tail S (f + 1) 42 [some .null, a1, a2] st h = (q_M_tail S f 43 [some .null, a1, a2] (.null :: st) h) := by rw [q_M_tail, hz_w_at d_M_tail_42]; rfl
theorem d_M_tail_43 : decode c_M_tail 43 = .ok (.bipush 44, 2) := by decide +kernel
theorem e_M_tail_43 : q_M_tail S (f + 1) 43 L st h = (q_M_tail S f 45 L (.int (hz_n 44) :: st) h) := by rw [q_M_tail, hz_w_at d_M_tail_43]; rfl
theorem d_M_tail_45 : decode c_M_tail 45 = .ok (.invokevirtual 227, 3) := by decide +kernel
theorem e_M_tail_45 : q_M_tail S (f + 1) 45 L st h = (S 45 L st h) := by rw [q_M_tail, hz_w_at d_M_tail_45]; rfl
theorem d_M_tail_48 : decode c_M_tail 48 = .ok (.aload_n 0, 1) := by decide +kernel
theorem e_M_tail_48 {a1 a2 : Option Value} : q_M_tail S (f + 1) 48 [some (.ref i), a1, a2] st h = (q_M_tail S f 49 [some (.ref i), a1, a2] (.ref i :: st) h) := by rw [q_M_tail, hz_w_at d_M_tail_48]; rfl
theorem e_M_tail_48n {a1 a2 : Option Value} : q_M_tail S (f + 1) 48 [some .null, a1, a2] st h = (q_M_tail S f 49 [some .null, a1, a2] (.null :: st) h) := by rw [q_M_tail, hz_w_at d_M_tail_48]; rfl
theorem d_M_tail_49 : decode c_M_tail 49 = .ok (.iload_n 2, 1) := by decide +kernel
theorem e_M_tail_49 {a0 a1 : Option Value} : q_M_tail S (f + 1) 49 [a0, a1, some (.int x)] st h = (q_M_tail S f 50 [a0, a1, some (.int x)] (.int x :: st) h) := by rw [q_M_tail, hz_w_at d_M_tail_49]; rfl
theorem d_M_tail_50 : decode c_M_tail 50 = .ok (.invokevirtual 238, 3) := by decide +kernel
theorem e_M_tail_50 : q_M_tail S (f + 1) 50 L st h = (S 50 L st h) := by rw [q_M_tail, hz_w_at d_M_tail_50]; rfl
theorem d_M_tail_53 : decode c_M_tail 53 = .ok (.return_, 1) := by decide +kernel
theorem e_M_tail_53 : q_M_tail S (f + 1) 53 L st h = (S 53 L st h) := by rw [q_M_tail, hz_w_at d_M_tail_53]; rfl
end
abbrev q_M_goOn (S : Nat → List (Option Value) → List Value → hz_H → Prop) := hz_w zCl zKT f_M n_M c_M_goOn [] S
section
variable {S : Nat → List (Option Value) → List Value → hz_H → Prop} {f : Nat} {L : List (Option Value)} {st : List Value} {h : hz_H} {x y : Int32} {i j : Nat} {X Y : Int64}
theorem d_M_goOn_0 : decode c_M_goOn 0 = .ok (.aload_n 0, 1) := by decide +kernel
theorem e_M_goOn_0 {a1 a2 a3 : Option Value} : q_M_goOn S (f + 1) 0 [some (.ref i), a1, a2, a3] st h = (q_M_goOn S f 1 [some (.ref i), a1, a2, a3] (.ref i :: st) h) := by rw [q_M_goOn, hz_w_at d_M_goOn_0]; rfl
theorem e_M_goOn_0n {a1 a2 a3 : Option Value} : q_M_goOn S (f + 1) 0 [some .null, a1, a2, a3] st h = (q_M_goOn S f 1 [some .null, a1, a2, a3] (.null :: st) h) := by rw [q_M_goOn, hz_w_at d_M_goOn_0]; rfl
theorem d_M_goOn_1 : decode c_M_goOn 1 = .ok (.dup, 1) := by decide +kernel
theorem e_M_goOn_1 : q_M_goOn S (f + 1) 1 L (.ref i :: st) h = (q_M_goOn S f 2 L (.ref i :: .ref i :: st) h) := by rw [q_M_goOn, hz_w_at d_M_goOn_1]; rfl
theorem e_M_goOn_1i : q_M_goOn S (f + 1) 1 L (.int x :: st) h = (q_M_goOn S f 2 L (.int x :: .int x :: st) h) := by rw [q_M_goOn, hz_w_at d_M_goOn_1]; rfl
theorem d_M_goOn_2 : decode c_M_goOn 2 = .ok (.getfield 156, 3) := by decide +kernel
theorem e_M_goOn_2 : q_M_goOn S (f + 1) 2 L (.ref i :: st) h = (hz_rd h i 5 29 fun v => q_M_goOn S f 5 L (v :: st) h) := by rw [q_M_goOn, hz_w_at d_M_goOn_2]; rfl
theorem d_M_goOn_5 : decode c_M_goOn 5 = .ok (.iconst 1, 1) := by decide +kernel
theorem e_M_goOn_5 : q_M_goOn S (f + 1) 5 L st h = (q_M_goOn S f 6 L (.int (hz_n 1) :: st) h) := by rw [q_M_goOn, hz_w_at d_M_goOn_5]; rfl
theorem d_M_goOn_6 : decode c_M_goOn 6 = .ok (.isub, 1) := by decide +kernel
theorem e_M_goOn_6 : q_M_goOn S (f + 1) 6 L (.int y :: .int x :: st) h = (q_M_goOn S f 7 L (.int (x - y) :: st) h) := by rw [q_M_goOn, hz_w_at d_M_goOn_6]; rfl
theorem d_M_goOn_7 : decode c_M_goOn 7 = .ok (.putfield 156, 3) := by decide +kernel
theorem e_M_goOn_7 : q_M_goOn S (f + 1) 7 L (.int x :: .ref i :: st) h = (hz_wr h i 5 29 (.int x) fun h => q_M_goOn S f 10 L st h) := by rw [q_M_goOn, hz_w_at d_M_goOn_7]; rfl
theorem d_M_goOn_10 : decode c_M_goOn 10 = .ok (.aload_n 0, 1) := by decide +kernel
theorem e_M_goOn_10 {a1 a2 a3 : Option Value} : q_M_goOn S (f + 1) 10 [some (.ref i), a1, a2, a3] st h = (q_M_goOn S f 11 [some (.ref i), a1, a2, a3] (.ref i :: st) h) := by rw [q_M_goOn, hz_w_at d_M_goOn_10]; rfl
theorem e_M_goOn_10n {a1 a2 a3 : Option Value} : q_M_goOn S (f + 1) 10 [some .null, a1, a2, a3] st h = (q_M_goOn S f 11 [some .null, a1, a2, a3] (.null :: st) h) := by rw [q_M_goOn, hz_w_at d_M_goOn_10]; rfl
theorem d_M_goOn_11 : decode c_M_goOn 11 = .ok (.getfield 74, 3) := by decide +kernel
theorem e_M_goOn_11 : q_M_goOn S (f + 1) 11 L (.ref i :: st) h = (hz_rd h i 5 30 fun v => q_M_goOn S f 14 L (v :: st) h) := by rw [q_M_goOn, hz_w_at d_M_goOn_11]; rfl
theorem d_M_goOn_14 : decode c_M_goOn 14 = .ok (.aload_n 0, 1) := by decide +kernel
theorem e_M_goOn_14 {a1 a2 a3 : Option Value} : q_M_goOn S (f + 1) 14 [some (.ref i), a1, a2, a3] st h = (q_M_goOn S f 15 [some (.ref i), a1, a2, a3] (.ref i :: st) h) := by rw [q_M_goOn, hz_w_at d_M_goOn_14]; rfl
theorem e_M_goOn_14n {a1 a2 a3 : Option Value} : q_M_goOn S (f + 1) 14 [some .null, a1, a2, a3] st h = (q_M_goOn S f 15 [some .null, a1, a2, a3] (.null :: st) h) := by rw [q_M_goOn, hz_w_at d_M_goOn_14]; rfl
theorem d_M_goOn_15 : decode c_M_goOn 15 = .ok (.getfield 156, 3) := by decide +kernel
theorem e_M_goOn_15 : q_M_goOn S (f + 1) 15 L (.ref i :: st) h = (hz_rd h i 5 29 fun v => q_M_goOn S f 18 L (v :: st) h) := by rw [q_M_goOn, hz_w_at d_M_goOn_15]; rfl
theorem d_M_goOn_18 : decode c_M_goOn 18 = .ok (.iaload, 1) := by decide +kernel
theorem e_M_goOn_18 : q_M_goOn S (f + 1) 18 L (.int x :: .ref i :: st) h = (hz_ea zKT hz_kI h i x fun v => q_M_goOn S f 19 L (v :: st) h) := by rw [q_M_goOn, hz_w_at d_M_goOn_18]; rfl
theorem d_M_goOn_19 : decode c_M_goOn 19 = .ok (.sipush 4096, 3) := by decide +kernel
theorem e_M_goOn_19 : q_M_goOn S (f + 1) 19 L st h = (q_M_goOn S f 22 L (.int (hz_n 4096) :: st) h) := by rw [q_M_goOn, hz_w_at d_M_goOn_19]; rfl
theorem d_M_goOn_22 : decode c_M_goOn 22 = .ok (.idiv, 1) := by decide +kernel
theorem e_M_goOn_22 : q_M_goOn S (f + 1) 22 L (.int y :: .int x :: st) h = (¬ y.toInt = 0 ∧ q_M_goOn S f 23 L (.int (x / y) :: st) h) := by rw [q_M_goOn, hz_w_at d_M_goOn_22]; rfl
theorem d_M_goOn_23 : decode c_M_goOn 23 = .ok (.istore_n 1, 1) := by decide +kernel
theorem e_M_goOn_23 {a0 a1 a2 a3 : Option Value} : q_M_goOn S (f + 1) 23 [a0, a1, a2, a3] (.int x :: st) h = (q_M_goOn S f 24 [a0, some (.int x), a2, a3] st h) := by rw [q_M_goOn, hz_w_at d_M_goOn_23]; rfl
theorem d_M_goOn_24 : decode c_M_goOn 24 = .ok (.aload_n 0, 1) := by decide +kernel
theorem e_M_goOn_24 {a1 a2 a3 : Option Value} : q_M_goOn S (f + 1) 24 [some (.ref i), a1, a2, a3] st h = (q_M_goOn S f 25 [some (.ref i), a1, a2, a3] (.ref i :: st) h) := by rw [q_M_goOn, hz_w_at d_M_goOn_24]; rfl
theorem e_M_goOn_24n {a1 a2 a3 : Option Value} : q_M_goOn S (f + 1) 24 [some .null, a1, a2, a3] st h = (q_M_goOn S f 25 [some .null, a1, a2, a3] (.null :: st) h) := by rw [q_M_goOn, hz_w_at d_M_goOn_24]; rfl
theorem d_M_goOn_25 : decode c_M_goOn 25 = .ok (.getfield 74, 3) := by decide +kernel
theorem e_M_goOn_25 : q_M_goOn S (f + 1) 25 L (.ref i :: st) h = (hz_rd h i 5 30 fun v => q_M_goOn S f 28 L (v :: st) h) := by rw [q_M_goOn, hz_w_at d_M_goOn_25]; rfl
theorem d_M_goOn_28 : decode c_M_goOn 28 = .ok (.aload_n 0, 1) := by decide +kernel
theorem e_M_goOn_28 {a1 a2 a3 : Option Value} : q_M_goOn S (f + 1) 28 [some (.ref i), a1, a2, a3] st h = (q_M_goOn S f 29 [some (.ref i), a1, a2, a3] (.ref i :: st) h) := by rw [q_M_goOn, hz_w_at d_M_goOn_28]; rfl
theorem e_M_goOn_28n {a1 a2 a3 : Option Value} : q_M_goOn S (f + 1) 28 [some .null, a1, a2, a3] st h = (q_M_goOn S f 29 [some .null, a1, a2, a3] (.null :: st) h) := by rw [q_M_goOn, hz_w_at d_M_goOn_28]; rfl
theorem d_M_goOn_29 : decode c_M_goOn 29 = .ok (.getfield 156, 3) := by decide +kernel
theorem e_M_goOn_29 : q_M_goOn S (f + 1) 29 L (.ref i :: st) h = (hz_rd h i 5 29 fun v => q_M_goOn S f 32 L (v :: st) h) := by rw [q_M_goOn, hz_w_at d_M_goOn_29]; rfl
theorem d_M_goOn_32 : decode c_M_goOn 32 = .ok (.iaload, 1) := by decide +kernel
theorem e_M_goOn_32 : q_M_goOn S (f + 1) 32 L (.int x :: .ref i :: st) h = (hz_ea zKT hz_kI h i x fun v => q_M_goOn S f 33 L (v :: st) h) := by rw [q_M_goOn, hz_w_at d_M_goOn_32]; rfl
theorem d_M_goOn_33 : decode c_M_goOn 33 = .ok (.sipush 4096, 3) := by decide +kernel
theorem e_M_goOn_33 : q_M_goOn S (f + 1) 33 L st h = (q_M_goOn S f 36 L (.int (hz_n 4096) :: st) h) := by rw [q_M_goOn, hz_w_at d_M_goOn_33]; rfl
theorem d_M_goOn_36 : decode c_M_goOn 36 = .ok (.irem, 1) := by decide +kernel
theorem e_M_goOn_36 : q_M_goOn S (f + 1) 36 L (.int y :: .int x :: st) h = (¬ y.toInt = 0 ∧ q_M_goOn S f 37 L (.int (x - x / y * y) :: st) h) := by rw [q_M_goOn, hz_w_at d_M_goOn_36]; rfl
theorem d_M_goOn_37 : decode c_M_goOn 37 = .ok (.istore_n 2, 1) := by decide +kernel
theorem e_M_goOn_37 {a0 a1 a2 a3 : Option Value} : q_M_goOn S (f + 1) 37 [a0, a1, a2, a3] (.int x :: st) h = (q_M_goOn S f 38 [a0, a1, some (.int x), a3] st h) := by rw [q_M_goOn, hz_w_at d_M_goOn_37]; rfl
theorem d_M_goOn_38 : decode c_M_goOn 38 = .ok (.aload_n 0, 1) := by decide +kernel
theorem e_M_goOn_38 {a1 a2 a3 : Option Value} : q_M_goOn S (f + 1) 38 [some (.ref i), a1, a2, a3] st h = (q_M_goOn S f 39 [some (.ref i), a1, a2, a3] (.ref i :: st) h) := by rw [q_M_goOn, hz_w_at d_M_goOn_38]; rfl
theorem e_M_goOn_38n {a1 a2 a3 : Option Value} : q_M_goOn S (f + 1) 38 [some .null, a1, a2, a3] st h = (q_M_goOn S f 39 [some .null, a1, a2, a3] (.null :: st) h) := by rw [q_M_goOn, hz_w_at d_M_goOn_38]; rfl
theorem d_M_goOn_39 : decode c_M_goOn 39 = .ok (.getfield 77, 3) := by decide +kernel
theorem e_M_goOn_39 : q_M_goOn S (f + 1) 39 L (.ref i :: st) h = (hz_rd h i 5 31 fun v => q_M_goOn S f 42 L (v :: st) h) := by rw [q_M_goOn, hz_w_at d_M_goOn_39]; rfl
theorem d_M_goOn_42 : decode c_M_goOn 42 = .ok (.aload_n 0, 1) := by decide +kernel
theorem e_M_goOn_42 {a1 a2 a3 : Option Value} : q_M_goOn S (f + 1) 42 [some (.ref i), a1, a2, a3] st h = (q_M_goOn S f 43 [some (.ref i), a1, a2, a3] (.ref i :: st) h) := by rw [q_M_goOn, hz_w_at d_M_goOn_42]; rfl
theorem e_M_goOn_42n {a1 a2 a3 : Option Value} : q_M_goOn S (f + 1) 42 [some .null, a1, a2, a3] st h = (q_M_goOn S f 43 [some .null, a1, a2, a3] (.null :: st) h) := by rw [q_M_goOn, hz_w_at d_M_goOn_42]; rfl
theorem d_M_goOn_43 : decode c_M_goOn 43 = .ok (.getfield 156, 3) := by decide +kernel
theorem e_M_goOn_43 : q_M_goOn S (f + 1) 43 L (.ref i :: st) h = (hz_rd h i 5 29 fun v => q_M_goOn S f 46 L (v :: st) h) := by rw [q_M_goOn, hz_w_at d_M_goOn_43]; rfl
theorem d_M_goOn_46 : decode c_M_goOn 46 = .ok (.iaload, 1) := by decide +kernel
theorem e_M_goOn_46 : q_M_goOn S (f + 1) 46 L (.int x :: .ref i :: st) h = (hz_ea zKT hz_kI h i x fun v => q_M_goOn S f 47 L (v :: st) h) := by rw [q_M_goOn, hz_w_at d_M_goOn_46]; rfl
theorem d_M_goOn_47 : decode c_M_goOn 47 = .ok (.istore_n 3, 1) := by decide +kernel
theorem e_M_goOn_47 {a0 a1 a2 a3 : Option Value} : q_M_goOn S (f + 1) 47 [a0, a1, a2, a3] (.int x :: st) h = (q_M_goOn S f 48 [a0, a1, a2, some (.int x)] st h) := by rw [q_M_goOn, hz_w_at d_M_goOn_47]; rfl
theorem d_M_goOn_48 : decode c_M_goOn 48 = .ok (.iload_n 1, 1) := by decide +kernel
theorem e_M_goOn_48 {a0 a2 a3 : Option Value} : q_M_goOn S (f + 1) 48 [a0, some (.int x), a2, a3] st h = (q_M_goOn S f 49 [a0, some (.int x), a2, a3] (.int x :: st) h) := by rw [q_M_goOn, hz_w_at d_M_goOn_48]; rfl
theorem d_M_goOn_49 : decode c_M_goOn 49 = .ok (.tableswitch 147 1 10 #[55, 80, 147, 147, 147, 108, 117, 124, 140, 90], 55) := by decide +kernel
theorem e_M_goOn_49 : q_M_goOn S (f + 1) 49 L (.int x :: st) h = (((x.toInt < 1 ∨ 10 < x.toInt) → q_M_goOn S f 196 L st h) ∧ (x.toInt = 1 → q_M_goOn S f 104 L st h) ∧ (x.toInt = 2 → q_M_goOn S f 129 L st h) ∧ (x.toInt = 3 → q_M_goOn S f 196 L st h) ∧ (x.toInt = 4 → q_M_goOn S f 196 L st h) ∧ (x.toInt = 5 → q_M_goOn S f 196 L st h) ∧ (x.toInt = 6 → q_M_goOn S f 157 L st h) ∧ (x.toInt = 7 → q_M_goOn S f 166 L st h) ∧ (x.toInt = 8 → q_M_goOn S f 173 L st h) ∧ (x.toInt = 9 → q_M_goOn S f 189 L st h) ∧ (x.toInt = 10 → q_M_goOn S f 139 L st h) ∧ True) := by rw [q_M_goOn, hz_w_at d_M_goOn_49]; rfl
theorem d_M_goOn_104 : decode c_M_goOn 104 = .ok (.aload_n 0, 1) := by decide +kernel
theorem e_M_goOn_104 {a1 a2 a3 : Option Value} : q_M_goOn S (f + 1) 104 [some (.ref i), a1, a2, a3] st h = (q_M_goOn S f 105 [some (.ref i), a1, a2, a3] (.ref i :: st) h) := by rw [q_M_goOn, hz_w_at d_M_goOn_104]; rfl
theorem e_M_goOn_104n {a1 a2 a3 : Option Value} : q_M_goOn S (f + 1) 104 [some .null, a1, a2, a3] st h = (q_M_goOn S f 105 [some .null, a1, a2, a3] (.null :: st) h) := by rw [q_M_goOn, hz_w_at d_M_goOn_104]; rfl
theorem d_M_goOn_105 : decode c_M_goOn 105 = .ok (.getfield 47, 3) := by decide +kernel
theorem e_M_goOn_105 : q_M_goOn S (f + 1) 105 L (.ref i :: st) h = (hz_rd h i 5 18 fun v => q_M_goOn S f 108 L (v :: st) h) := by rw [q_M_goOn, hz_w_at d_M_goOn_105]; rfl
theorem d_M_goOn_108 : decode c_M_goOn 108 = .ok (.iload_n 2, 1) := by decide +kernel
theorem e_M_goOn_108 {a0 a1 a3 : Option Value} : q_M_goOn S (f + 1) 108 [a0, a1, some (.int x), a3] st h = (q_M_goOn S f 109 [a0, a1, some (.int x), a3] (.int x :: st) h) := by rw [q_M_goOn, hz_w_at d_M_goOn_108]; rfl
theorem d_M_goOn_109 : decode c_M_goOn 109 = .ok (.iconst 2, 1) := by decide +kernel
theorem e_M_goOn_109 : q_M_goOn S (f + 1) 109 L st h = (q_M_goOn S f 110 L (.int (hz_n 2) :: st) h) := by rw [q_M_goOn, hz_w_at d_M_goOn_109]; rfl
theorem d_M_goOn_110 : decode c_M_goOn 110 = .ok (.aload_n 0, 1) := by decide +kernel
theorem e_M_goOn_110 {a1 a2 a3 : Option Value} : q_M_goOn S (f + 1) 110 [some (.ref i), a1, a2, a3] st h = (q_M_goOn S f 111 [some (.ref i), a1, a2, a3] (.ref i :: st) h) := by rw [q_M_goOn, hz_w_at d_M_goOn_110]; rfl
theorem e_M_goOn_110n {a1 a2 a3 : Option Value} : q_M_goOn S (f + 1) 110 [some .null, a1, a2, a3] st h = (q_M_goOn S f 111 [some .null, a1, a2, a3] (.null :: st) h) := by rw [q_M_goOn, hz_w_at d_M_goOn_110]; rfl
theorem d_M_goOn_111 : decode c_M_goOn 111 = .ok (.getfield 165, 3) := by decide +kernel
theorem e_M_goOn_111 : q_M_goOn S (f + 1) 111 L (.ref i :: st) h = (hz_rd h i 5 37 fun v => q_M_goOn S f 114 L (v :: st) h) := by rw [q_M_goOn, hz_w_at d_M_goOn_111]; rfl
theorem d_M_goOn_114 : decode c_M_goOn 114 = .ok (.iadd, 1) := by decide +kernel
theorem e_M_goOn_114 : q_M_goOn S (f + 1) 114 L (.int y :: .int x :: st) h = (q_M_goOn S f 115 L (.int (x + y) :: st) h) := by rw [q_M_goOn, hz_w_at d_M_goOn_114]; rfl
theorem d_M_goOn_115 : decode c_M_goOn 115 = .ok (.iastore, 1) := by decide +kernel
theorem e_M_goOn_115 : q_M_goOn S (f + 1) 115 L (.int y :: .int x :: .ref i :: st) h = (hz_es zKT hz_kI h i x (.int y) fun h => q_M_goOn S f 116 L st h) := by rw [q_M_goOn, hz_w_at d_M_goOn_115]; rfl
theorem d_M_goOn_116 : decode c_M_goOn 116 = .ok (.aload_n 0, 1) := by decide +kernel
theorem e_M_goOn_116 {a1 a2 a3 : Option Value} : q_M_goOn S (f + 1) 116 [some (.ref i), a1, a2, a3] st h = (q_M_goOn S f 117 [some (.ref i), a1, a2, a3] (.ref i :: st) h) := by rw [q_M_goOn, hz_w_at d_M_goOn_116]; rfl
theorem e_M_goOn_116n {a1 a2 a3 : Option Value} : q_M_goOn S (f + 1) 116 [some .null, a1, a2, a3] st h = (q_M_goOn S f 117 [some .null, a1, a2, a3] (.null :: st) h) := by rw [q_M_goOn, hz_w_at d_M_goOn_116]; rfl
theorem d_M_goOn_117 : decode c_M_goOn 117 = .ok (.getfield 56, 3) := by decide +kernel
theorem e_M_goOn_117 : q_M_goOn S (f + 1) 117 L (.ref i :: st) h = (hz_rd h i 5 21 fun v => q_M_goOn S f 120 L (v :: st) h) := by rw [q_M_goOn, hz_w_at d_M_goOn_117]; rfl
theorem d_M_goOn_120 : decode c_M_goOn 120 = .ok (.iload_n 2, 1) := by decide +kernel
theorem e_M_goOn_120 {a0 a1 a3 : Option Value} : q_M_goOn S (f + 1) 120 [a0, a1, some (.int x), a3] st h = (q_M_goOn S f 121 [a0, a1, some (.int x), a3] (.int x :: st) h) := by rw [q_M_goOn, hz_w_at d_M_goOn_120]; rfl
theorem d_M_goOn_121 : decode c_M_goOn 121 = .ok (.aload_n 0, 1) := by decide +kernel
theorem e_M_goOn_121 {a1 a2 a3 : Option Value} : q_M_goOn S (f + 1) 121 [some (.ref i), a1, a2, a3] st h = (q_M_goOn S f 122 [some (.ref i), a1, a2, a3] (.ref i :: st) h) := by rw [q_M_goOn, hz_w_at d_M_goOn_121]; rfl
theorem e_M_goOn_121n {a1 a2 a3 : Option Value} : q_M_goOn S (f + 1) 121 [some .null, a1, a2, a3] st h = (q_M_goOn S f 122 [some .null, a1, a2, a3] (.null :: st) h) := by rw [q_M_goOn, hz_w_at d_M_goOn_121]; rfl
theorem d_M_goOn_122 : decode c_M_goOn 122 = .ok (.getfield 168, 3) := by decide +kernel
theorem e_M_goOn_122 : q_M_goOn S (f + 1) 122 L (.ref i :: st) h = (hz_rd h i 5 38 fun v => q_M_goOn S f 125 L (v :: st) h) := by rw [q_M_goOn, hz_w_at d_M_goOn_122]; rfl
theorem d_M_goOn_125 : decode c_M_goOn 125 = .ok (.iastore, 1) := by decide +kernel
theorem e_M_goOn_125 : q_M_goOn S (f + 1) 125 L (.int y :: .int x :: .ref i :: st) h = (hz_es zKT hz_kI h i x (.int y) fun h => q_M_goOn S f 126 L st h) := by rw [q_M_goOn, hz_w_at d_M_goOn_125]; rfl
theorem d_M_goOn_126 : decode c_M_goOn 126 = .ok (.goto 77, 3) := by decide +kernel
theorem e_M_goOn_126 : q_M_goOn S (f + 1) 126 L st h = (q_M_goOn S f 203 L st h) := by rw [q_M_goOn, hz_w_at d_M_goOn_126]; rfl
theorem d_M_goOn_129 : decode c_M_goOn 129 = .ok (.aload_n 0, 1) := by decide +kernel
theorem e_M_goOn_129 {a1 a2 a3 : Option Value} : q_M_goOn S (f + 1) 129 [some (.ref i), a1, a2, a3] st h = (q_M_goOn S f 130 [some (.ref i), a1, a2, a3] (.ref i :: st) h) := by rw [q_M_goOn, hz_w_at d_M_goOn_129]; rfl
theorem e_M_goOn_129n {a1 a2 a3 : Option Value} : q_M_goOn S (f + 1) 129 [some .null, a1, a2, a3] st h = (q_M_goOn S f 130 [some .null, a1, a2, a3] (.null :: st) h) := by rw [q_M_goOn, hz_w_at d_M_goOn_129]; rfl
theorem d_M_goOn_130 : decode c_M_goOn 130 = .ok (.iload_n 2, 1) := by decide +kernel
theorem e_M_goOn_130 {a0 a1 a3 : Option Value} : q_M_goOn S (f + 1) 130 [a0, a1, some (.int x), a3] st h = (q_M_goOn S f 131 [a0, a1, some (.int x), a3] (.int x :: st) h) := by rw [q_M_goOn, hz_w_at d_M_goOn_130]; rfl
theorem d_M_goOn_131 : decode c_M_goOn 131 = .ok (.iconst 0, 1) := by decide +kernel
theorem e_M_goOn_131 : q_M_goOn S (f + 1) 131 L st h = (q_M_goOn S f 132 L (.int (hz_n 0) :: st) h) := by rw [q_M_goOn, hz_w_at d_M_goOn_131]; rfl
theorem d_M_goOn_132 : decode c_M_goOn 132 = .ok (.iload_n 3, 1) := by decide +kernel
theorem e_M_goOn_132 {a0 a1 a2 : Option Value} : q_M_goOn S (f + 1) 132 [a0, a1, a2, some (.int x)] st h = (q_M_goOn S f 133 [a0, a1, a2, some (.int x)] (.int x :: st) h) := by rw [q_M_goOn, hz_w_at d_M_goOn_132]; rfl
theorem d_M_goOn_133 : decode c_M_goOn 133 = .ok (.invokevirtual 241, 3) := by decide +kernel
theorem e_M_goOn_133 : q_M_goOn S (f + 1) 133 L st h = (S 133 L st h) := by rw [q_M_goOn, hz_w_at d_M_goOn_133]; rfl
theorem d_M_goOn_136 : decode c_M_goOn 136 = .ok (.goto 67, 3) := by decide +kernel
theorem e_M_goOn_136 : q_M_goOn S (f + 1) 136 L st h = (q_M_goOn S f 203 L st h) := by rw [q_M_goOn, hz_w_at d_M_goOn_136]; rfl
theorem d_M_goOn_139 : decode c_M_goOn 139 = .ok (.aload_n 0, 1) := by decide +kernel
theorem e_M_goOn_139 {a1 a2 a3 : Option Value} : q_M_goOn S (f + 1) 139 [some (.ref i), a1, a2, a3] st h = (q_M_goOn S f 140 [some (.ref i), a1, a2, a3] (.ref i :: st) h) := by rw [q_M_goOn, hz_w_at d_M_goOn_139]; rfl
theorem e_M_goOn_139n {a1 a2 a3 : Option Value} : q_M_goOn S (f + 1) 139 [some .null, a1, a2, a3] st h = (q_M_goOn S f 140 [some .null, a1, a2, a3] (.null :: st) h) := by rw [q_M_goOn, hz_w_at d_M_goOn_139]; rfl
theorem d_M_goOn_140 : decode c_M_goOn 140 = .ok (.iload_n 2, 1) := by decide +kernel
theorem e_M_goOn_140 {a0 a1 a3 : Option Value} : q_M_goOn S (f + 1) 140 [a0, a1, some (.int x), a3] st h = (q_M_goOn S f 141 [a0, a1, some (.int x), a3] (.int x :: st) h) := by rw [q_M_goOn, hz_w_at d_M_goOn_140]; rfl
theorem d_M_goOn_141 : decode c_M_goOn 141 = .ok (.iload_n 3, 1) := by decide +kernel
theorem e_M_goOn_141 {a0 a1 a2 : Option Value} : q_M_goOn S (f + 1) 141 [a0, a1, a2, some (.int x)] st h = (q_M_goOn S f 142 [a0, a1, a2, some (.int x)] (.int x :: st) h) := by rw [q_M_goOn, hz_w_at d_M_goOn_141]; rfl
theorem d_M_goOn_142 : decode c_M_goOn 142 = .ok (.bipush 8, 2) := by decide +kernel
theorem e_M_goOn_142 : q_M_goOn S (f + 1) 142 L st h = (q_M_goOn S f 144 L (.int (hz_n 8) :: st) h) := by rw [q_M_goOn, hz_w_at d_M_goOn_142]; rfl
theorem d_M_goOn_144 : decode c_M_goOn 144 = .ok (.irem, 1) := by decide +kernel
theorem e_M_goOn_144 : q_M_goOn S (f + 1) 144 L (.int y :: .int x :: st) h = (¬ y.toInt = 0 ∧ q_M_goOn S f 145 L (.int (x - x / y * y) :: st) h) := by rw [q_M_goOn, hz_w_at d_M_goOn_144]; rfl
theorem d_M_goOn_145 : decode c_M_goOn 145 = .ok (.iload_n 3, 1) := by decide +kernel
theorem e_M_goOn_145 {a0 a1 a2 : Option Value} : q_M_goOn S (f + 1) 145 [a0, a1, a2, some (.int x)] st h = (q_M_goOn S f 146 [a0, a1, a2, some (.int x)] (.int x :: st) h) := by rw [q_M_goOn, hz_w_at d_M_goOn_145]; rfl
theorem d_M_goOn_146 : decode c_M_goOn 146 = .ok (.bipush 8, 2) := by decide +kernel
theorem e_M_goOn_146 : q_M_goOn S (f + 1) 146 L st h = (q_M_goOn S f 148 L (.int (hz_n 8) :: st) h) := by rw [q_M_goOn, hz_w_at d_M_goOn_146]; rfl
theorem d_M_goOn_148 : decode c_M_goOn 148 = .ok (.idiv, 1) := by decide +kernel
theorem e_M_goOn_148 : q_M_goOn S (f + 1) 148 L (.int y :: .int x :: st) h = (¬ y.toInt = 0 ∧ q_M_goOn S f 149 L (.int (x / y) :: st) h) := by rw [q_M_goOn, hz_w_at d_M_goOn_148]; rfl
theorem d_M_goOn_149 : decode c_M_goOn 149 = .ok (.iconst 1, 1) := by decide +kernel
theorem e_M_goOn_149 : q_M_goOn S (f + 1) 149 L st h = (q_M_goOn S f 150 L (.int (hz_n 1) :: st) h) := by rw [q_M_goOn, hz_w_at d_M_goOn_149]; rfl
theorem d_M_goOn_150 : decode c_M_goOn 150 = .ok (.isub, 1) := by decide +kernel
theorem e_M_goOn_150 : q_M_goOn S (f + 1) 150 L (.int y :: .int x :: st) h = (q_M_goOn S f 151 L (.int (x - y) :: st) h) := by rw [q_M_goOn, hz_w_at d_M_goOn_150]; rfl
theorem d_M_goOn_151 : decode c_M_goOn 151 = .ok (.invokevirtual 241, 3) := by decide +kernel
theorem e_M_goOn_151 : q_M_goOn S (f + 1) 151 L st h = (S 151 L st h) := by rw [q_M_goOn, hz_w_at d_M_goOn_151]; rfl
theorem d_M_goOn_154 : decode c_M_goOn 154 = .ok (.goto 49, 3) := by decide +kernel
theorem e_M_goOn_154 : q_M_goOn S (f + 1) 154 L st h = (q_M_goOn S f 203 L st h) := by rw [q_M_goOn, hz_w_at d_M_goOn_154]; rfl
theorem d_M_goOn_157 : decode c_M_goOn 157 = .ok (.aload_n 0, 1) := by decide +kernel
theorem e_M_goOn_157 {a1 a2 a3 : Option Value} : q_M_goOn S (f + 1) 157 [some (.ref i), a1, a2, a3] st h = (q_M_goOn S f 158 [some (.ref i), a1, a2, a3] (.ref i :: st) h) := by rw [q_M_goOn, hz_w_at d_M_goOn_157]; rfl
theorem e_M_goOn_157n {a1 a2 a3 : Option Value} : q_M_goOn S (f + 1) 157 [some .null, a1, a2, a3] st h = (q_M_goOn S f 158 [some .null, a1, a2, a3] (.null :: st) h) := by rw [q_M_goOn, hz_w_at d_M_goOn_157]; rfl
theorem d_M_goOn_158 : decode c_M_goOn 158 = .ok (.iload_n 2, 1) := by decide +kernel
theorem e_M_goOn_158 {a0 a1 a3 : Option Value} : q_M_goOn S (f + 1) 158 [a0, a1, some (.int x), a3] st h = (q_M_goOn S f 159 [a0, a1, some (.int x), a3] (.int x :: st) h) := by rw [q_M_goOn, hz_w_at d_M_goOn_158]; rfl
theorem d_M_goOn_159 : decode c_M_goOn 159 = .ok (.iload_n 3, 1) := by decide +kernel
theorem e_M_goOn_159 {a0 a1 a2 : Option Value} : q_M_goOn S (f + 1) 159 [a0, a1, a2, some (.int x)] st h = (q_M_goOn S f 160 [a0, a1, a2, some (.int x)] (.int x :: st) h) := by rw [q_M_goOn, hz_w_at d_M_goOn_159]; rfl
theorem d_M_goOn_160 : decode c_M_goOn 160 = .ok (.invokevirtual 244, 3) := by decide +kernel
theorem e_M_goOn_160 : q_M_goOn S (f + 1) 160 L st h = (S 160 L st h) := by rw [q_M_goOn, hz_w_at d_M_goOn_160]; rfl
theorem d_M_goOn_163 : decode c_M_goOn 163 = .ok (.goto 40, 3) := by decide +kernel
theorem e_M_goOn_163 : q_M_goOn S (f + 1) 163 L st h = (q_M_goOn S f 203 L st h) := by rw [q_M_goOn, hz_w_at d_M_goOn_163]; rfl
theorem d_M_goOn_166 : decode c_M_goOn 166 = .ok (.aload_n 0, 1) := by decide +kernel
theorem e_M_goOn_166 {a1 a2 a3 : Option Value} : q_M_goOn S (f + 1) 166 [some (.ref i), a1, a2, a3] st h = (q_M_goOn S f 167 [some (.ref i), a1, a2, a3] (.ref i :: st) h) := by rw [q_M_goOn, hz_w_at d_M_goOn_166]; rfl
theorem e_M_goOn_166n {a1 a2 a3 : Option Value} : q_M_goOn S (f + 1) 166 [some .null, a1, a2, a3] st h = (q_M_goOn S f 167 [some .null, a1, a2, a3] (.null :: st) h) := by rw [q_M_goOn, hz_w_at d_M_goOn_166]; rfl
theorem d_M_goOn_167 : decode c_M_goOn 167 = .ok (.invokevirtual 247, 3) := by decide +kernel
theorem e_M_goOn_167 : q_M_goOn S (f + 1) 167 L st h = (S 167 L st h) := by rw [q_M_goOn, hz_w_at d_M_goOn_167]; rfl
theorem d_M_goOn_170 : decode c_M_goOn 170 = .ok (.goto 33, 3) := by decide +kernel
theorem e_M_goOn_170 : q_M_goOn S (f + 1) 170 L st h = (q_M_goOn S f 203 L st h) := by rw [q_M_goOn, hz_w_at d_M_goOn_170]; rfl
theorem d_M_goOn_173 : decode c_M_goOn 173 = .ok (.aload_n 0, 1) := by decide +kernel
theorem e_M_goOn_173 {a1 a2 a3 : Option Value} : q_M_goOn S (f + 1) 173 [some (.ref i), a1, a2, a3] st h = (q_M_goOn S f 174 [some (.ref i), a1, a2, a3] (.ref i :: st) h) := by rw [q_M_goOn, hz_w_at d_M_goOn_173]; rfl
theorem e_M_goOn_173n {a1 a2 a3 : Option Value} : q_M_goOn S (f + 1) 173 [some .null, a1, a2, a3] st h = (q_M_goOn S f 174 [some .null, a1, a2, a3] (.null :: st) h) := by rw [q_M_goOn, hz_w_at d_M_goOn_173]; rfl
theorem d_M_goOn_174 : decode c_M_goOn 174 = .ok (.bipush 9, 2) := by decide +kernel
theorem e_M_goOn_174 : q_M_goOn S (f + 1) 174 L st h = (q_M_goOn S f 176 L (.int (hz_n 9) :: st) h) := by rw [q_M_goOn, hz_w_at d_M_goOn_174]; rfl
theorem d_M_goOn_176 : decode c_M_goOn 176 = .ok (.iconst 0, 1) := by decide +kernel
theorem e_M_goOn_176 : q_M_goOn S (f + 1) 176 L st h = (q_M_goOn S f 177 L (.int (hz_n 0) :: st) h) := by rw [q_M_goOn, hz_w_at d_M_goOn_176]; rfl
theorem d_M_goOn_177 : decode c_M_goOn 177 = .ok (.iconst 0, 1) := by decide +kernel
theorem e_M_goOn_177 : q_M_goOn S (f + 1) 177 L st h = (q_M_goOn S f 178 L (.int (hz_n 0) :: st) h) := by rw [q_M_goOn, hz_w_at d_M_goOn_177]; rfl
theorem d_M_goOn_178 : decode c_M_goOn 178 = .ok (.invokevirtual 190, 3) := by decide +kernel
theorem e_M_goOn_178 : q_M_goOn S (f + 1) 178 L st h = (S 178 L st h) := by rw [q_M_goOn, hz_w_at d_M_goOn_178]; rfl
theorem d_M_goOn_181 : decode c_M_goOn 181 = .ok (.aload_n 0, 1) := by decide +kernel
theorem e_M_goOn_181 {a1 a2 a3 : Option Value} : q_M_goOn S (f + 1) 181 [some (.ref i), a1, a2, a3] st h = (q_M_goOn S f 182 [some (.ref i), a1, a2, a3] (.ref i :: st) h) := by rw [q_M_goOn, hz_w_at d_M_goOn_181]; rfl
theorem e_M_goOn_181n {a1 a2 a3 : Option Value} : q_M_goOn S (f + 1) 181 [some .null, a1, a2, a3] st h = (q_M_goOn S f 182 [some .null, a1, a2, a3] (.null :: st) h) := by rw [q_M_goOn, hz_w_at d_M_goOn_181]; rfl
theorem d_M_goOn_182 : decode c_M_goOn 182 = .ok (.iload_n 3, 1) := by decide +kernel
theorem e_M_goOn_182 {a0 a1 a2 : Option Value} : q_M_goOn S (f + 1) 182 [a0, a1, a2, some (.int x)] st h = (q_M_goOn S f 183 [a0, a1, a2, some (.int x)] (.int x :: st) h) := by rw [q_M_goOn, hz_w_at d_M_goOn_182]; rfl
theorem d_M_goOn_183 : decode c_M_goOn 183 = .ok (.invokevirtual 208, 3) := by decide +kernel
theorem e_M_goOn_183 : q_M_goOn S (f + 1) 183 L st h = (S 183 L st h) := by rw [q_M_goOn, hz_w_at d_M_goOn_183]; rfl
theorem d_M_goOn_186 : decode c_M_goOn 186 = .ok (.goto 17, 3) := by decide +kernel
theorem e_M_goOn_186 : q_M_goOn S (f + 1) 186 L st h = (q_M_goOn S f 203 L st h) := by rw [q_M_goOn, hz_w_at d_M_goOn_186]; rfl
theorem d_M_goOn_189 : decode c_M_goOn 189 = .ok (.aload_n 0, 1) := by decide +kernel
theorem e_M_goOn_189 {a1 a2 a3 : Option Value} : q_M_goOn S (f + 1) 189 [some (.ref i), a1, a2, a3] st h = (q_M_goOn S f 190 [some (.ref i), a1, a2, a3] (.ref i :: st) h) := by rw [q_M_goOn, hz_w_at d_M_goOn_189]; rfl
theorem e_M_goOn_189n {a1 a2 a3 : Option Value} : q_M_goOn S (f + 1) 189 [some .null, a1, a2, a3] st h = (q_M_goOn S f 190 [some .null, a1, a2, a3] (.null :: st) h) := by rw [q_M_goOn, hz_w_at d_M_goOn_189]; rfl
theorem d_M_goOn_190 : decode c_M_goOn 190 = .ok (.invokevirtual 250, 3) := by decide +kernel
theorem e_M_goOn_190 : q_M_goOn S (f + 1) 190 L st h = (S 190 L st h) := by rw [q_M_goOn, hz_w_at d_M_goOn_190]; rfl
theorem d_M_goOn_193 : decode c_M_goOn 193 = .ok (.goto 10, 3) := by decide +kernel
theorem e_M_goOn_193 : q_M_goOn S (f + 1) 193 L st h = (q_M_goOn S f 203 L st h) := by rw [q_M_goOn, hz_w_at d_M_goOn_193]; rfl
theorem d_M_goOn_196 : decode c_M_goOn 196 = .ok (.aload_n 0, 1) := by decide +kernel
theorem e_M_goOn_196 {a1 a2 a3 : Option Value} : q_M_goOn S (f + 1) 196 [some (.ref i), a1, a2, a3] st h = (q_M_goOn S f 197 [some (.ref i), a1, a2, a3] (.ref i :: st) h) := by rw [q_M_goOn, hz_w_at d_M_goOn_196]; rfl
theorem e_M_goOn_196n {a1 a2 a3 : Option Value} : q_M_goOn S (f + 1) 196 [some .null, a1, a2, a3] st h = (q_M_goOn S f 197 [some .null, a1, a2, a3] (.null :: st) h) := by rw [q_M_goOn, hz_w_at d_M_goOn_196]; rfl
theorem d_M_goOn_197 : decode c_M_goOn 197 = .ok (.iload_n 1, 1) := by decide +kernel
theorem e_M_goOn_197 {a0 a2 a3 : Option Value} : q_M_goOn S (f + 1) 197 [a0, some (.int x), a2, a3] st h = (q_M_goOn S f 198 [a0, some (.int x), a2, a3] (.int x :: st) h) := by rw [q_M_goOn, hz_w_at d_M_goOn_197]; rfl
theorem d_M_goOn_198 : decode c_M_goOn 198 = .ok (.iload_n 2, 1) := by decide +kernel
theorem e_M_goOn_198 {a0 a1 a3 : Option Value} : q_M_goOn S (f + 1) 198 [a0, a1, some (.int x), a3] st h = (q_M_goOn S f 199 [a0, a1, some (.int x), a3] (.int x :: st) h) := by rw [q_M_goOn, hz_w_at d_M_goOn_198]; rfl
theorem d_M_goOn_199 : decode c_M_goOn 199 = .ok (.iload_n 3, 1) := by decide +kernel
theorem e_M_goOn_199 {a0 a1 a2 : Option Value} : q_M_goOn S (f + 1) 199 [a0, a1, a2, some (.int x)] st h = (q_M_goOn S f 200 [a0, a1, a2, some (.int x)] (.int x :: st) h) := by rw [q_M_goOn, hz_w_at d_M_goOn_199]; rfl
theorem d_M_goOn_200 : decode c_M_goOn 200 = .ok (.invokevirtual 253, 3) := by decide +kernel
theorem e_M_goOn_200 : q_M_goOn S (f + 1) 200 L st h = (S 200 L st h) := by rw [q_M_goOn, hz_w_at d_M_goOn_200]; rfl
theorem d_M_goOn_203 : decode c_M_goOn 203 = .ok (.return_, 1) := by decide +kernel
theorem e_M_goOn_203 : q_M_goOn S (f + 1) 203 L st h = (S 203 L st h) := by rw [q_M_goOn, hz_w_at d_M_goOn_203]; rfl
end
abbrev q_M_run (S : Nat → List (Option Value) → List Value → hz_H → Prop) := hz_w zCl zKT f_M n_M c_M_run [94, 133] S
section
variable {S : Nat → List (Option Value) → List Value → hz_H → Prop} {f : Nat} {L : List (Option Value)} {st : List Value} {h : hz_H} {x y : Int32} {i j : Nat} {X Y : Int64}
theorem d_M_run_0 : decode c_M_run 0 = .ok (.aload_n 0, 1) := by decide +kernel
theorem e_M_run_0 {a1 a2 a3 : Option Value} : q_M_run S (f + 1) 0 [some (.ref i), a1, a2, a3] st h = (q_M_run S f 1 [some (.ref i), a1, a2, a3] (.ref i :: st) h) := by rw [q_M_run, hz_w_at d_M_run_0]; rfl
theorem e_M_run_0n {a1 a2 a3 : Option Value} : q_M_run S (f + 1) 0 [some .null, a1, a2, a3] st h = (q_M_run S f 1 [some .null, a1, a2, a3] (.null :: st) h) := by rw [q_M_run, hz_w_at d_M_run_0]; rfl
theorem d_M_run_1 : decode c_M_run 1 = .ok (.iload_n 1, 1) := by decide +kernel
theorem e_M_run_1 {a0 a2 a3 : Option Value} : q_M_run S (f + 1) 1 [a0, some (.int x), a2, a3] st h = (q_M_run S f 2 [a0, some (.int x), a2, a3] (.int x :: st) h) := by rw [q_M_run, hz_w_at d_M_run_1]; rfl
theorem d_M_run_2 : decode c_M_run 2 = .ok (.invokestatic 101, 3) := by decide +kernel
theorem e_M_run_2 : q_M_run S (f + 1) 2 L st h = (S 2 L st h) := by rw [q_M_run, hz_w_at d_M_run_2]; rfl
theorem d_M_run_5 : decode c_M_run 5 = .ok (.ifCond .eq 14, 3) := by decide +kernel
theorem e_M_run_5 : q_M_run S (f + 1) 5 L (.int x :: st) h = ((x.toInt = 0 → q_M_run S f 19 L st h) ∧ (¬ (x.toInt = 0) → q_M_run S f 8 L st h)) := by rw [q_M_run, hz_w_at d_M_run_5]; rfl
theorem d_M_run_8 : decode c_M_run 8 = .ok (.iload_n 2, 1) := by decide +kernel
theorem e_M_run_8 {a0 a1 a3 : Option Value} : q_M_run S (f + 1) 8 [a0, a1, some (.int x), a3] st h = (q_M_run S f 9 [a0, a1, some (.int x), a3] (.int x :: st) h) := by rw [q_M_run, hz_w_at d_M_run_8]; rfl
theorem d_M_run_9 : decode c_M_run 9 = .ok (.iconst 1, 1) := by decide +kernel
theorem e_M_run_9 : q_M_run S (f + 1) 9 L st h = (q_M_run S f 10 L (.int (hz_n 1) :: st) h) := by rw [q_M_run, hz_w_at d_M_run_9]; rfl
theorem d_M_run_10 : decode c_M_run 10 = .ok (.if_icmp .lt 9, 3) := by decide +kernel
theorem e_M_run_10 : q_M_run S (f + 1) 10 L (.int y :: .int x :: st) h = ((x.toInt < y.toInt → q_M_run S f 19 L st h) ∧ (¬ (x.toInt < y.toInt) → q_M_run S f 13 L st h)) := by rw [q_M_run, hz_w_at d_M_run_10]; rfl
theorem d_M_run_13 : decode c_M_run 13 = .ok (.iload_n 2, 1) := by decide +kernel
theorem e_M_run_13 {a0 a1 a3 : Option Value} : q_M_run S (f + 1) 13 [a0, a1, some (.int x), a3] st h = (q_M_run S f 14 [a0, a1, some (.int x), a3] (.int x :: st) h) := by rw [q_M_run, hz_w_at d_M_run_13]; rfl
theorem d_M_run_14 : decode c_M_run 14 = .ok (.bipush 50, 2) := by decide +kernel
theorem e_M_run_14 : q_M_run S (f + 1) 14 L st h = (q_M_run S f 16 L (.int (hz_n 50) :: st) h) := by rw [q_M_run, hz_w_at d_M_run_14]; rfl
theorem d_M_run_16 : decode c_M_run 16 = .ok (.if_icmp .le 7, 3) := by decide +kernel
theorem e_M_run_16 : q_M_run S (f + 1) 16 L (.int y :: .int x :: st) h = ((x.toInt ≤ y.toInt → q_M_run S f 23 L st h) ∧ (¬ (x.toInt ≤ y.toInt) → q_M_run S f 19 L st h)) := by rw [q_M_run, hz_w_at d_M_run_16]; rfl
theorem d_M_run_19 : decode c_M_run 19 = .ok (.iconst 1, 1) := by decide +kernel
theorem e_M_run_19 : q_M_run S (f + 1) 19 L st h = (q_M_run S f 20 L (.int (hz_n 1) :: st) h) := by rw [q_M_run, hz_w_at d_M_run_19]; rfl
theorem d_M_run_20 : decode c_M_run 20 = .ok (.goto 20, 3) := by decide +kernel
theorem e_M_run_20 : q_M_run S (f + 1) 20 L st h = (q_M_run S f 40 L st h) := by rw [q_M_run, hz_w_at d_M_run_20]; rfl
theorem d_M_run_23 : decode c_M_run 23 = .ok (.aload_n 0, 1) := by decide +kernel
theorem e_M_run_23 {a1 a2 a3 : Option Value} : q_M_run S (f + 1) 23 [some (.ref i), a1, a2, a3] st h = (q_M_run S f 24 [some (.ref i), a1, a2, a3] (.ref i :: st) h) := by rw [q_M_run, hz_w_at d_M_run_23]; rfl
theorem e_M_run_23n {a1 a2 a3 : Option Value} : q_M_run S (f + 1) 23 [some .null, a1, a2, a3] st h = (q_M_run S f 24 [some .null, a1, a2, a3] (.null :: st) h) := by rw [q_M_run, hz_w_at d_M_run_23]; rfl
theorem d_M_run_24 : decode c_M_run 24 = .ok (.getfield 16, 3) := by decide +kernel
theorem e_M_run_24 : q_M_run S (f + 1) 24 L (.ref i :: st) h = (hz_rd h i 5 5 fun v => q_M_run S f 27 L (v :: st) h) := by rw [q_M_run, hz_w_at d_M_run_24]; rfl
theorem d_M_run_27 : decode c_M_run 27 = .ok (.iload_n 1, 1) := by decide +kernel
theorem e_M_run_27 {a0 a2 a3 : Option Value} : q_M_run S (f + 1) 27 [a0, some (.int x), a2, a3] st h = (q_M_run S f 28 [a0, some (.int x), a2, a3] (.int x :: st) h) := by rw [q_M_run, hz_w_at d_M_run_27]; rfl
theorem d_M_run_28 : decode c_M_run 28 = .ok (.bipush 65, 2) := by decide +kernel
theorem e_M_run_28 : q_M_run S (f + 1) 28 L st h = (q_M_run S f 30 L (.int (hz_n 65) :: st) h) := by rw [q_M_run, hz_w_at d_M_run_28]; rfl
theorem d_M_run_30 : decode c_M_run 30 = .ok (.isub, 1) := by decide +kernel
theorem e_M_run_30 : q_M_run S (f + 1) 30 L (.int y :: .int x :: st) h = (q_M_run S f 31 L (.int (x - y) :: st) h) := by rw [q_M_run, hz_w_at d_M_run_30]; rfl
theorem d_M_run_31 : decode c_M_run 31 = .ok (.baload, 1) := by decide +kernel
theorem e_M_run_31 : q_M_run S (f + 1) 31 L (.int x :: .ref i :: st) h = (hz_ea zKT hz_kZ h i x fun v => q_M_run S f 32 L (v :: st) h) := by rw [q_M_run, hz_w_at d_M_run_31]; rfl
theorem d_M_run_32 : decode c_M_run 32 = .ok (.ifCond .ne 7, 3) := by decide +kernel
theorem e_M_run_32 : q_M_run S (f + 1) 32 L (.int x :: st) h = ((¬ x.toInt = 0 → q_M_run S f 39 L st h) ∧ (¬ (¬ x.toInt = 0) → q_M_run S f 35 L st h)) := by rw [q_M_run, hz_w_at d_M_run_32]; rfl
theorem d_M_run_35 : decode c_M_run 35 = .ok (.iconst 2, 1) := by decide +kernel
theorem e_M_run_35 : q_M_run S (f + 1) 35 L st h = (q_M_run S f 36 L (.int (hz_n 2) :: st) h) := by rw [q_M_run, hz_w_at d_M_run_35]; rfl
theorem d_M_run_36 : decode c_M_run 36 = .ok (.goto 4, 3) := by decide +kernel
theorem e_M_run_36 : q_M_run S (f + 1) 36 L st h = (q_M_run S f 40 L st h) := by rw [q_M_run, hz_w_at d_M_run_36]; rfl
theorem d_M_run_39 : decode c_M_run 39 = .ok (.iconst 0, 1) := by decide +kernel
theorem e_M_run_39 : q_M_run S (f + 1) 39 L st h = (q_M_run S f 40 L (.int (hz_n 0) :: st) h) := by rw [q_M_run, hz_w_at d_M_run_39]; rfl
theorem d_M_run_40 : decode c_M_run 40 = .ok (.putfield 80, 3) := by decide +kernel
theorem e_M_run_40 : q_M_run S (f + 1) 40 L (.int x :: .ref i :: st) h = (hz_wr h i 5 0 (.int x) fun h => q_M_run S f 43 L st h) := by rw [q_M_run, hz_w_at d_M_run_40]; rfl
theorem d_M_run_43 : decode c_M_run 43 = .ok (.aload_n 0, 1) := by decide +kernel
theorem e_M_run_43 {a1 a2 a3 : Option Value} : q_M_run S (f + 1) 43 [some (.ref i), a1, a2, a3] st h = (q_M_run S f 44 [some (.ref i), a1, a2, a3] (.ref i :: st) h) := by rw [q_M_run, hz_w_at d_M_run_43]; rfl
theorem e_M_run_43n {a1 a2 a3 : Option Value} : q_M_run S (f + 1) 43 [some .null, a1, a2, a3] st h = (q_M_run S f 44 [some .null, a1, a2, a3] (.null :: st) h) := by rw [q_M_run, hz_w_at d_M_run_43]; rfl
theorem d_M_run_44 : decode c_M_run 44 = .ok (.getfield 80, 3) := by decide +kernel
theorem e_M_run_44 : q_M_run S (f + 1) 44 L (.ref i :: st) h = (hz_rd h i 5 0 fun v => q_M_run S f 47 L (v :: st) h) := by rw [q_M_run, hz_w_at d_M_run_44]; rfl
theorem d_M_run_47 : decode c_M_run 47 = .ok (.ifCond .le 5, 3) := by decide +kernel
theorem e_M_run_47 : q_M_run S (f + 1) 47 L (.int x :: st) h = ((x.toInt ≤ 0 → q_M_run S f 52 L st h) ∧ (¬ (x.toInt ≤ 0) → q_M_run S f 50 L st h)) := by rw [q_M_run, hz_w_at d_M_run_47]; rfl
theorem d_M_run_50 : decode c_M_run 50 = .ok (.iconst 0, 1) := by decide +kernel
theorem e_M_run_50 : q_M_run S (f + 1) 50 L st h = (q_M_run S f 51 L (.int (hz_n 0) :: st) h) := by rw [q_M_run, hz_w_at d_M_run_50]; rfl
theorem d_M_run_51 : decode c_M_run 51 = .ok (.ireturn, 1) := by decide +kernel
theorem e_M_run_51 : q_M_run S (f + 1) 51 L st h = (S 51 L st h) := by rw [q_M_run, hz_w_at d_M_run_51]; rfl
theorem d_M_run_52 : decode c_M_run 52 = .ok (.aload_n 0, 1) := by decide +kernel
theorem e_M_run_52 {a1 a2 a3 : Option Value} : q_M_run S (f + 1) 52 [some (.ref i), a1, a2, a3] st h = (q_M_run S f 53 [some (.ref i), a1, a2, a3] (.ref i :: st) h) := by rw [q_M_run, hz_w_at d_M_run_52]; rfl
theorem e_M_run_52n {a1 a2 a3 : Option Value} : q_M_run S (f + 1) 52 [some .null, a1, a2, a3] st h = (q_M_run S f 53 [some .null, a1, a2, a3] (.null :: st) h) := by rw [q_M_run, hz_w_at d_M_run_52]; rfl
theorem d_M_run_53 : decode c_M_run 53 = .ok (.iconst 0, 1) := by decide +kernel
theorem e_M_run_53 : q_M_run S (f + 1) 53 L st h = (q_M_run S f 54 L (.int (hz_n 0) :: st) h) := by rw [q_M_run, hz_w_at d_M_run_53]; rfl
theorem d_M_run_54 : decode c_M_run 54 = .ok (.putfield 224, 3) := by decide +kernel
theorem e_M_run_54 : q_M_run S (f + 1) 54 L (.int x :: .ref i :: st) h = (hz_wr h i 5 3 (.int x) fun h => q_M_run S f 57 L st h) := by rw [q_M_run, hz_w_at d_M_run_54]; rfl
theorem d_M_run_57 : decode c_M_run 57 = .ok (.aload_n 0, 1) := by decide +kernel
theorem e_M_run_57 {a1 a2 a3 : Option Value} : q_M_run S (f + 1) 57 [some (.ref i), a1, a2, a3] st h = (q_M_run S f 58 [some (.ref i), a1, a2, a3] (.ref i :: st) h) := by rw [q_M_run, hz_w_at d_M_run_57]; rfl
theorem e_M_run_57n {a1 a2 a3 : Option Value} : q_M_run S (f + 1) 57 [some .null, a1, a2, a3] st h = (q_M_run S f 58 [some .null, a1, a2, a3] (.null :: st) h) := by rw [q_M_run, hz_w_at d_M_run_57]; rfl
theorem d_M_run_58 : decode c_M_run 58 = .ok (.iconst 0, 1) := by decide +kernel
theorem e_M_run_58 : q_M_run S (f + 1) 58 L st h = (q_M_run S f 59 L (.int (hz_n 0) :: st) h) := by rw [q_M_run, hz_w_at d_M_run_58]; rfl
theorem d_M_run_59 : decode c_M_run 59 = .ok (.putfield 171, 3) := by decide +kernel
theorem e_M_run_59 : q_M_run S (f + 1) 59 L (.int x :: .ref i :: st) h = (hz_wr h i 5 33 (.int x) fun h => q_M_run S f 62 L st h) := by rw [q_M_run, hz_w_at d_M_run_59]; rfl
theorem d_M_run_62 : decode c_M_run 62 = .ok (.aload_n 0, 1) := by decide +kernel
theorem e_M_run_62 {a1 a2 a3 : Option Value} : q_M_run S (f + 1) 62 [some (.ref i), a1, a2, a3] st h = (q_M_run S f 63 [some (.ref i), a1, a2, a3] (.ref i :: st) h) := by rw [q_M_run, hz_w_at d_M_run_62]; rfl
theorem e_M_run_62n {a1 a2 a3 : Option Value} : q_M_run S (f + 1) 62 [some .null, a1, a2, a3] st h = (q_M_run S f 63 [some .null, a1, a2, a3] (.null :: st) h) := by rw [q_M_run, hz_w_at d_M_run_62]; rfl
theorem d_M_run_63 : decode c_M_run 63 = .ok (.iload_n 2, 1) := by decide +kernel
theorem e_M_run_63 {a0 a1 a3 : Option Value} : q_M_run S (f + 1) 63 [a0, a1, some (.int x), a3] st h = (q_M_run S f 64 [a0, a1, some (.int x), a3] (.int x :: st) h) := by rw [q_M_run, hz_w_at d_M_run_63]; rfl
theorem d_M_run_64 : decode c_M_run 64 = .ok (.putfield 174, 3) := by decide +kernel
theorem e_M_run_64 : q_M_run S (f + 1) 64 L (.int x :: .ref i :: st) h = (hz_wr h i 5 32 (.int x) fun h => q_M_run S f 67 L st h) := by rw [q_M_run, hz_w_at d_M_run_64]; rfl
theorem d_M_run_67 : decode c_M_run 67 = .ok (.aload_n 0, 1) := by decide +kernel
theorem e_M_run_67 {a1 a2 a3 : Option Value} : q_M_run S (f + 1) 67 [some (.ref i), a1, a2, a3] st h = (q_M_run S f 68 [some (.ref i), a1, a2, a3] (.ref i :: st) h) := by rw [q_M_run, hz_w_at d_M_run_67]; rfl
theorem e_M_run_67n {a1 a2 a3 : Option Value} : q_M_run S (f + 1) 67 [some .null, a1, a2, a3] st h = (q_M_run S f 68 [some .null, a1, a2, a3] (.null :: st) h) := by rw [q_M_run, hz_w_at d_M_run_67]; rfl
theorem d_M_run_68 : decode c_M_run 68 = .ok (.iconst 0, 1) := by decide +kernel
theorem e_M_run_68 : q_M_run S (f + 1) 68 L st h = (q_M_run S f 69 L (.int (hz_n 0) :: st) h) := by rw [q_M_run, hz_w_at d_M_run_68]; rfl
theorem d_M_run_69 : decode c_M_run 69 = .ok (.putfield 177, 3) := by decide +kernel
theorem e_M_run_69 : q_M_run S (f + 1) 69 L (.int x :: .ref i :: st) h = (hz_wr h i 5 34 (.int x) fun h => q_M_run S f 72 L st h) := by rw [q_M_run, hz_w_at d_M_run_69]; rfl
theorem d_M_run_72 : decode c_M_run 72 = .ok (.aload_n 0, 1) := by decide +kernel
theorem e_M_run_72 {a1 a2 a3 : Option Value} : q_M_run S (f + 1) 72 [some (.ref i), a1, a2, a3] st h = (q_M_run S f 73 [some (.ref i), a1, a2, a3] (.ref i :: st) h) := by rw [q_M_run, hz_w_at d_M_run_72]; rfl
theorem e_M_run_72n {a1 a2 a3 : Option Value} : q_M_run S (f + 1) 72 [some .null, a1, a2, a3] st h = (q_M_run S f 73 [some .null, a1, a2, a3] (.null :: st) h) := by rw [q_M_run, hz_w_at d_M_run_72]; rfl
theorem d_M_run_73 : decode c_M_run 73 = .ok (.iconst 0, 1) := by decide +kernel
theorem e_M_run_73 : q_M_run S (f + 1) 73 L st h = (q_M_run S f 74 L (.int (hz_n 0) :: st) h) := by rw [q_M_run, hz_w_at d_M_run_73]; rfl
theorem d_M_run_74 : decode c_M_run 74 = .ok (.putfield 141, 3) := by decide +kernel
theorem e_M_run_74 : q_M_run S (f + 1) 74 L (.int x :: .ref i :: st) h = (hz_wr h i 5 17 (.int x) fun h => q_M_run S f 77 L st h) := by rw [q_M_run, hz_w_at d_M_run_74]; rfl
theorem d_M_run_77 : decode c_M_run 77 = .ok (.aload_n 0, 1) := by decide +kernel
theorem e_M_run_77 {a1 a2 a3 : Option Value} : q_M_run S (f + 1) 77 [some (.ref i), a1, a2, a3] st h = (q_M_run S f 78 [some (.ref i), a1, a2, a3] (.ref i :: st) h) := by rw [q_M_run, hz_w_at d_M_run_77]; rfl
theorem e_M_run_77n {a1 a2 a3 : Option Value} : q_M_run S (f + 1) 77 [some .null, a1, a2, a3] st h = (q_M_run S f 78 [some .null, a1, a2, a3] (.null :: st) h) := by rw [q_M_run, hz_w_at d_M_run_77]; rfl
theorem d_M_run_78 : decode c_M_run 78 = .ok (.iconst 0, 1) := by decide +kernel
theorem e_M_run_78 : q_M_run S (f + 1) 78 L st h = (q_M_run S f 79 L (.int (hz_n 0) :: st) h) := by rw [q_M_run, hz_w_at d_M_run_78]; rfl
theorem d_M_run_79 : decode c_M_run 79 = .ok (.putfield 153, 3) := by decide +kernel
theorem e_M_run_79 : q_M_run S (f + 1) 79 L (.int x :: .ref i :: st) h = (hz_wr h i 5 23 (.int x) fun h => q_M_run S f 82 L st h) := by rw [q_M_run, hz_w_at d_M_run_79]; rfl
theorem d_M_run_82 : decode c_M_run 82 = .ok (.aload_n 0, 1) := by decide +kernel
theorem e_M_run_82 {a1 a2 a3 : Option Value} : q_M_run S (f + 1) 82 [some (.ref i), a1, a2, a3] st h = (q_M_run S f 83 [some (.ref i), a1, a2, a3] (.ref i :: st) h) := by rw [q_M_run, hz_w_at d_M_run_82]; rfl
theorem e_M_run_82n {a1 a2 a3 : Option Value} : q_M_run S (f + 1) 82 [some .null, a1, a2, a3] st h = (q_M_run S f 83 [some .null, a1, a2, a3] (.null :: st) h) := by rw [q_M_run, hz_w_at d_M_run_82]; rfl
theorem d_M_run_83 : decode c_M_run 83 = .ok (.iconst 0, 1) := by decide +kernel
theorem e_M_run_83 : q_M_run S (f + 1) 83 L st h = (q_M_run S f 84 L (.int (hz_n 0) :: st) h) := by rw [q_M_run, hz_w_at d_M_run_83]; rfl
theorem d_M_run_84 : decode c_M_run 84 = .ok (.putfield 150, 3) := by decide +kernel
theorem e_M_run_84 : q_M_run S (f + 1) 84 L (.int x :: .ref i :: st) h = (hz_wr h i 5 25 (.int x) fun h => q_M_run S f 87 L st h) := by rw [q_M_run, hz_w_at d_M_run_84]; rfl
theorem d_M_run_87 : decode c_M_run 87 = .ok (.aload_n 0, 1) := by decide +kernel
theorem e_M_run_87 {a1 a2 a3 : Option Value} : q_M_run S (f + 1) 87 [some (.ref i), a1, a2, a3] st h = (q_M_run S f 88 [some (.ref i), a1, a2, a3] (.ref i :: st) h) := by rw [q_M_run, hz_w_at d_M_run_87]; rfl
theorem e_M_run_87n {a1 a2 a3 : Option Value} : q_M_run S (f + 1) 87 [some .null, a1, a2, a3] st h = (q_M_run S f 88 [some .null, a1, a2, a3] (.null :: st) h) := by rw [q_M_run, hz_w_at d_M_run_87]; rfl
theorem d_M_run_88 : decode c_M_run 88 = .ok (.iconst 0, 1) := by decide +kernel
theorem e_M_run_88 : q_M_run S (f + 1) 88 L st h = (q_M_run S f 89 L (.int (hz_n 0) :: st) h) := by rw [q_M_run, hz_w_at d_M_run_88]; rfl
theorem d_M_run_89 : decode c_M_run 89 = .ok (.putfield 156, 3) := by decide +kernel
theorem e_M_run_89 : q_M_run S (f + 1) 89 L (.int x :: .ref i :: st) h = (hz_wr h i 5 29 (.int x) fun h => q_M_run S f 92 L st h) := by rw [q_M_run, hz_w_at d_M_run_89]; rfl
theorem d_M_run_92 : decode c_M_run 92 = .ok (.iconst 0, 1) := by decide +kernel
theorem e_M_run_92 : q_M_run S (f + 1) 92 L st h = (q_M_run S f 93 L (.int (hz_n 0) :: st) h) := by rw [q_M_run, hz_w_at d_M_run_92]; rfl
theorem d_M_run_93 : decode c_M_run 93 = .ok (.istore_n 3, 1) := by decide +kernel
theorem e_M_run_93 {a0 a1 a2 a3 : Option Value} : q_M_run S (f + 1) 93 [a0, a1, a2, a3] (.int x :: st) h = (S 94 [a0, a1, a2, some (.int x)] st h) := by rw [q_M_run, hz_w_at d_M_run_93]; rfl
theorem d_M_run_94 : decode c_M_run 94 = .ok (.iload_n 3, 1) := by decide +kernel
theorem e_M_run_94 {a0 a1 a2 : Option Value} : q_M_run S (f + 1) 94 [a0, a1, a2, some (.int x)] st h = (q_M_run S f 95 [a0, a1, a2, some (.int x)] (.int x :: st) h) := by rw [q_M_run, hz_w_at d_M_run_94]; rfl
theorem d_M_run_95 : decode c_M_run 95 = .ok (.bipush 26, 2) := by decide +kernel
theorem e_M_run_95 : q_M_run S (f + 1) 95 L st h = (q_M_run S f 97 L (.int (hz_n 26) :: st) h) := by rw [q_M_run, hz_w_at d_M_run_95]; rfl
theorem d_M_run_97 : decode c_M_run 97 = .ok (.if_icmp .ge 16, 3) := by decide +kernel
theorem e_M_run_97 : q_M_run S (f + 1) 97 L (.int y :: .int x :: st) h = ((y.toInt ≤ x.toInt → q_M_run S f 113 L st h) ∧ (¬ (y.toInt ≤ x.toInt) → q_M_run S f 100 L st h)) := by rw [q_M_run, hz_w_at d_M_run_97]; rfl
theorem d_M_run_100 : decode c_M_run 100 = .ok (.aload_n 0, 1) := by decide +kernel
theorem e_M_run_100 {a1 a2 a3 : Option Value} : q_M_run S (f + 1) 100 [some (.ref i), a1, a2, a3] st h = (q_M_run S f 101 [some (.ref i), a1, a2, a3] (.ref i :: st) h) := by rw [q_M_run, hz_w_at d_M_run_100]; rfl
theorem e_M_run_100n {a1 a2 a3 : Option Value} : q_M_run S (f + 1) 100 [some .null, a1, a2, a3] st h = (q_M_run S f 101 [some .null, a1, a2, a3] (.null :: st) h) := by rw [q_M_run, hz_w_at d_M_run_100]; rfl
theorem d_M_run_101 : decode c_M_run 101 = .ok (.getfield 59, 3) := by decide +kernel
theorem e_M_run_101 : q_M_run S (f + 1) 101 L (.ref i :: st) h = (hz_rd h i 5 22 fun v => q_M_run S f 104 L (v :: st) h) := by rw [q_M_run, hz_w_at d_M_run_101]; rfl
theorem d_M_run_104 : decode c_M_run 104 = .ok (.iload_n 3, 1) := by decide +kernel
theorem e_M_run_104 {a0 a1 a2 : Option Value} : q_M_run S (f + 1) 104 [a0, a1, a2, some (.int x)] st h = (q_M_run S f 105 [a0, a1, a2, some (.int x)] (.int x :: st) h) := by rw [q_M_run, hz_w_at d_M_run_104]; rfl
theorem d_M_run_105 : decode c_M_run 105 = .ok (.iconst (-1), 1) := by decide +kernel
theorem e_M_run_105 : q_M_run S (f + 1) 105 L st h = (q_M_run S f 106 L (.int (hz_n (-1)) :: st) h) := by rw [q_M_run, hz_w_at d_M_run_105]; rfl
theorem d_M_run_106 : decode c_M_run 106 = .ok (.iastore, 1) := by decide +kernel
theorem e_M_run_106 : q_M_run S (f + 1) 106 L (.int y :: .int x :: .ref i :: st) h = (hz_es zKT hz_kI h i x (.int y) fun h => q_M_run S f 107 L st h) := by rw [q_M_run, hz_w_at d_M_run_106]; rfl
theorem d_M_run_107 : decode c_M_run 107 = .ok (.iinc 3 1, 3) := by decide +kernel
theorem e_M_run_107 {a0 a1 a2 : Option Value} : q_M_run S (f + 1) 107 [a0, a1, a2, some (.int x)] st h = (q_M_run S f 110 [a0, a1, a2, some (.int (x + hz_n 1))] st h) := by rw [q_M_run, hz_w_at d_M_run_107]; rfl
theorem d_M_run_110 : decode c_M_run 110 = .ok (.goto (-16), 3) := by decide +kernel
theorem e_M_run_110 : q_M_run S (f + 1) 110 L st h = (S 94 L st h) := by rw [q_M_run, hz_w_at d_M_run_110]; rfl
theorem d_M_run_113 : decode c_M_run 113 = .ok (.aload_n 0, 1) := by decide +kernel
theorem e_M_run_113 {a1 a2 a3 : Option Value} : q_M_run S (f + 1) 113 [some (.ref i), a1, a2, a3] st h = (q_M_run S f 114 [some (.ref i), a1, a2, a3] (.ref i :: st) h) := by rw [q_M_run, hz_w_at d_M_run_113]; rfl
theorem e_M_run_113n {a1 a2 a3 : Option Value} : q_M_run S (f + 1) 113 [some .null, a1, a2, a3] st h = (q_M_run S f 114 [some .null, a1, a2, a3] (.null :: st) h) := by rw [q_M_run, hz_w_at d_M_run_113]; rfl
theorem d_M_run_114 : decode c_M_run 114 = .ok (.invokevirtual 232, 3) := by decide +kernel
theorem e_M_run_114 : q_M_run S (f + 1) 114 L st h = (S 114 L st h) := by rw [q_M_run, hz_w_at d_M_run_114]; rfl
theorem d_M_run_117 : decode c_M_run 117 = .ok (.aload_n 0, 1) := by decide +kernel
theorem e_M_run_117 {a1 a2 a3 : Option Value} : q_M_run S (f + 1) 117 [some (.ref i), a1, a2, a3] st h = (q_M_run S f 118 [some (.ref i), a1, a2, a3] (.ref i :: st) h) := by rw [q_M_run, hz_w_at d_M_run_117]; rfl
theorem e_M_run_117n {a1 a2 a3 : Option Value} : q_M_run S (f + 1) 117 [some .null, a1, a2, a3] st h = (q_M_run S f 118 [some .null, a1, a2, a3] (.null :: st) h) := by rw [q_M_run, hz_w_at d_M_run_117]; rfl
theorem d_M_run_118 : decode c_M_run 118 = .ok (.bipush 7, 2) := by decide +kernel
theorem e_M_run_118 : q_M_run S (f + 1) 118 L st h = (q_M_run S f 120 L (.int (hz_n 7) :: st) h) := by rw [q_M_run, hz_w_at d_M_run_118]; rfl
theorem d_M_run_120 : decode c_M_run 120 = .ok (.iconst 0, 1) := by decide +kernel
theorem e_M_run_120 : q_M_run S (f + 1) 120 L st h = (q_M_run S f 121 L (.int (hz_n 0) :: st) h) := by rw [q_M_run, hz_w_at d_M_run_120]; rfl
theorem d_M_run_121 : decode c_M_run 121 = .ok (.iconst 0, 1) := by decide +kernel
theorem e_M_run_121 : q_M_run S (f + 1) 121 L st h = (q_M_run S f 122 L (.int (hz_n 0) :: st) h) := by rw [q_M_run, hz_w_at d_M_run_121]; rfl
theorem d_M_run_122 : decode c_M_run 122 = .ok (.invokevirtual 190, 3) := by decide +kernel
theorem e_M_run_122 : q_M_run S (f + 1) 122 L st h = (S 122 L st h) := by rw [q_M_run, hz_w_at d_M_run_122]; rfl
theorem d_M_run_125 : decode c_M_run 125 = .ok (.aload_n 0, 1) := by decide +kernel
theorem e_M_run_125 {a1 a2 a3 : Option Value} : q_M_run S (f + 1) 125 [some (.ref i), a1, a2, a3] st h = (q_M_run S f 126 [some (.ref i), a1, a2, a3] (.ref i :: st) h) := by rw [q_M_run, hz_w_at d_M_run_125]; rfl
theorem e_M_run_125n {a1 a2 a3 : Option Value} : q_M_run S (f + 1) 125 [some .null, a1, a2, a3] st h = (q_M_run S f 126 [some .null, a1, a2, a3] (.null :: st) h) := by rw [q_M_run, hz_w_at d_M_run_125]; rfl
theorem d_M_run_126 : decode c_M_run 126 = .ok (.iload_n 1, 1) := by decide +kernel
theorem e_M_run_126 {a0 a2 a3 : Option Value} : q_M_run S (f + 1) 126 [a0, some (.int x), a2, a3] st h = (q_M_run S f 127 [a0, some (.int x), a2, a3] (.int x :: st) h) := by rw [q_M_run, hz_w_at d_M_run_126]; rfl
theorem d_M_run_127 : decode c_M_run 127 = .ok (.bipush 65, 2) := by decide +kernel
theorem e_M_run_127 : q_M_run S (f + 1) 127 L st h = (q_M_run S f 129 L (.int (hz_n 65) :: st) h) := by rw [q_M_run, hz_w_at d_M_run_127]; rfl
theorem d_M_run_129 : decode c_M_run 129 = .ok (.isub, 1) := by decide +kernel
theorem e_M_run_129 : q_M_run S (f + 1) 129 L (.int y :: .int x :: st) h = (q_M_run S f 130 L (.int (x - y) :: st) h) := by rw [q_M_run, hz_w_at d_M_run_129]; rfl
theorem d_M_run_130 : decode c_M_run 130 = .ok (.invokevirtual 183, 3) := by decide +kernel
theorem e_M_run_130 : q_M_run S (f + 1) 130 L st h = (S 130 L st h) := by rw [q_M_run, hz_w_at d_M_run_130]; rfl
theorem d_M_run_133 : decode c_M_run 133 = .ok (.aload_n 0, 1) := by decide +kernel
theorem e_M_run_133 {a1 a2 a3 : Option Value} : q_M_run S (f + 1) 133 [some (.ref i), a1, a2, a3] st h = (q_M_run S f 134 [some (.ref i), a1, a2, a3] (.ref i :: st) h) := by rw [q_M_run, hz_w_at d_M_run_133]; rfl
theorem e_M_run_133n {a1 a2 a3 : Option Value} : q_M_run S (f + 1) 133 [some .null, a1, a2, a3] st h = (q_M_run S f 134 [some .null, a1, a2, a3] (.null :: st) h) := by rw [q_M_run, hz_w_at d_M_run_133]; rfl
theorem d_M_run_134 : decode c_M_run 134 = .ok (.getfield 177, 3) := by decide +kernel
theorem e_M_run_134 : q_M_run S (f + 1) 134 L (.ref i :: st) h = (hz_rd h i 5 34 fun v => q_M_run S f 137 L (v :: st) h) := by rw [q_M_run, hz_w_at d_M_run_134]; rfl
theorem d_M_run_137 : decode c_M_run 137 = .ok (.ifCond .ne 38, 3) := by decide +kernel
theorem e_M_run_137 : q_M_run S (f + 1) 137 L (.int x :: st) h = ((¬ x.toInt = 0 → q_M_run S f 175 L st h) ∧ (¬ (¬ x.toInt = 0) → q_M_run S f 140 L st h)) := by rw [q_M_run, hz_w_at d_M_run_137]; rfl
theorem d_M_run_140 : decode c_M_run 140 = .ok (.aload_n 0, 1) := by decide +kernel
theorem e_M_run_140 {a1 a2 a3 : Option Value} : q_M_run S (f + 1) 140 [some (.ref i), a1, a2, a3] st h = (q_M_run S f 141 [some (.ref i), a1, a2, a3] (.ref i :: st) h) := by rw [q_M_run, hz_w_at d_M_run_140]; rfl
theorem e_M_run_140n {a1 a2 a3 : Option Value} : q_M_run S (f + 1) 140 [some .null, a1, a2, a3] st h = (q_M_run S f 141 [some .null, a1, a2, a3] (.null :: st) h) := by rw [q_M_run, hz_w_at d_M_run_140]; rfl
theorem d_M_run_141 : decode c_M_run 141 = .ok (.getfield 159, 3) := by decide +kernel
theorem e_M_run_141 : q_M_run S (f + 1) 141 L (.ref i :: st) h = (hz_rd h i 5 35 fun v => q_M_run S f 144 L (v :: st) h) := by rw [q_M_run, hz_w_at d_M_run_141]; rfl
theorem d_M_run_144 : decode c_M_run 144 = .ok (.ifCond .ge 10, 3) := by decide +kernel
theorem e_M_run_144 : q_M_run S (f + 1) 144 L (.int x :: st) h = ((0 ≤ x.toInt → q_M_run S f 154 L st h) ∧ (¬ (0 ≤ x.toInt) → q_M_run S f 147 L st h)) := by rw [q_M_run, hz_w_at d_M_run_144]; rfl
theorem d_M_run_147 : decode c_M_run 147 = .ok (.aload_n 0, 1) := by decide +kernel
theorem e_M_run_147 {a1 a2 a3 : Option Value} : q_M_run S (f + 1) 147 [some (.ref i), a1, a2, a3] st h = (q_M_run S f 148 [some (.ref i), a1, a2, a3] (.ref i :: st) h) := by rw [q_M_run, hz_w_at d_M_run_147]; rfl
theorem e_M_run_147n {a1 a2 a3 : Option Value} : q_M_run S (f + 1) 147 [some .null, a1, a2, a3] st h = (q_M_run S f 148 [some .null, a1, a2, a3] (.null :: st) h) := by rw [q_M_run, hz_w_at d_M_run_147]; rfl
theorem d_M_run_148 : decode c_M_run 148 = .ok (.getfield 156, 3) := by decide +kernel
theorem e_M_run_148 : q_M_run S (f + 1) 148 L (.ref i :: st) h = (hz_rd h i 5 29 fun v => q_M_run S f 151 L (v :: st) h) := by rw [q_M_run, hz_w_at d_M_run_148]; rfl
theorem d_M_run_151 : decode c_M_run 151 = .ok (.ifCond .le 24, 3) := by decide +kernel
theorem e_M_run_151 : q_M_run S (f + 1) 151 L (.int x :: st) h = ((x.toInt ≤ 0 → q_M_run S f 175 L st h) ∧ (¬ (x.toInt ≤ 0) → q_M_run S f 154 L st h)) := by rw [q_M_run, hz_w_at d_M_run_151]; rfl
theorem d_M_run_154 : decode c_M_run 154 = .ok (.aload_n 0, 1) := by decide +kernel
theorem e_M_run_154 {a1 a2 a3 : Option Value} : q_M_run S (f + 1) 154 [some (.ref i), a1, a2, a3] st h = (q_M_run S f 155 [some (.ref i), a1, a2, a3] (.ref i :: st) h) := by rw [q_M_run, hz_w_at d_M_run_154]; rfl
theorem e_M_run_154n {a1 a2 a3 : Option Value} : q_M_run S (f + 1) 154 [some .null, a1, a2, a3] st h = (q_M_run S f 155 [some .null, a1, a2, a3] (.null :: st) h) := by rw [q_M_run, hz_w_at d_M_run_154]; rfl
theorem d_M_run_155 : decode c_M_run 155 = .ok (.getfield 159, 3) := by decide +kernel
theorem e_M_run_155 : q_M_run S (f + 1) 155 L (.ref i :: st) h = (hz_rd h i 5 35 fun v => q_M_run S f 158 L (v :: st) h) := by rw [q_M_run, hz_w_at d_M_run_155]; rfl
theorem d_M_run_158 : decode c_M_run 158 = .ok (.ifCond .lt 10, 3) := by decide +kernel
theorem e_M_run_158 : q_M_run S (f + 1) 158 L (.int x :: st) h = ((x.toInt < 0 → q_M_run S f 168 L st h) ∧ (¬ (x.toInt < 0) → q_M_run S f 161 L st h)) := by rw [q_M_run, hz_w_at d_M_run_158]; rfl
theorem d_M_run_161 : decode c_M_run 161 = .ok (.aload_n 0, 1) := by decide +kernel
theorem e_M_run_161 {a1 a2 a3 : Option Value} : q_M_run S (f + 1) 161 [some (.ref i), a1, a2, a3] st h = (q_M_run S f 162 [some (.ref i), a1, a2, a3] (.ref i :: st) h) := by rw [q_M_run, hz_w_at d_M_run_161]; rfl
theorem e_M_run_161n {a1 a2 a3 : Option Value} : q_M_run S (f + 1) 161 [some .null, a1, a2, a3] st h = (q_M_run S f 162 [some .null, a1, a2, a3] (.null :: st) h) := by rw [q_M_run, hz_w_at d_M_run_161]; rfl
theorem d_M_run_162 : decode c_M_run 162 = .ok (.invokevirtual 256, 3) := by decide +kernel
theorem e_M_run_162 : q_M_run S (f + 1) 162 L st h = (S 162 L st h) := by rw [q_M_run, hz_w_at d_M_run_162]; rfl
theorem d_M_run_165 : decode c_M_run 165 = .ok (.goto (-32), 3) := by decide +kernel
theorem e_M_run_165 : q_M_run S (f + 1) 165 L st h = (S 133 L st h) := by rw [q_M_run, hz_w_at d_M_run_165]; rfl
theorem d_M_run_168 : decode c_M_run 168 = .ok (.aload_n 0, 1) := by decide +kernel
theorem e_M_run_168 {a1 a2 a3 : Option Value} : q_M_run S (f + 1) 168 [some (.ref i), a1, a2, a3] st h = (q_M_run S f 169 [some (.ref i), a1, a2, a3] (.ref i :: st) h) := by rw [q_M_run, hz_w_at d_M_run_168]; rfl
theorem e_M_run_168n {a1 a2 a3 : Option Value} : q_M_run S (f + 1) 168 [some .null, a1, a2, a3] st h = (q_M_run S f 169 [some .null, a1, a2, a3] (.null :: st) h) := by rw [q_M_run, hz_w_at d_M_run_168]; rfl
theorem d_M_run_169 : decode c_M_run 169 = .ok (.invokevirtual 259, 3) := by decide +kernel
theorem e_M_run_169 : q_M_run S (f + 1) 169 L st h = (S 169 L st h) := by rw [q_M_run, hz_w_at d_M_run_169]; rfl
theorem d_M_run_172 : decode c_M_run 172 = .ok (.goto (-39), 3) := by decide +kernel
theorem e_M_run_172 : q_M_run S (f + 1) 172 L st h = (S 133 L st h) := by rw [q_M_run, hz_w_at d_M_run_172]; rfl
theorem d_M_run_175 : decode c_M_run 175 = .ok (.aload_n 0, 1) := by decide +kernel
theorem e_M_run_175 {a1 a2 a3 : Option Value} : q_M_run S (f + 1) 175 [some (.ref i), a1, a2, a3] st h = (q_M_run S f 176 [some (.ref i), a1, a2, a3] (.ref i :: st) h) := by rw [q_M_run, hz_w_at d_M_run_175]; rfl
theorem e_M_run_175n {a1 a2 a3 : Option Value} : q_M_run S (f + 1) 175 [some .null, a1, a2, a3] st h = (q_M_run S f 176 [some .null, a1, a2, a3] (.null :: st) h) := by rw [q_M_run, hz_w_at d_M_run_175]; rfl
theorem d_M_run_176 : decode c_M_run 176 = .ok (.getfield 177, 3) := by decide +kernel
theorem e_M_run_176 : q_M_run S (f + 1) 176 L (.ref i :: st) h = (hz_rd h i 5 34 fun v => q_M_run S f 179 L (v :: st) h) := by rw [q_M_run, hz_w_at d_M_run_176]; rfl
theorem d_M_run_179 : decode c_M_run 179 = .ok (.ifCond .ge 10, 3) := by decide +kernel
theorem e_M_run_179 : q_M_run S (f + 1) 179 L (.int x :: st) h = ((0 ≤ x.toInt → q_M_run S f 189 L st h) ∧ (¬ (0 ≤ x.toInt) → q_M_run S f 182 L st h)) := by rw [q_M_run, hz_w_at d_M_run_179]; rfl
theorem d_M_run_182 : decode c_M_run 182 = .ok (.aload_n 0, 1) := by decide +kernel
theorem e_M_run_182 {a1 a2 a3 : Option Value} : q_M_run S (f + 1) 182 [some (.ref i), a1, a2, a3] st h = (q_M_run S f 183 [some (.ref i), a1, a2, a3] (.ref i :: st) h) := by rw [q_M_run, hz_w_at d_M_run_182]; rfl
theorem e_M_run_182n {a1 a2 a3 : Option Value} : q_M_run S (f + 1) 182 [some .null, a1, a2, a3] st h = (q_M_run S f 183 [some .null, a1, a2, a3] (.null :: st) h) := by rw [q_M_run, hz_w_at d_M_run_182]; rfl
theorem d_M_run_183 : decode c_M_run 183 = .ok (.getfield 177, 3) := by decide +kernel
theorem e_M_run_183 : q_M_run S (f + 1) 183 L (.ref i :: st) h = (hz_rd h i 5 34 fun v => q_M_run S f 186 L (v :: st) h) := by rw [q_M_run, hz_w_at d_M_run_183]; rfl
theorem d_M_run_186 : decode c_M_run 186 = .ok (.goto 7, 3) := by decide +kernel
theorem e_M_run_186 : q_M_run S (f + 1) 186 L st h = (q_M_run S f 193 L st h) := by rw [q_M_run, hz_w_at d_M_run_186]; rfl
theorem d_M_run_189 : decode c_M_run 189 = .ok (.aload_n 0, 1) := by decide +kernel
theorem e_M_run_189 {a1 a2 a3 : Option Value} : q_M_run S (f + 1) 189 [some (.ref i), a1, a2, a3] st h = (q_M_run S f 190 [some (.ref i), a1, a2, a3] (.ref i :: st) h) := by rw [q_M_run, hz_w_at d_M_run_189]; rfl
theorem e_M_run_189n {a1 a2 a3 : Option Value} : q_M_run S (f + 1) 189 [some .null, a1, a2, a3] st h = (q_M_run S f 190 [some .null, a1, a2, a3] (.null :: st) h) := by rw [q_M_run, hz_w_at d_M_run_189]; rfl
theorem d_M_run_190 : decode c_M_run 190 = .ok (.getfield 224, 3) := by decide +kernel
theorem e_M_run_190 : q_M_run S (f + 1) 190 L (.ref i :: st) h = (hz_rd h i 5 3 fun v => q_M_run S f 193 L (v :: st) h) := by rw [q_M_run, hz_w_at d_M_run_190]; rfl
theorem d_M_run_193 : decode c_M_run 193 = .ok (.ireturn, 1) := by decide +kernel
theorem e_M_run_193 : q_M_run S (f + 1) 193 L st h = (S 193 L st h) := by rw [q_M_run, hz_w_at d_M_run_193]; rfl
end
abbrev q_M_entries (S : Nat → List (Option Value) → List Value → hz_H → Prop) := hz_w zCl zKT f_M n_M c_M_entries [] S
section
variable {S : Nat → List (Option Value) → List Value → hz_H → Prop} {f : Nat} {L : List (Option Value)} {st : List Value} {h : hz_H} {x y : Int32} {i j : Nat} {X Y : Int64}
theorem d_M_entries_0 : decode c_M_entries 0 = .ok (.aload_n 0, 1) := by decide +kernel
theorem e_M_entries_0 : q_M_entries S (f + 1) 0 [some (.ref i)] st h = (q_M_entries S f 1 [some (.ref i)] (.ref i :: st) h) := by rw [q_M_entries, hz_w_at d_M_entries_0]; rfl
theorem e_M_entries_0n : q_M_entries S (f + 1) 0 [some .null] st h = (q_M_entries S f 1 [some .null] (.null :: st) h) := by rw [q_M_entries, hz_w_at d_M_entries_0]; rfl
theorem d_M_entries_1 : decode c_M_entries 1 = .ok (.iconst 0, 1) := by decide +kernel
theorem e_M_entries_1 : q_M_entries S (f + 1) 1 L st h = (q_M_entries S f 2 L (.int (hz_n 0) :: st) h) := by rw [q_M_entries, hz_w_at d_M_entries_1]; rfl
theorem d_M_entries_2 : decode c_M_entries 2 = .ok (.putfield 80, 3) := by decide +kernel
theorem e_M_entries_2 : q_M_entries S (f + 1) 2 L (.int x :: .ref i :: st) h = (hz_wr h i 5 0 (.int x) fun h => q_M_entries S f 5 L st h) := by rw [q_M_entries, hz_w_at d_M_entries_2]; rfl
theorem d_M_entries_5 : decode c_M_entries 5 = .ok (.aload_n 0, 1) := by decide +kernel
theorem e_M_entries_5 : q_M_entries S (f + 1) 5 [some (.ref i)] st h = (q_M_entries S f 6 [some (.ref i)] (.ref i :: st) h) := by rw [q_M_entries, hz_w_at d_M_entries_5]; rfl
theorem e_M_entries_5n : q_M_entries S (f + 1) 5 [some .null] st h = (q_M_entries S f 6 [some .null] (.null :: st) h) := by rw [q_M_entries, hz_w_at d_M_entries_5]; rfl
theorem d_M_entries_6 : decode c_M_entries 6 = .ok (.getfield 171, 3) := by decide +kernel
theorem e_M_entries_6 : q_M_entries S (f + 1) 6 L (.ref i :: st) h = (hz_rd h i 5 33 fun v => q_M_entries S f 9 L (v :: st) h) := by rw [q_M_entries, hz_w_at d_M_entries_6]; rfl
theorem d_M_entries_9 : decode c_M_entries 9 = .ok (.ireturn, 1) := by decide +kernel
theorem e_M_entries_9 : q_M_entries S (f + 1) 9 L st h = (S 9 L st h) := by rw [q_M_entries, hz_w_at d_M_entries_9]; rfl
end
abbrev q_M_length (S : Nat → List (Option Value) → List Value → hz_H → Prop) := hz_w zCl zKT f_M n_M c_M_length [] S
section
variable {S : Nat → List (Option Value) → List Value → hz_H → Prop} {f : Nat} {L : List (Option Value)} {st : List Value} {h : hz_H} {x y : Int32} {i j : Nat} {X Y : Int64}
theorem d_M_length_0 : decode c_M_length 0 = .ok (.aload_n 0, 1) := by decide +kernel
theorem e_M_length_0 : q_M_length S (f + 1) 0 [some (.ref i)] st h = (q_M_length S f 1 [some (.ref i)] (.ref i :: st) h) := by rw [q_M_length, hz_w_at d_M_length_0]; rfl
theorem e_M_length_0n : q_M_length S (f + 1) 0 [some .null] st h = (q_M_length S f 1 [some .null] (.null :: st) h) := by rw [q_M_length, hz_w_at d_M_length_0]; rfl
theorem d_M_length_1 : decode c_M_length 1 = .ok (.iconst 0, 1) := by decide +kernel
theorem e_M_length_1 : q_M_length S (f + 1) 1 L st h = (q_M_length S f 2 L (.int (hz_n 0) :: st) h) := by rw [q_M_length, hz_w_at d_M_length_1]; rfl
theorem d_M_length_2 : decode c_M_length 2 = .ok (.putfield 80, 3) := by decide +kernel
theorem e_M_length_2 : q_M_length S (f + 1) 2 L (.int x :: .ref i :: st) h = (hz_wr h i 5 0 (.int x) fun h => q_M_length S f 5 L st h) := by rw [q_M_length, hz_w_at d_M_length_2]; rfl
theorem d_M_length_5 : decode c_M_length 5 = .ok (.aload_n 0, 1) := by decide +kernel
theorem e_M_length_5 : q_M_length S (f + 1) 5 [some (.ref i)] st h = (q_M_length S f 6 [some (.ref i)] (.ref i :: st) h) := by rw [q_M_length, hz_w_at d_M_length_5]; rfl
theorem e_M_length_5n : q_M_length S (f + 1) 5 [some .null] st h = (q_M_length S f 6 [some .null] (.null :: st) h) := by rw [q_M_length, hz_w_at d_M_length_5]; rfl
theorem d_M_length_6 : decode c_M_length 6 = .ok (.getfield 224, 3) := by decide +kernel
theorem e_M_length_6 : q_M_length S (f + 1) 6 L (.ref i :: st) h = (hz_rd h i 5 3 fun v => q_M_length S f 9 L (v :: st) h) := by rw [q_M_length, hz_w_at d_M_length_6]; rfl
theorem d_M_length_9 : decode c_M_length 9 = .ok (.ireturn, 1) := by decide +kernel
theorem e_M_length_9 : q_M_length S (f + 1) 9 L st h = (S 9 L st h) := by rw [q_M_length, hz_w_at d_M_length_9]; rfl
end
abbrev q_M_charAt (S : Nat → List (Option Value) → List Value → hz_H → Prop) := hz_w zCl zKT f_M n_M c_M_charAt [] S
section
variable {S : Nat → List (Option Value) → List Value → hz_H → Prop} {f : Nat} {L : List (Option Value)} {st : List Value} {h : hz_H} {x y : Int32} {i j : Nat} {X Y : Int64}
theorem d_M_charAt_0 : decode c_M_charAt 0 = .ok (.aload_n 0, 1) := by decide +kernel
theorem e_M_charAt_0 {a1 : Option Value} : q_M_charAt S (f + 1) 0 [some (.ref i), a1] st h = (q_M_charAt S f 1 [some (.ref i), a1] (.ref i :: st) h) := by rw [q_M_charAt, hz_w_at d_M_charAt_0]; rfl
theorem e_M_charAt_0n {a1 : Option Value} : q_M_charAt S (f + 1) 0 [some .null, a1] st h = (q_M_charAt S f 1 [some .null, a1] (.null :: st) h) := by rw [q_M_charAt, hz_w_at d_M_charAt_0]; rfl
theorem d_M_charAt_1 : decode c_M_charAt 1 = .ok (.iconst 0, 1) := by decide +kernel
theorem e_M_charAt_1 : q_M_charAt S (f + 1) 1 L st h = (q_M_charAt S f 2 L (.int (hz_n 0) :: st) h) := by rw [q_M_charAt, hz_w_at d_M_charAt_1]; rfl
theorem d_M_charAt_2 : decode c_M_charAt 2 = .ok (.putfield 80, 3) := by decide +kernel
theorem e_M_charAt_2 : q_M_charAt S (f + 1) 2 L (.int x :: .ref i :: st) h = (hz_wr h i 5 0 (.int x) fun h => q_M_charAt S f 5 L st h) := by rw [q_M_charAt, hz_w_at d_M_charAt_2]; rfl
theorem d_M_charAt_5 : decode c_M_charAt 5 = .ok (.iload_n 1, 1) := by decide +kernel
theorem e_M_charAt_5 {a0 : Option Value} : q_M_charAt S (f + 1) 5 [a0, some (.int x)] st h = (q_M_charAt S f 6 [a0, some (.int x)] (.int x :: st) h) := by rw [q_M_charAt, hz_w_at d_M_charAt_5]; rfl
theorem d_M_charAt_6 : decode c_M_charAt 6 = .ok (.ifCond .lt 11, 3) := by decide +kernel
theorem e_M_charAt_6 : q_M_charAt S (f + 1) 6 L (.int x :: st) h = ((x.toInt < 0 → q_M_charAt S f 17 L st h) ∧ (¬ (x.toInt < 0) → q_M_charAt S f 9 L st h)) := by rw [q_M_charAt, hz_w_at d_M_charAt_6]; rfl
theorem d_M_charAt_9 : decode c_M_charAt 9 = .ok (.iload_n 1, 1) := by decide +kernel
theorem e_M_charAt_9 {a0 : Option Value} : q_M_charAt S (f + 1) 9 [a0, some (.int x)] st h = (q_M_charAt S f 10 [a0, some (.int x)] (.int x :: st) h) := by rw [q_M_charAt, hz_w_at d_M_charAt_9]; rfl
theorem d_M_charAt_10 : decode c_M_charAt 10 = .ok (.aload_n 0, 1) := by decide +kernel
theorem e_M_charAt_10 {a1 : Option Value} : q_M_charAt S (f + 1) 10 [some (.ref i), a1] st h = (q_M_charAt S f 11 [some (.ref i), a1] (.ref i :: st) h) := by rw [q_M_charAt, hz_w_at d_M_charAt_10]; rfl
theorem e_M_charAt_10n {a1 : Option Value} : q_M_charAt S (f + 1) 10 [some .null, a1] st h = (q_M_charAt S f 11 [some .null, a1] (.null :: st) h) := by rw [q_M_charAt, hz_w_at d_M_charAt_10]; rfl
theorem d_M_charAt_11 : decode c_M_charAt 11 = .ok (.getfield 224, 3) := by decide +kernel
theorem e_M_charAt_11 : q_M_charAt S (f + 1) 11 L (.ref i :: st) h = (hz_rd h i 5 3 fun v => q_M_charAt S f 14 L (v :: st) h) := by rw [q_M_charAt, hz_w_at d_M_charAt_11]; rfl
theorem d_M_charAt_14 : decode c_M_charAt 14 = .ok (.if_icmp .lt 8, 3) := by decide +kernel
theorem e_M_charAt_14 : q_M_charAt S (f + 1) 14 L (.int y :: .int x :: st) h = ((x.toInt < y.toInt → q_M_charAt S f 22 L st h) ∧ (¬ (x.toInt < y.toInt) → q_M_charAt S f 17 L st h)) := by rw [q_M_charAt, hz_w_at d_M_charAt_14]; rfl
theorem d_M_charAt_17 : decode c_M_charAt 17 = .ok (.bipush 32, 2) := by decide +kernel
theorem e_M_charAt_17 : q_M_charAt S (f + 1) 17 L st h = (q_M_charAt S f 19 L (.int (hz_n 32) :: st) h) := by rw [q_M_charAt, hz_w_at d_M_charAt_17]; rfl
theorem d_M_charAt_19 : decode c_M_charAt 19 = .ok (.goto 10, 3) := by decide +kernel
theorem e_M_charAt_19 : q_M_charAt S (f + 1) 19 L st h = (q_M_charAt S f 29 L st h) := by rw [q_M_charAt, hz_w_at d_M_charAt_19]; rfl
theorem d_M_charAt_22 : decode c_M_charAt 22 = .ok (.aload_n 0, 1) := by decide +kernel
theorem e_M_charAt_22 {a1 : Option Value} : q_M_charAt S (f + 1) 22 [some (.ref i), a1] st h = (q_M_charAt S f 23 [some (.ref i), a1] (.ref i :: st) h) := by rw [q_M_charAt, hz_w_at d_M_charAt_22]; rfl
theorem e_M_charAt_22n {a1 : Option Value} : q_M_charAt S (f + 1) 22 [some .null, a1] st h = (q_M_charAt S f 23 [some .null, a1] (.null :: st) h) := by rw [q_M_charAt, hz_w_at d_M_charAt_22]; rfl
theorem d_M_charAt_23 : decode c_M_charAt 23 = .ok (.getfield 13, 3) := by decide +kernel
theorem e_M_charAt_23 : q_M_charAt S (f + 1) 23 L (.ref i :: st) h = (hz_rd h i 5 4 fun v => q_M_charAt S f 26 L (v :: st) h) := by rw [q_M_charAt, hz_w_at d_M_charAt_23]; rfl
theorem d_M_charAt_26 : decode c_M_charAt 26 = .ok (.iload_n 1, 1) := by decide +kernel
theorem e_M_charAt_26 {a0 : Option Value} : q_M_charAt S (f + 1) 26 [a0, some (.int x)] st h = (q_M_charAt S f 27 [a0, some (.int x)] (.int x :: st) h) := by rw [q_M_charAt, hz_w_at d_M_charAt_26]; rfl
theorem d_M_charAt_27 : decode c_M_charAt 27 = .ok (.iaload, 1) := by decide +kernel
theorem e_M_charAt_27 : q_M_charAt S (f + 1) 27 L (.int x :: .ref i :: st) h = (hz_ea zKT hz_kI h i x fun v => q_M_charAt S f 28 L (v :: st) h) := by rw [q_M_charAt, hz_w_at d_M_charAt_27]; rfl
theorem d_M_charAt_28 : decode c_M_charAt 28 = .ok (.i2c, 1) := by decide +kernel
theorem e_M_charAt_28 : q_M_charAt S (f + 1) 28 L (.int x :: st) h = (q_M_charAt S f 29 L (.int (hz_ch x) :: st) h) := by rw [q_M_charAt, hz_w_at d_M_charAt_28]; rfl
theorem d_M_charAt_29 : decode c_M_charAt 29 = .ok (.ireturn, 1) := by decide +kernel
theorem e_M_charAt_29 : q_M_charAt S (f + 1) 29 L st h = (S 29 L st h) := by rw [q_M_charAt, hz_w_at d_M_charAt_29]; rfl
end
